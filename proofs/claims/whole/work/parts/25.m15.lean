def rm_X12_goesStep : Room := { frames := 9, cells := 0, slots := 0, locals := 190 }
theorem dX12_goesStep_0 : decode cX12_goesStep 0 = .ok (.aload_n 0, 1) := by decide +kernel
theorem dX12_goesStep_1 : decode cX12_goesStep 1 = .ok (.getfield 64, 3) := by decide +kernel
theorem dX12_goesStep_4 : decode cX12_goesStep 4 = .ok (.iload_n 1, 1) := by decide +kernel
theorem dX12_goesStep_5 : decode cX12_goesStep 5 = .ok (.iaload, 1) := by decide +kernel
theorem dX12_goesStep_6 : decode cX12_goesStep 6 = .ok (.iconst 1, 1) := by decide +kernel
theorem dX12_goesStep_7 : decode cX12_goesStep 7 = .ok (.if_icmp .ne 17, 3) := by decide +kernel
theorem dX12_goesStep_10 : decode cX12_goesStep 10 = .ok (.aload_n 0, 1) := by decide +kernel
theorem dX12_goesStep_11 : decode cX12_goesStep 11 = .ok (.iload_n 1, 1) := by decide +kernel
theorem dX12_goesStep_12 : decode cX12_goesStep 12 = .ok (.aload_n 0, 1) := by decide +kernel
theorem dX12_goesStep_13 : decode cX12_goesStep 13 = .ok (.getfield 67, 3) := by decide +kernel
theorem dX12_goesStep_16 : decode cX12_goesStep 16 = .ok (.iload_n 1, 1) := by decide +kernel
theorem dX12_goesStep_17 : decode cX12_goesStep 17 = .ok (.iaload, 1) := by decide +kernel
theorem dX12_goesStep_18 : decode cX12_goesStep 18 = .ok (.invokevirtual 323, 3) := by decide +kernel
theorem dX12_goesStep_21 : decode cX12_goesStep 21 = .ok (.goto 52, 3) := by decide +kernel
theorem dX12_goesStep_24 : decode cX12_goesStep 24 = .ok (.aload_n 0, 1) := by decide +kernel
theorem dX12_goesStep_25 : decode cX12_goesStep 25 = .ok (.getfield 64, 3) := by decide +kernel
theorem dX12_goesStep_28 : decode cX12_goesStep 28 = .ok (.iload_n 1, 1) := by decide +kernel
theorem dX12_goesStep_29 : decode cX12_goesStep 29 = .ok (.iaload, 1) := by decide +kernel
theorem dX12_goesStep_30 : decode cX12_goesStep 30 = .ok (.iconst 2, 1) := by decide +kernel
theorem dX12_goesStep_31 : decode cX12_goesStep 31 = .ok (.if_icmp .ne 17, 3) := by decide +kernel
theorem dX12_goesStep_34 : decode cX12_goesStep 34 = .ok (.aload_n 0, 1) := by decide +kernel
theorem dX12_goesStep_35 : decode cX12_goesStep 35 = .ok (.iload_n 1, 1) := by decide +kernel
theorem dX12_goesStep_36 : decode cX12_goesStep 36 = .ok (.aload_n 0, 1) := by decide +kernel
theorem dX12_goesStep_37 : decode cX12_goesStep 37 = .ok (.getfield 67, 3) := by decide +kernel
theorem dX12_goesStep_40 : decode cX12_goesStep 40 = .ok (.iload_n 1, 1) := by decide +kernel
theorem dX12_goesStep_41 : decode cX12_goesStep 41 = .ok (.iaload, 1) := by decide +kernel
theorem dX12_goesStep_42 : decode cX12_goesStep 42 = .ok (.invokevirtual 326, 3) := by decide +kernel
theorem dX12_goesStep_45 : decode cX12_goesStep 45 = .ok (.goto 28, 3) := by decide +kernel
theorem dX12_goesStep_48 : decode cX12_goesStep 48 = .ok (.aload_n 0, 1) := by decide +kernel
theorem dX12_goesStep_49 : decode cX12_goesStep 49 = .ok (.getfield 36, 3) := by decide +kernel
theorem dX12_goesStep_52 : decode cX12_goesStep 52 = .ok (.aload_n 0, 1) := by decide +kernel
theorem dX12_goesStep_53 : decode cX12_goesStep 53 = .ok (.getfield 64, 3) := by decide +kernel
theorem dX12_goesStep_56 : decode cX12_goesStep 56 = .ok (.iload_n 1, 1) := by decide +kernel
theorem dX12_goesStep_57 : decode cX12_goesStep 57 = .ok (.iaload, 1) := by decide +kernel
theorem dX12_goesStep_58 : decode cX12_goesStep 58 = .ok (.invokestatic 292, 3) := by decide +kernel
theorem dX12_goesStep_61 : decode cX12_goesStep 61 = .ok (.aload_n 0, 1) := by decide +kernel
theorem dX12_goesStep_62 : decode cX12_goesStep 62 = .ok (.getfield 67, 3) := by decide +kernel
theorem dX12_goesStep_65 : decode cX12_goesStep 65 = .ok (.iload_n 1, 1) := by decide +kernel
theorem dX12_goesStep_66 : decode cX12_goesStep 66 = .ok (.iaload, 1) := by decide +kernel
theorem dX12_goesStep_67 : decode cX12_goesStep 67 = .ok (.iastore, 1) := by decide +kernel
theorem dX12_goesStep_68 : decode cX12_goesStep 68 = .ok (.aload_n 0, 1) := by decide +kernel
theorem dX12_goesStep_69 : decode cX12_goesStep 69 = .ok (.iload_n 1, 1) := by decide +kernel
theorem dX12_goesStep_70 : decode cX12_goesStep 70 = .ok (.invokevirtual 314, 3) := by decide +kernel
theorem dX12_goesStep_73 : decode cX12_goesStep 73 = .ok (.return_, 1) := by decide +kernel
def f_X12_goesStep (S : SH) (a0 : Nat) (a1 : Int32) (μ : Mem) : Option (Unit × Mem) :=
  if isO S 12 a0 = true then
  (gR S 12 a0 25).bind fun v1 =>
  (aI S .int v1 a1 μ).bind fun v2 =>
  (if v2 = 1 then
  (gR S 12 a0 26).bind fun v16 =>
  (aI S .int v16 a1 μ).bind fun v17 =>
  (f_X12_slews S a0 a1 v17 μ).bind fun q18 =>
  some ((), q18.2)
  else
  (gR S 12 a0 25).bind fun v3 =>
  (aI S .int v3 a1 μ).bind fun v4 =>
  (if v4 = 2 then
  (gR S 12 a0 26).bind fun v13 =>
  (aI S .int v13 a1 μ).bind fun v14 =>
  (f_X12_reaches S a0 a1 v14 μ).bind fun q15 =>
  some ((), q15.2)
  else
  (gR S 12 a0 9).bind fun v5 =>
  (gR S 12 a0 25).bind fun v6 =>
  (aI S .int v6 a1 μ).bind fun v7 =>
  (f_X12_whatOf S v7 μ).bind fun q8 =>
  (gR S 12 a0 26).bind fun v9 =>
  (aI S .int v9 a1 q8.2).bind fun v10 =>
  (sI S v5 q8.1 v10 q8.2).bind fun ν11 =>
  (f_X12_looksAt S a0 a1 ν11).bind fun q12 =>
  some ((), q12.2)))
  else none
set_option maxRecDepth 100000 in
set_option maxHeartbeats 4000000 in
theorem c_X12_goesStep {l : Launch} {γ : GE} {S : SH} {a0 : Nat} {a1 : Int32} {μ : Mem} {X : (Unit × Mem)} (h : f_X12_goesStep S a0 a1 μ = some X) : isO S 12 a0 = true ∧ Ct l γ yX12_goesStep cX12_goesStep 2 (none) rm_X12_goesStep [.ref (gb γ + a0), .int a1] S μ S X.2 none := by
  unfold f_X12_goesStep at h
  obtain ⟨h0, h⟩ := if_some h
  refine ⟨h0, ?_⟩
  have hJ : ∀ (p : Program) (e : Env) (s : State) (m : MethodId) (args : Array Value) (below : List Frame) (meth : Method) (c : Code), FX γ p s m args meth c cX12_goesStep RX12 2 → meth.sig.returnType = (none) → JJ γ p l e rm_X12_goesStep s m args below meth c 2 0 0 (QV below γ S X args s 0 0) S μ 0 [(0, .ref (gb γ + a0)), (1, .int a1)] [] := by
    intro p e s m args below meth c F hr
    refine j_aload_n F 0 dX12_goesStep_0 rfl ?_
    refine j_gR F fl_RX12_64 rfl dX12_goesStep_1 h (fun v1 h => ?_)
    refine j_iload_n F 1 dX12_goesStep_4 rfl ?_
    refine j_iald F dX12_goesStep_5 h (fun v2 h => ?_)
    refine j_iconst F 1 dX12_goesStep_6 (by decide) ?_
    refine j_icmpne F 24 dX12_goesStep_7 (by decide) h (fun _ h => ?_) (fun _ h => ?_)
    · refine j_aload_n F 0 dX12_goesStep_24 rfl ?_
      refine j_gR F fl_RX12_64 rfl dX12_goesStep_25 h (fun v3 h => ?_)
      refine j_iload_n F 1 dX12_goesStep_28 rfl ?_
      refine j_iald F dX12_goesStep_29 h (fun v4 h => ?_)
      refine j_iconst F 2 dX12_goesStep_30 (by decide) ?_
      refine j_icmpne F 48 dX12_goesStep_31 (by decide) h (fun _ h => ?_) (fun _ h => ?_)
      · refine j_aload_n F 0 dX12_goesStep_48 rfl ?_
        refine j_gR F fl_RX12_36 rfl dX12_goesStep_49 h (fun v5 h => ?_)
        refine j_aload_n F 0 dX12_goesStep_52 rfl ?_
        refine j_gR F fl_RX12_64 rfl dX12_goesStep_53 h (fun v6 h => ?_)
        refine j_iload_n F 1 dX12_goesStep_56 rfl ?_
        refine j_iald F dX12_goesStep_57 h (fun v7 h => ?_)
        refine j_cSI F mi_X12_whatOf w_1374 (rest := [.ref (gb γ + v5)]) h (fun _ g => c_X12_whatOf g) rfl rfl (Nat.le_of_ble_eq_true rfl) ⟨Nat.le_of_ble_eq_true rfl, Nat.le_of_ble_eq_true rfl⟩ ⟨Nat.le_of_ble_eq_true rfl, Nat.le_of_ble_eq_true rfl⟩ dX12_goesStep_58 (fun q8 h => ?_)
        refine j_aload_n F 0 dX12_goesStep_61 rfl ?_
        refine j_gR F fl_RX12_67 rfl dX12_goesStep_62 h (fun v9 h => ?_)
        refine j_iload_n F 1 dX12_goesStep_65 rfl ?_
        refine j_iald F dX12_goesStep_66 h (fun v10 h => ?_)
        refine j_iast F dX12_goesStep_67 h (fun ν11 h => ?_)
        refine j_aload_n F 0 dX12_goesStep_68 rfl ?_
        refine j_iload_n F 1 dX12_goesStep_69 rfl ?_
        refine j_cVV F mi_X12_looksAt w_1397 (rest := []) h (fun _ g => c_X12_looksAt g) rfl rfl (Nat.le_of_ble_eq_true rfl) ⟨Nat.le_of_ble_eq_true rfl, Nat.le_of_ble_eq_true rfl⟩ ⟨Nat.le_of_ble_eq_true rfl, Nat.le_of_ble_eq_true rfl⟩ dX12_goesStep_70 (fun q12 h => ?_)
        exact j_vret F hr dX12_goesStep_73 h
      · refine j_aload_n F 0 dX12_goesStep_34 rfl ?_
        refine j_iload_n F 1 dX12_goesStep_35 rfl ?_
        refine j_aload_n F 0 dX12_goesStep_36 rfl ?_
        refine j_gR F fl_RX12_67 rfl dX12_goesStep_37 h (fun v13 h => ?_)
        refine j_iload_n F 1 dX12_goesStep_40 rfl ?_
        refine j_iald F dX12_goesStep_41 h (fun v14 h => ?_)
        refine j_cVV F mi_X12_reaches w_1410 (rest := []) h (fun _ g => c_X12_reaches g) rfl rfl (Nat.le_of_ble_eq_true rfl) ⟨Nat.le_of_ble_eq_true rfl, Nat.le_of_ble_eq_true rfl⟩ ⟨Nat.le_of_ble_eq_true rfl, Nat.le_of_ble_eq_true rfl⟩ dX12_goesStep_42 (fun q15 h => ?_)
        refine j_goto F 73 dX12_goesStep_45 (by decide) ?_
        exact j_vret F hr dX12_goesStep_73 h
    · refine j_aload_n F 0 dX12_goesStep_10 rfl ?_
      refine j_iload_n F 1 dX12_goesStep_11 rfl ?_
      refine j_aload_n F 0 dX12_goesStep_12 rfl ?_
      refine j_gR F fl_RX12_67 rfl dX12_goesStep_13 h (fun v16 h => ?_)
      refine j_iload_n F 1 dX12_goesStep_16 rfl ?_
      refine j_iald F dX12_goesStep_17 h (fun v17 h => ?_)
      refine j_cVV F mi_X12_slews w_1406 (rest := []) h (fun _ g => c_X12_slews g) rfl rfl (Nat.le_of_ble_eq_true rfl) ⟨Nat.le_of_ble_eq_true rfl, Nat.le_of_ble_eq_true rfl⟩ ⟨Nat.le_of_ble_eq_true rfl, Nat.le_of_ble_eq_true rfl⟩ dX12_goesStep_18 (fun q18 h => ?_)
      refine j_goto F 73 dX12_goesStep_21 (by decide) ?_
      exact j_vret F hr dX12_goesStep_73 h
  exact ct_of (by decide +kernel) (Nat.le_of_ble_eq_true rfl) (fun p e s m args below meth c F hr _ => hJ p e s m args below meth c F hr)
def rm_X12_remembers : Room := { frames := 0, cells := 0, slots := 0, locals := 0 }
theorem dX12_remembers_0 : decode cX12_remembers 0 = .ok (.iconst 0, 1) := by decide +kernel
theorem dX12_remembers_1 : decode cX12_remembers 1 = .ok (.istore_n 1, 1) := by decide +kernel
theorem dX12_remembers_2 : decode cX12_remembers 2 = .ok (.iload_n 1, 1) := by decide +kernel
theorem dX12_remembers_3 : decode cX12_remembers 3 = .ok (.bipush 14, 2) := by decide +kernel
theorem dX12_remembers_5 : decode cX12_remembers 5 = .ok (.if_icmp .ge 21, 3) := by decide +kernel
theorem dX12_remembers_8 : decode cX12_remembers 8 = .ok (.aload_n 0, 1) := by decide +kernel
theorem dX12_remembers_9 : decode cX12_remembers 9 = .ok (.getfield 76, 3) := by decide +kernel
theorem dX12_remembers_12 : decode cX12_remembers 12 = .ok (.iload_n 1, 1) := by decide +kernel
theorem dX12_remembers_13 : decode cX12_remembers 13 = .ok (.aload_n 0, 1) := by decide +kernel
theorem dX12_remembers_14 : decode cX12_remembers 14 = .ok (.getfield 36, 3) := by decide +kernel
theorem dX12_remembers_17 : decode cX12_remembers 17 = .ok (.iload_n 1, 1) := by decide +kernel
theorem dX12_remembers_18 : decode cX12_remembers 18 = .ok (.iaload, 1) := by decide +kernel
theorem dX12_remembers_19 : decode cX12_remembers 19 = .ok (.iastore, 1) := by decide +kernel
theorem dX12_remembers_20 : decode cX12_remembers 20 = .ok (.iinc 1 1, 3) := by decide +kernel
theorem dX12_remembers_23 : decode cX12_remembers 23 = .ok (.goto (-21), 3) := by decide +kernel
theorem dX12_remembers_26 : decode cX12_remembers 26 = .ok (.return_, 1) := by decide +kernel
def l_X12_remembers_2 (S : SH) (a0 : Nat) (k2 : (Int32 × Mem) → Option (Unit × Mem)) (x : (Int32 × Mem)) : Option (Unit × Mem) :=
 (if 14 ≤ x.1 then
 some ((), x.2)
 else
 (gR S 12 a0 35).bind fun v1 =>
 (gR S 12 a0 9).bind fun v2 =>
 (aI S .int v2 x.1 x.2).bind fun v3 =>
 (sI S v1 x.1 v3 x.2).bind fun ν4 =>
 k2 (x.1 + 1, ν4))
set_option maxRecDepth 100000 in
set_option maxHeartbeats 4000000 in
theorem t_X12_remembers_2 {γ : GE} {p : Program} {l : Launch} {e : Env} {s : State} {m : MethodId} {args : Array Value} {below : List Frame} {meth : Method} {c : Code} {S : SH} {X : (Unit × Mem)} (F : FX γ p s m args meth c cX12_remembers RX12 2) (hr : meth.sig.returnType = (none)) (a0 : Nat) (k2 : (Int32 × Mem) → Option (Unit × Mem)) (hk2 : ∀ (x2_1 : Int32) (ν : Mem), k2 (x2_1, ν) = some X → JJ γ p l e rm_X12_remembers s m args below meth c 2 0 0 (QV below γ S X args s 0 0) S ν 2 [(0, .ref (gb γ + a0)), (1, .int x2_1)] []) (x : (Int32 × Mem)) (h : l_X12_remembers_2 S a0 k2 x = some X) : JJ γ p l e rm_X12_remembers s m args below meth c 2 0 0 (QV below γ S X args s 0 0) S x.2 2 [(0, .ref (gb γ + a0)), (1, .int x.1)] [] := by
  unfold l_X12_remembers_2 at h
  refine j_iload_n F 1 dX12_remembers_2 rfl ?_
  refine j_bipush F 14 dX12_remembers_3 (by decide) ?_
  refine j_icmpge F 26 dX12_remembers_5 (by decide) h (fun _ h => ?_) (fun _ h => ?_)
  · exact j_vret F hr dX12_remembers_26 h
  · refine j_aload_n F 0 dX12_remembers_8 rfl ?_
    refine j_gR F fl_RX12_76 rfl dX12_remembers_9 h (fun v1 h => ?_)
    refine j_iload_n F 1 dX12_remembers_12 rfl ?_
    refine j_aload_n F 0 dX12_remembers_13 rfl ?_
    refine j_gR F fl_RX12_36 rfl dX12_remembers_14 h (fun v2 h => ?_)
    refine j_iload_n F 1 dX12_remembers_17 rfl ?_
    refine j_iald F dX12_remembers_18 h (fun v3 h => ?_)
    refine j_iast F dX12_remembers_19 h (fun ν4 h => ?_)
    refine j_iinc F 1 1 [(1, .int (x.1 + 1)), (0, .ref (gb γ + a0))] dX12_remembers_20 rfl (by decide) (by decide) rfl ?_
    refine j_goto F 2 dX12_remembers_23 (by decide) ?_
    refine j_lv [(0, .ref (gb γ + a0)), (1, .int (x.1 + 1))] [1, 0] rfl ?_
    exact hk2 _ _ h
theorem s_X12_remembers_2 {γ : GE} {p : Program} {l : Launch} {e : Env} {s : State} {m : MethodId} {args : Array Value} {below : List Frame} {meth : Method} {c : Code} {S : SH} {X : (Unit × Mem)} (F : FX γ p s m args meth c cX12_remembers RX12 2) (hr : meth.sig.returnType = (none)) (a0 : Nat) (x2_1 : Int32) (ν : Mem) (h : lpN (l_X12_remembers_2 S a0) fu (x2_1, ν) = some X) : JJ γ p l e rm_X12_remembers s m args below meth c 2 0 0 (QV below γ S X args s 0 0) S ν 2 [(0, .ref (gb γ + a0)), (1, .int x2_1)] [] :=
 lpN_sound (fun x => JJ γ p l e rm_X12_remembers s m args below meth c 2 0 0 (QV below γ S X args s 0 0) S x.2 2 [(0, .ref (gb γ + a0)), (1, .int x.1)] []) (fun k2 hk2 x h => t_X12_remembers_2 F hr a0 k2 (fun x2_1 ν h => hk2 (x2_1, ν) h) x h) fu (x2_1, ν) h
def f_X12_remembers (S : SH) (a0 : Nat) (μ : Mem) : Option (Unit × Mem) :=
  if isO S 12 a0 = true then
  lpN (l_X12_remembers_2 S  a0) fu (0, μ)
  else none
set_option maxRecDepth 100000 in
set_option maxHeartbeats 4000000 in
theorem c_X12_remembers {l : Launch} {γ : GE} {S : SH} {a0 : Nat} {μ : Mem} {X : (Unit × Mem)} (h : f_X12_remembers S a0 μ = some X) : isO S 12 a0 = true ∧ Ct l γ yX12_remembers cX12_remembers 2 (none) rm_X12_remembers [.ref (gb γ + a0)] S μ S X.2 none := by
  unfold f_X12_remembers at h
  obtain ⟨h0, h⟩ := if_some h
  refine ⟨h0, ?_⟩
  have hJ : ∀ (p : Program) (e : Env) (s : State) (m : MethodId) (args : Array Value) (below : List Frame) (meth : Method) (c : Code), FX γ p s m args meth c cX12_remembers RX12 2 → meth.sig.returnType = (none) → JJ γ p l e rm_X12_remembers s m args below meth c 2 0 0 (QV below γ S X args s 0 0) S μ 0 [(0, .ref (gb γ + a0))] [] := by
    intro p e s m args below meth c F hr
    refine j_iconst F 0 dX12_remembers_0 (by decide) ?_
    refine j_istore_n F [(1, .int 0), (0, .ref (gb γ + a0))] dX12_remembers_1 rfl (by decide) rfl ?_
    refine j_lv [(0, .ref (gb γ + a0)), (1, .int 0)] [1, 0] rfl ?_
    exact s_X12_remembers_2 F hr _ _ _ h
  exact ct_of (by decide +kernel) (Nat.le_of_ble_eq_true rfl) (fun p e s m args below meth c F hr _ => hJ p e s m args below meth c F hr)
def rm_X12_returns : Room := { frames := 0, cells := 0, slots := 0, locals := 0 }
theorem dX12_returns_0 : decode cX12_returns 0 = .ok (.iconst 0, 1) := by decide +kernel
theorem dX12_returns_1 : decode cX12_returns 1 = .ok (.istore_n 1, 1) := by decide +kernel
theorem dX12_returns_2 : decode cX12_returns 2 = .ok (.iload_n 1, 1) := by decide +kernel
theorem dX12_returns_3 : decode cX12_returns 3 = .ok (.bipush 14, 2) := by decide +kernel
theorem dX12_returns_5 : decode cX12_returns 5 = .ok (.if_icmp .ge 21, 3) := by decide +kernel
theorem dX12_returns_8 : decode cX12_returns 8 = .ok (.aload_n 0, 1) := by decide +kernel
theorem dX12_returns_9 : decode cX12_returns 9 = .ok (.getfield 36, 3) := by decide +kernel
theorem dX12_returns_12 : decode cX12_returns 12 = .ok (.iload_n 1, 1) := by decide +kernel
theorem dX12_returns_13 : decode cX12_returns 13 = .ok (.aload_n 0, 1) := by decide +kernel
theorem dX12_returns_14 : decode cX12_returns 14 = .ok (.getfield 76, 3) := by decide +kernel
theorem dX12_returns_17 : decode cX12_returns 17 = .ok (.iload_n 1, 1) := by decide +kernel
theorem dX12_returns_18 : decode cX12_returns 18 = .ok (.iaload, 1) := by decide +kernel
theorem dX12_returns_19 : decode cX12_returns 19 = .ok (.iastore, 1) := by decide +kernel
theorem dX12_returns_20 : decode cX12_returns 20 = .ok (.iinc 1 1, 3) := by decide +kernel
theorem dX12_returns_23 : decode cX12_returns 23 = .ok (.goto (-21), 3) := by decide +kernel
theorem dX12_returns_26 : decode cX12_returns 26 = .ok (.return_, 1) := by decide +kernel
def l_X12_returns_2 (S : SH) (a0 : Nat) (k2 : (Int32 × Mem) → Option (Unit × Mem)) (x : (Int32 × Mem)) : Option (Unit × Mem) :=
 (if 14 ≤ x.1 then
 some ((), x.2)
 else
 (gR S 12 a0 9).bind fun v1 =>
 (gR S 12 a0 35).bind fun v2 =>
 (aI S .int v2 x.1 x.2).bind fun v3 =>
 (sI S v1 x.1 v3 x.2).bind fun ν4 =>
 k2 (x.1 + 1, ν4))
set_option maxRecDepth 100000 in
set_option maxHeartbeats 4000000 in
theorem t_X12_returns_2 {γ : GE} {p : Program} {l : Launch} {e : Env} {s : State} {m : MethodId} {args : Array Value} {below : List Frame} {meth : Method} {c : Code} {S : SH} {X : (Unit × Mem)} (F : FX γ p s m args meth c cX12_returns RX12 2) (hr : meth.sig.returnType = (none)) (a0 : Nat) (k2 : (Int32 × Mem) → Option (Unit × Mem)) (hk2 : ∀ (x2_1 : Int32) (ν : Mem), k2 (x2_1, ν) = some X → JJ γ p l e rm_X12_returns s m args below meth c 2 0 0 (QV below γ S X args s 0 0) S ν 2 [(0, .ref (gb γ + a0)), (1, .int x2_1)] []) (x : (Int32 × Mem)) (h : l_X12_returns_2 S a0 k2 x = some X) : JJ γ p l e rm_X12_returns s m args below meth c 2 0 0 (QV below γ S X args s 0 0) S x.2 2 [(0, .ref (gb γ + a0)), (1, .int x.1)] [] := by
  unfold l_X12_returns_2 at h
  refine j_iload_n F 1 dX12_returns_2 rfl ?_
  refine j_bipush F 14 dX12_returns_3 (by decide) ?_
  refine j_icmpge F 26 dX12_returns_5 (by decide) h (fun _ h => ?_) (fun _ h => ?_)
  · exact j_vret F hr dX12_returns_26 h
  · refine j_aload_n F 0 dX12_returns_8 rfl ?_
    refine j_gR F fl_RX12_36 rfl dX12_returns_9 h (fun v1 h => ?_)
    refine j_iload_n F 1 dX12_returns_12 rfl ?_
    refine j_aload_n F 0 dX12_returns_13 rfl ?_
    refine j_gR F fl_RX12_76 rfl dX12_returns_14 h (fun v2 h => ?_)
    refine j_iload_n F 1 dX12_returns_17 rfl ?_
    refine j_iald F dX12_returns_18 h (fun v3 h => ?_)
    refine j_iast F dX12_returns_19 h (fun ν4 h => ?_)
    refine j_iinc F 1 1 [(1, .int (x.1 + 1)), (0, .ref (gb γ + a0))] dX12_returns_20 rfl (by decide) (by decide) rfl ?_
    refine j_goto F 2 dX12_returns_23 (by decide) ?_
    refine j_lv [(0, .ref (gb γ + a0)), (1, .int (x.1 + 1))] [1, 0] rfl ?_
    exact hk2 _ _ h
theorem s_X12_returns_2 {γ : GE} {p : Program} {l : Launch} {e : Env} {s : State} {m : MethodId} {args : Array Value} {below : List Frame} {meth : Method} {c : Code} {S : SH} {X : (Unit × Mem)} (F : FX γ p s m args meth c cX12_returns RX12 2) (hr : meth.sig.returnType = (none)) (a0 : Nat) (x2_1 : Int32) (ν : Mem) (h : lpN (l_X12_returns_2 S a0) fu (x2_1, ν) = some X) : JJ γ p l e rm_X12_returns s m args below meth c 2 0 0 (QV below γ S X args s 0 0) S ν 2 [(0, .ref (gb γ + a0)), (1, .int x2_1)] [] :=
 lpN_sound (fun x => JJ γ p l e rm_X12_returns s m args below meth c 2 0 0 (QV below γ S X args s 0 0) S x.2 2 [(0, .ref (gb γ + a0)), (1, .int x.1)] []) (fun k2 hk2 x h => t_X12_returns_2 F hr a0 k2 (fun x2_1 ν h => hk2 (x2_1, ν) h) x h) fu (x2_1, ν) h
def f_X12_returns (S : SH) (a0 : Nat) (μ : Mem) : Option (Unit × Mem) :=
  if isO S 12 a0 = true then
  lpN (l_X12_returns_2 S  a0) fu (0, μ)
  else none
set_option maxRecDepth 100000 in
set_option maxHeartbeats 4000000 in
theorem c_X12_returns {l : Launch} {γ : GE} {S : SH} {a0 : Nat} {μ : Mem} {X : (Unit × Mem)} (h : f_X12_returns S a0 μ = some X) : isO S 12 a0 = true ∧ Ct l γ yX12_returns cX12_returns 2 (none) rm_X12_returns [.ref (gb γ + a0)] S μ S X.2 none := by
  unfold f_X12_returns at h
  obtain ⟨h0, h⟩ := if_some h
  refine ⟨h0, ?_⟩
  have hJ : ∀ (p : Program) (e : Env) (s : State) (m : MethodId) (args : Array Value) (below : List Frame) (meth : Method) (c : Code), FX γ p s m args meth c cX12_returns RX12 2 → meth.sig.returnType = (none) → JJ γ p l e rm_X12_returns s m args below meth c 2 0 0 (QV below γ S X args s 0 0) S μ 0 [(0, .ref (gb γ + a0))] [] := by
    intro p e s m args below meth c F hr
    refine j_iconst F 0 dX12_returns_0 (by decide) ?_
    refine j_istore_n F [(1, .int 0), (0, .ref (gb γ + a0))] dX12_returns_1 rfl (by decide) rfl ?_
    refine j_lv [(0, .ref (gb γ + a0)), (1, .int 0)] [1, 0] rfl ?_
    exact s_X12_returns_2 F hr _ _ _ h
  exact ct_of (by decide +kernel) (Nat.le_of_ble_eq_true rfl) (fun p e s m args below meth c F hr _ => hJ p e s m args below meth c F hr)
def rm_X12_goesAll : Room := { frames := 10, cells := 0, slots := 0, locals := 211 }
theorem dX12_goesAll_0 : decode cX12_goesAll 0 = .ok (.aload_n 0, 1) := by decide +kernel
theorem dX12_goesAll_1 : decode cX12_goesAll 1 = .ok (.invokevirtual 329, 3) := by decide +kernel
theorem dX12_goesAll_4 : decode cX12_goesAll 4 = .ok (.iconst 0, 1) := by decide +kernel
theorem dX12_goesAll_5 : decode cX12_goesAll 5 = .ok (.istore_n 1, 1) := by decide +kernel
theorem dX12_goesAll_6 : decode cX12_goesAll 6 = .ok (.iload_n 1, 1) := by decide +kernel
theorem dX12_goesAll_7 : decode cX12_goesAll 7 = .ok (.aload_n 0, 1) := by decide +kernel
theorem dX12_goesAll_8 : decode cX12_goesAll 8 = .ok (.getfield 297, 3) := by decide +kernel
theorem dX12_goesAll_11 : decode cX12_goesAll 11 = .ok (.if_icmp .ge 14, 3) := by decide +kernel
theorem dX12_goesAll_14 : decode cX12_goesAll 14 = .ok (.aload_n 0, 1) := by decide +kernel
theorem dX12_goesAll_15 : decode cX12_goesAll 15 = .ok (.iload_n 1, 1) := by decide +kernel
theorem dX12_goesAll_16 : decode cX12_goesAll 16 = .ok (.invokevirtual 332, 3) := by decide +kernel
theorem dX12_goesAll_19 : decode cX12_goesAll 19 = .ok (.iinc 1 1, 3) := by decide +kernel
theorem dX12_goesAll_22 : decode cX12_goesAll 22 = .ok (.goto (-16), 3) := by decide +kernel
theorem dX12_goesAll_25 : decode cX12_goesAll 25 = .ok (.return_, 1) := by decide +kernel
def l_X12_goesAll_6 (S : SH) (a0 : Nat) (k6 : (Int32 × Mem) → Option (Unit × Mem)) (x : (Int32 × Mem)) : Option (Unit × Mem) :=
 (gI S 12 a0 24 x.2).bind fun v2 =>
 (if v2 ≤ x.1 then
 some ((), x.2)
 else
 (f_X12_goesStep S a0 x.1 x.2).bind fun q3 =>
 k6 (x.1 + 1, q3.2))
set_option maxRecDepth 100000 in
set_option maxHeartbeats 4000000 in
theorem t_X12_goesAll_6 {γ : GE} {p : Program} {l : Launch} {e : Env} {s : State} {m : MethodId} {args : Array Value} {below : List Frame} {meth : Method} {c : Code} {S : SH} {X : (Unit × Mem)} (F : FX γ p s m args meth c cX12_goesAll RX12 2) (hr : meth.sig.returnType = (none)) (a0 : Nat) (k6 : (Int32 × Mem) → Option (Unit × Mem)) (hk6 : ∀ (x6_1 : Int32) (ν : Mem), k6 (x6_1, ν) = some X → JJ γ p l e rm_X12_goesAll s m args below meth c 2 0 0 (QV below γ S X args s 0 0) S ν 6 [(0, .ref (gb γ + a0)), (1, .int x6_1)] []) (x : (Int32 × Mem)) (h : l_X12_goesAll_6 S a0 k6 x = some X) : JJ γ p l e rm_X12_goesAll s m args below meth c 2 0 0 (QV below γ S X args s 0 0) S x.2 6 [(0, .ref (gb γ + a0)), (1, .int x.1)] [] := by
  unfold l_X12_goesAll_6 at h
  refine j_iload_n F 1 dX12_goesAll_6 rfl ?_
  refine j_aload_n F 0 dX12_goesAll_7 rfl ?_
  refine j_gI F fl_RX12_297.l rfl dX12_goesAll_8 h (fun v2 h => ?_)
  refine j_icmpge F 25 dX12_goesAll_11 (by decide) h (fun _ h => ?_) (fun _ h => ?_)
  · exact j_vret F hr dX12_goesAll_25 h
  · refine j_aload_n F 0 dX12_goesAll_14 rfl ?_
    refine j_iload_n F 1 dX12_goesAll_15 rfl ?_
    refine j_cVV F mi_X12_goesStep w_1402 (rest := []) h (fun _ g => c_X12_goesStep g) rfl rfl (Nat.le_of_ble_eq_true rfl) ⟨Nat.le_of_ble_eq_true rfl, Nat.le_of_ble_eq_true rfl⟩ ⟨Nat.le_of_ble_eq_true rfl, Nat.le_of_ble_eq_true rfl⟩ dX12_goesAll_16 (fun q3 h => ?_)
    refine j_iinc F 1 1 [(1, .int (x.1 + 1)), (0, .ref (gb γ + a0))] dX12_goesAll_19 rfl (by decide) (by decide) rfl ?_
    refine j_goto F 6 dX12_goesAll_22 (by decide) ?_
    refine j_lv [(0, .ref (gb γ + a0)), (1, .int (x.1 + 1))] [1, 0] rfl ?_
    exact hk6 _ _ h
theorem s_X12_goesAll_6 {γ : GE} {p : Program} {l : Launch} {e : Env} {s : State} {m : MethodId} {args : Array Value} {below : List Frame} {meth : Method} {c : Code} {S : SH} {X : (Unit × Mem)} (F : FX γ p s m args meth c cX12_goesAll RX12 2) (hr : meth.sig.returnType = (none)) (a0 : Nat) (x6_1 : Int32) (ν : Mem) (h : lpN (l_X12_goesAll_6 S a0) fu (x6_1, ν) = some X) : JJ γ p l e rm_X12_goesAll s m args below meth c 2 0 0 (QV below γ S X args s 0 0) S ν 6 [(0, .ref (gb γ + a0)), (1, .int x6_1)] [] :=
 lpN_sound (fun x => JJ γ p l e rm_X12_goesAll s m args below meth c 2 0 0 (QV below γ S X args s 0 0) S x.2 6 [(0, .ref (gb γ + a0)), (1, .int x.1)] []) (fun k6 hk6 x h => t_X12_goesAll_6 F hr a0 k6 (fun x6_1 ν h => hk6 (x6_1, ν) h) x h) fu (x6_1, ν) h
def f_X12_goesAll (S : SH) (a0 : Nat) (μ : Mem) : Option (Unit × Mem) :=
  if isO S 12 a0 = true then
  (f_X12_begins S a0 μ).bind fun q1 =>
  lpN (l_X12_goesAll_6 S  a0) fu (0, q1.2)
  else none
set_option maxRecDepth 100000 in
set_option maxHeartbeats 4000000 in
theorem c_X12_goesAll {l : Launch} {γ : GE} {S : SH} {a0 : Nat} {μ : Mem} {X : (Unit × Mem)} (h : f_X12_goesAll S a0 μ = some X) : isO S 12 a0 = true ∧ Ct l γ yX12_goesAll cX12_goesAll 2 (none) rm_X12_goesAll [.ref (gb γ + a0)] S μ S X.2 none := by
  unfold f_X12_goesAll at h
  obtain ⟨h0, h⟩ := if_some h
  refine ⟨h0, ?_⟩
  have hJ : ∀ (p : Program) (e : Env) (s : State) (m : MethodId) (args : Array Value) (below : List Frame) (meth : Method) (c : Code), FX γ p s m args meth c cX12_goesAll RX12 2 → meth.sig.returnType = (none) → JJ γ p l e rm_X12_goesAll s m args below meth c 2 0 0 (QV below γ S X args s 0 0) S μ 0 [(0, .ref (gb γ + a0))] [] := by
    intro p e s m args below meth c F hr
    refine j_aload_n F 0 dX12_goesAll_0 rfl ?_
    refine j_cVV F mi_X12_begins w_1393 (rest := []) h (fun _ g => c_X12_begins g) rfl rfl (Nat.le_of_ble_eq_true rfl) ⟨Nat.le_of_ble_eq_true rfl, Nat.le_of_ble_eq_true rfl⟩ ⟨Nat.le_of_ble_eq_true rfl, Nat.le_of_ble_eq_true rfl⟩ dX12_goesAll_1 (fun q1 h => ?_)
    refine j_iconst F 0 dX12_goesAll_4 (by decide) ?_
    refine j_istore_n F [(1, .int 0), (0, .ref (gb γ + a0))] dX12_goesAll_5 rfl (by decide) rfl ?_
    refine j_lv [(0, .ref (gb γ + a0)), (1, .int 0)] [1, 0] rfl ?_
    exact s_X12_goesAll_6 F hr _ _ _ h
  exact ct_of (by decide +kernel) (Nat.le_of_ble_eq_true rfl) (fun p e s m args below meth c F hr _ => hJ p e s m args below meth c F hr)
def rm_X12_checks : Room := { frames := 11, cells := 0, slots := 0, locals := 232 }
theorem dX12_checks_0 : decode cX12_checks 0 = .ok (.aload_n 0, 1) := by decide +kernel
theorem dX12_checks_1 : decode cX12_checks 1 = .ok (.invokevirtual 335, 3) := by decide +kernel
theorem dX12_checks_4 : decode cX12_checks 4 = .ok (.aload_n 0, 1) := by decide +kernel
theorem dX12_checks_5 : decode cX12_checks 5 = .ok (.invokevirtual 338, 3) := by decide +kernel
theorem dX12_checks_8 : decode cX12_checks 8 = .ok (.aload_n 0, 1) := by decide +kernel
theorem dX12_checks_9 : decode cX12_checks 9 = .ok (.invokevirtual 341, 3) := by decide +kernel
theorem dX12_checks_12 : decode cX12_checks 12 = .ok (.return_, 1) := by decide +kernel
def f_X12_checks (S : SH) (a0 : Nat) (μ : Mem) : Option (Unit × Mem) :=
  if isO S 12 a0 = true then
  (f_X12_remembers S a0 μ).bind fun q1 =>
  (f_X12_goesAll S a0 q1.2).bind fun q2 =>
  (f_X12_returns S a0 q2.2).bind fun q3 =>
  some ((), q3.2)
  else none
set_option maxRecDepth 100000 in
set_option maxHeartbeats 4000000 in
theorem c_X12_checks {l : Launch} {γ : GE} {S : SH} {a0 : Nat} {μ : Mem} {X : (Unit × Mem)} (h : f_X12_checks S a0 μ = some X) : isO S 12 a0 = true ∧ Ct l γ yX12_checks cX12_checks 1 (none) rm_X12_checks [.ref (gb γ + a0)] S μ S X.2 none := by
  unfold f_X12_checks at h
  obtain ⟨h0, h⟩ := if_some h
  refine ⟨h0, ?_⟩
  have hJ : ∀ (p : Program) (e : Env) (s : State) (m : MethodId) (args : Array Value) (below : List Frame) (meth : Method) (c : Code), FX γ p s m args meth c cX12_checks RX12 1 → meth.sig.returnType = (none) → JJ γ p l e rm_X12_checks s m args below meth c 1 0 0 (QV below γ S X args s 0 0) S μ 0 [(0, .ref (gb γ + a0))] [] := by
    intro p e s m args below meth c F hr
    refine j_aload_n F 0 dX12_checks_0 rfl ?_
    refine j_cVV F mi_X12_remembers w_1385 (rest := []) h (fun _ g => c_X12_remembers g) rfl rfl (Nat.le_of_ble_eq_true rfl) ⟨Nat.le_of_ble_eq_true rfl, Nat.le_of_ble_eq_true rfl⟩ ⟨Nat.le_of_ble_eq_true rfl, Nat.le_of_ble_eq_true rfl⟩ dX12_checks_1 (fun q1 h => ?_)
    refine j_aload_n F 0 dX12_checks_4 rfl ?_
    refine j_cVV F mi_X12_goesAll w_1389 (rest := []) h (fun _ g => c_X12_goesAll g) rfl rfl (Nat.le_of_ble_eq_true rfl) ⟨Nat.le_of_ble_eq_true rfl, Nat.le_of_ble_eq_true rfl⟩ ⟨Nat.le_of_ble_eq_true rfl, Nat.le_of_ble_eq_true rfl⟩ dX12_checks_5 (fun q2 h => ?_)
    refine j_aload_n F 0 dX12_checks_8 rfl ?_
    refine j_cVV F mi_X12_returns w_1414 (rest := []) h (fun _ g => c_X12_returns g) rfl rfl (Nat.le_of_ble_eq_true rfl) ⟨Nat.le_of_ble_eq_true rfl, Nat.le_of_ble_eq_true rfl⟩ ⟨Nat.le_of_ble_eq_true rfl, Nat.le_of_ble_eq_true rfl⟩ dX12_checks_9 (fun q3 h => ?_)
    exact j_vret F hr dX12_checks_12 h
  exact ct_of (by decide +kernel) (Nat.le_of_ble_eq_true rfl) (fun p e s m args below meth c F hr _ => hJ p e s m args below meth c F hr)
def rm_X12_checked : Room := { frames := 12, cells := 0, slots := 0, locals := 252 }
theorem dX12_checked_0 : decode cX12_checked 0 = .ok (.iload_n 1, 1) := by decide +kernel
theorem dX12_checked_1 : decode cX12_checked 1 = .ok (.iconst 0, 1) := by decide +kernel
theorem dX12_checked_2 : decode cX12_checked 2 = .ok (.iconst 3, 1) := by decide +kernel
theorem dX12_checked_3 : decode cX12_checked 3 = .ok (.invokestatic 95, 3) := by decide +kernel
theorem dX12_checked_6 : decode cX12_checked 6 = .ok (.ifCond .ne 5, 3) := by decide +kernel
theorem dX12_checked_9 : decode cX12_checked 9 = .ok (.iconst (-1), 1) := by decide +kernel
theorem dX12_checked_10 : decode cX12_checked 10 = .ok (.ireturn, 1) := by decide +kernel
theorem dX12_checked_11 : decode cX12_checked 11 = .ok (.aload_n 0, 1) := by decide +kernel
theorem dX12_checked_12 : decode cX12_checked 12 = .ok (.getfield 297, 3) := by decide +kernel
theorem dX12_checked_15 : decode cX12_checked 15 = .ok (.ifCond .ne 6, 3) := by decide +kernel
theorem dX12_checked_18 : decode cX12_checked 18 = .ok (.bipush (-3), 2) := by decide +kernel
theorem dX12_checked_20 : decode cX12_checked 20 = .ok (.ireturn, 1) := by decide +kernel
theorem dX12_checked_21 : decode cX12_checked 21 = .ok (.aload_n 0, 1) := by decide +kernel
theorem dX12_checked_22 : decode cX12_checked 22 = .ok (.invokevirtual 344, 3) := by decide +kernel
theorem dX12_checked_25 : decode cX12_checked 25 = .ok (.iload_n 1, 1) := by decide +kernel
theorem dX12_checked_26 : decode cX12_checked 26 = .ok (.ifCond .ne 10, 3) := by decide +kernel
theorem dX12_checked_29 : decode cX12_checked 29 = .ok (.aload_n 0, 1) := by decide +kernel
theorem dX12_checked_30 : decode cX12_checked 30 = .ok (.getfield 303, 3) := by decide +kernel
theorem dX12_checked_33 : decode cX12_checked 33 = .ok (.goto 31, 3) := by decide +kernel
theorem dX12_checked_36 : decode cX12_checked 36 = .ok (.iload_n 1, 1) := by decide +kernel
theorem dX12_checked_37 : decode cX12_checked 37 = .ok (.iconst 1, 1) := by decide +kernel
theorem dX12_checked_38 : decode cX12_checked 38 = .ok (.if_icmp .ne 10, 3) := by decide +kernel
theorem dX12_checked_41 : decode cX12_checked 41 = .ok (.aload_n 0, 1) := by decide +kernel
theorem dX12_checked_42 : decode cX12_checked 42 = .ok (.getfield 305, 3) := by decide +kernel
theorem dX12_checked_45 : decode cX12_checked 45 = .ok (.goto 19, 3) := by decide +kernel
theorem dX12_checked_48 : decode cX12_checked 48 = .ok (.iload_n 1, 1) := by decide +kernel
theorem dX12_checked_49 : decode cX12_checked 49 = .ok (.iconst 2, 1) := by decide +kernel
theorem dX12_checked_50 : decode cX12_checked 50 = .ok (.if_icmp .ne 10, 3) := by decide +kernel
theorem dX12_checked_53 : decode cX12_checked 53 = .ok (.aload_n 0, 1) := by decide +kernel
theorem dX12_checked_54 : decode cX12_checked 54 = .ok (.getfield 308, 3) := by decide +kernel
theorem dX12_checked_57 : decode cX12_checked 57 = .ok (.goto 7, 3) := by decide +kernel
theorem dX12_checked_60 : decode cX12_checked 60 = .ok (.aload_n 0, 1) := by decide +kernel
theorem dX12_checked_61 : decode cX12_checked 61 = .ok (.getfield 311, 3) := by decide +kernel
theorem dX12_checked_64 : decode cX12_checked 64 = .ok (.ireturn, 1) := by decide +kernel
def f_X12_checked (S : SH) (a0 : Nat) (a1 : Int32) (μ : Mem) : Option (Int32 × Mem) :=
  if isO S 12 a0 = true then
  (f_X12_in S a1 0 3 μ).bind fun q1 =>
  (if q1.1 = 0 then
  some ((-1), q1.2)
  else
  (gI S 12 a0 24 q1.2).bind fun v2 =>
  (if v2 = 0 then
  some ((-3), q1.2)
  else
  (f_X12_checks S a0 q1.2).bind fun q3 =>
  (if a1 = 0 then
  (gI S 12 a0 30 q3.2).bind fun v7 =>
  some (v7, q3.2)
  else
  (if a1 = 1 then
  (gI S 12 a0 31 q3.2).bind fun v6 =>
  some (v6, q3.2)
  else
  (if a1 = 2 then
  (gI S 12 a0 32 q3.2).bind fun v5 =>
  some (v5, q3.2)
  else
  (gI S 12 a0 33 q3.2).bind fun v4 =>
  some (v4, q3.2))))))
  else none
set_option maxRecDepth 100000 in
set_option maxHeartbeats 4000000 in
theorem c_X12_checked {l : Launch} {γ : GE} {S : SH} {a0 : Nat} {a1 : Int32} {μ : Mem} {X : (Int32 × Mem)} (h : f_X12_checked S a0 a1 μ = some X) : isO S 12 a0 = true ∧ Ct l γ yX12_checked cX12_checked 2 (some .int) rm_X12_checked [.ref (gb γ + a0), .int a1] S μ S X.2 (some (.int X.1)) := by
  unfold f_X12_checked at h
  obtain ⟨h0, h⟩ := if_some h
  refine ⟨h0, ?_⟩
  have hJ : ∀ (p : Program) (e : Env) (s : State) (m : MethodId) (args : Array Value) (below : List Frame) (meth : Method) (c : Code), FX γ p s m args meth c cX12_checked RX12 2 → meth.sig.returnType = (some .int) → JJ γ p l e rm_X12_checked s m args below meth c 2 0 0 (QI below γ S X args s 0 0) S μ 0 [(0, .ref (gb γ + a0)), (1, .int a1)] [] := by
    intro p e s m args below meth c F hr
    refine j_iload_n F 1 dX12_checked_0 rfl ?_
    refine j_iconst F 0 dX12_checked_1 (by decide) ?_
    refine j_iconst F 3 dX12_checked_2 (by decide) ?_
    refine j_cSI F mi_X12_in w_1104 (rest := []) h (fun _ g => c_X12_in g) rfl rfl (Nat.le_of_ble_eq_true rfl) ⟨Nat.le_of_ble_eq_true rfl, Nat.le_of_ble_eq_true rfl⟩ ⟨Nat.le_of_ble_eq_true rfl, Nat.le_of_ble_eq_true rfl⟩ dX12_checked_3 (fun q1 h => ?_)
    refine j_ifne F 11 dX12_checked_6 (by decide) h (fun _ h => ?_) (fun _ h => ?_)
    · refine j_aload_n F 0 dX12_checked_11 rfl ?_
      refine j_gI F fl_RX12_297.l rfl dX12_checked_12 h (fun v2 h => ?_)
      refine j_ifne F 21 dX12_checked_15 (by decide) h (fun _ h => ?_) (fun _ h => ?_)
      · refine j_aload_n F 0 dX12_checked_21 rfl ?_
        refine j_cVV F mi_X12_checks w_1381 (rest := []) h (fun _ g => c_X12_checks g) rfl rfl (Nat.le_of_ble_eq_true rfl) ⟨Nat.le_of_ble_eq_true rfl, Nat.le_of_ble_eq_true rfl⟩ ⟨Nat.le_of_ble_eq_true rfl, Nat.le_of_ble_eq_true rfl⟩ dX12_checked_22 (fun q3 h => ?_)
        refine j_iload_n F 1 dX12_checked_25 rfl ?_
        refine j_ifne F 36 dX12_checked_26 (by decide) h (fun _ h => ?_) (fun _ h => ?_)
        · refine j_iload_n F 1 dX12_checked_36 rfl ?_
          refine j_iconst F 1 dX12_checked_37 (by decide) ?_
          refine j_icmpne F 48 dX12_checked_38 (by decide) h (fun _ h => ?_) (fun _ h => ?_)
          · refine j_iload_n F 1 dX12_checked_48 rfl ?_
            refine j_iconst F 2 dX12_checked_49 (by decide) ?_
            refine j_icmpne F 60 dX12_checked_50 (by decide) h (fun _ h => ?_) (fun _ h => ?_)
            · refine j_aload_n F 0 dX12_checked_60 rfl ?_
              refine j_gI F fl_RX12_311.l rfl dX12_checked_61 h (fun v4 h => ?_)
              exact j_iret F hr dX12_checked_64 h
            · refine j_aload_n F 0 dX12_checked_53 rfl ?_
              refine j_gI F fl_RX12_308.l rfl dX12_checked_54 h (fun v5 h => ?_)
              refine j_goto F 64 dX12_checked_57 (by decide) ?_
              exact j_iret F hr dX12_checked_64 h
          · refine j_aload_n F 0 dX12_checked_41 rfl ?_
            refine j_gI F fl_RX12_305.l rfl dX12_checked_42 h (fun v6 h => ?_)
            refine j_goto F 64 dX12_checked_45 (by decide) ?_
            exact j_iret F hr dX12_checked_64 h
        · refine j_aload_n F 0 dX12_checked_29 rfl ?_
          refine j_gI F fl_RX12_303.l rfl dX12_checked_30 h (fun v7 h => ?_)
          refine j_goto F 64 dX12_checked_33 (by decide) ?_
          exact j_iret F hr dX12_checked_64 h
      · refine j_bipush F (-3) dX12_checked_18 (by decide) ?_
        exact j_iret F hr dX12_checked_20 h
    · refine j_iconst F (-1) dX12_checked_9 (by decide) ?_
      exact j_iret F hr dX12_checked_10 h
  exact ct_of (by decide +kernel) (Nat.le_of_ble_eq_true rfl) (fun p e s m args below meth c F hr _ => hJ p e s m args below meth c F hr)
def rm_X12_spare : Room := { frames := 12, cells := 0, slots := 0, locals := 252 }
theorem dX12_spare_0 : decode cX12_spare 0 = .ok (.aload_n 0, 1) := by decide +kernel
theorem dX12_spare_1 : decode cX12_spare 1 = .ok (.getfield 297, 3) := by decide +kernel
theorem dX12_spare_4 : decode cX12_spare 4 = .ok (.ifCond .ne 7, 3) := by decide +kernel
theorem dX12_spare_7 : decode cX12_spare 7 = .ok (.ldc2_w 131, 3) := by decide +kernel
theorem dX12_spare_10 : decode cX12_spare 10 = .ok (.lreturn, 1) := by decide +kernel
theorem dX12_spare_11 : decode cX12_spare 11 = .ok (.aload_n 0, 1) := by decide +kernel
theorem dX12_spare_12 : decode cX12_spare 12 = .ok (.invokevirtual 344, 3) := by decide +kernel
theorem dX12_spare_15 : decode cX12_spare 15 = .ok (.aload_n 0, 1) := by decide +kernel
theorem dX12_spare_16 : decode cX12_spare 16 = .ok (.getfield 317, 3) := by decide +kernel
theorem dX12_spare_19 : decode cX12_spare 19 = .ok (.i2l, 1) := by decide +kernel
theorem dX12_spare_20 : decode cX12_spare 20 = .ok (.lreturn, 1) := by decide +kernel
def f_X12_spare (S : SH) (a0 : Nat) (μ : Mem) : Option (Int64 × Mem) :=
  if isO S 12 a0 = true then
  (gI S 12 a0 24 μ).bind fun v1 =>
  (if v1 = 0 then
  some ((-9223372036854775808), μ)
  else
  (f_X12_checks S a0 μ).bind fun q2 =>
  (gI S 12 a0 34 q2.2).bind fun v3 =>
  some (v3.toInt64, q2.2))
  else none
set_option maxRecDepth 100000 in
set_option maxHeartbeats 4000000 in
theorem c_X12_spare {l : Launch} {γ : GE} {S : SH} {a0 : Nat} {μ : Mem} {X : (Int64 × Mem)} (h : f_X12_spare S a0 μ = some X) : isO S 12 a0 = true ∧ Ct l γ yX12_spare cX12_spare 1 (some .long) rm_X12_spare [.ref (gb γ + a0)] S μ S X.2 (some (.long X.1)) := by
  unfold f_X12_spare at h
  obtain ⟨h0, h⟩ := if_some h
  refine ⟨h0, ?_⟩
  have hJ : ∀ (p : Program) (e : Env) (s : State) (m : MethodId) (args : Array Value) (below : List Frame) (meth : Method) (c : Code), FX γ p s m args meth c cX12_spare RX12 1 → meth.sig.returnType = (some .long) → JJ γ p l e rm_X12_spare s m args below meth c 1 0 0 (QL below γ S X args s 0 0) S μ 0 [(0, .ref (gb γ + a0))] [] := by
    intro p e s m args below meth c F hr
    refine j_aload_n F 0 dX12_spare_0 rfl ?_
    refine j_gI F fl_RX12_297.l rfl dX12_spare_1 h (fun v1 h => ?_)
    refine j_ifne F 11 dX12_spare_4 (by decide) h (fun _ h => ?_) (fun _ h => ?_)
    · refine j_aload_n F 0 dX12_spare_11 rfl ?_
      refine j_cVV F mi_X12_checks w_1381 (rest := []) h (fun _ g => c_X12_checks g) rfl rfl (Nat.le_of_ble_eq_true rfl) ⟨Nat.le_of_ble_eq_true rfl, Nat.le_of_ble_eq_true rfl⟩ ⟨Nat.le_of_ble_eq_true rfl, Nat.le_of_ble_eq_true rfl⟩ dX12_spare_12 (fun q2 h => ?_)
      refine j_aload_n F 0 dX12_spare_15 rfl ?_
      refine j_gI F fl_RX12_317.l rfl dX12_spare_16 h (fun v3 h => ?_)
      refine j_i2l F dX12_spare_19 ?_
      exact j_lret F hr dX12_spare_20 h
    · refine j_ldc2 F (-9223372036854775808) dX12_spare_7 w_1152 ?_
      exact j_lret F hr dX12_spare_10 h
  exact ct_of (by decide +kernel) (Nat.le_of_ble_eq_true rfl) (fun p e s m args below meth c F hr _ => hJ p e s m args below meth c F hr)
def rm_X12_done : Room := { frames := 11, cells := 0, slots := 0, locals := 232 }
theorem dX12_done_0 : decode cX12_done 0 = .ok (.aload_n 0, 1) := by decide +kernel
theorem dX12_done_1 : decode cX12_done 1 = .ok (.getfield 297, 3) := by decide +kernel
theorem dX12_done_4 : decode cX12_done 4 = .ok (.ifCond .ne 6, 3) := by decide +kernel
theorem dX12_done_7 : decode cX12_done 7 = .ok (.bipush (-3), 2) := by decide +kernel
theorem dX12_done_9 : decode cX12_done 9 = .ok (.ireturn, 1) := by decide +kernel
theorem dX12_done_10 : decode cX12_done 10 = .ok (.aload_n 0, 1) := by decide +kernel
theorem dX12_done_11 : decode cX12_done 11 = .ok (.invokevirtual 335, 3) := by decide +kernel
theorem dX12_done_14 : decode cX12_done 14 = .ok (.aload_n 0, 1) := by decide +kernel
theorem dX12_done_15 : decode cX12_done 15 = .ok (.invokevirtual 338, 3) := by decide +kernel
theorem dX12_done_18 : decode cX12_done 18 = .ok (.aload_n 0, 1) := by decide +kernel
theorem dX12_done_19 : decode cX12_done 19 = .ok (.getfield 305, 3) := by decide +kernel
theorem dX12_done_22 : decode cX12_done 22 = .ok (.bipush (-5), 2) := by decide +kernel
theorem dX12_done_24 : decode cX12_done 24 = .ok (.if_icmp .eq 10, 3) := by decide +kernel
theorem dX12_done_27 : decode cX12_done 27 = .ok (.aload_n 0, 1) := by decide +kernel
theorem dX12_done_28 : decode cX12_done 28 = .ok (.invokevirtual 341, 3) := by decide +kernel
theorem dX12_done_31 : decode cX12_done 31 = .ok (.bipush (-3), 2) := by decide +kernel
theorem dX12_done_33 : decode cX12_done 33 = .ok (.ireturn, 1) := by decide +kernel
theorem dX12_done_34 : decode cX12_done 34 = .ok (.aload_n 0, 1) := by decide +kernel
theorem dX12_done_35 : decode cX12_done 35 = .ok (.getfield 303, 3) := by decide +kernel
theorem dX12_done_38 : decode cX12_done 38 = .ok (.ireturn, 1) := by decide +kernel
def f_X12_done (S : SH) (a0 : Nat) (μ : Mem) : Option (Int32 × Mem) :=
  if isO S 12 a0 = true then
  (gI S 12 a0 24 μ).bind fun v1 =>
  (if v1 = 0 then
  some ((-3), μ)
  else
  (f_X12_remembers S a0 μ).bind fun q2 =>
  (f_X12_goesAll S a0 q2.2).bind fun q3 =>
  (gI S 12 a0 31 q3.2).bind fun v4 =>
  (if v4 = (-5) then
  (gI S 12 a0 30 q3.2).bind fun v5 =>
  some (v5, q3.2)
  else
  (f_X12_returns S a0 q3.2).bind fun q6 =>
  some ((-3), q6.2)))
  else none
set_option maxRecDepth 100000 in
set_option maxHeartbeats 4000000 in
theorem c_X12_done {l : Launch} {γ : GE} {S : SH} {a0 : Nat} {μ : Mem} {X : (Int32 × Mem)} (h : f_X12_done S a0 μ = some X) : isO S 12 a0 = true ∧ Ct l γ yX12_done cX12_done 1 (some .int) rm_X12_done [.ref (gb γ + a0)] S μ S X.2 (some (.int X.1)) := by
  unfold f_X12_done at h
  obtain ⟨h0, h⟩ := if_some h
  refine ⟨h0, ?_⟩
  have hJ : ∀ (p : Program) (e : Env) (s : State) (m : MethodId) (args : Array Value) (below : List Frame) (meth : Method) (c : Code), FX γ p s m args meth c cX12_done RX12 1 → meth.sig.returnType = (some .int) → JJ γ p l e rm_X12_done s m args below meth c 1 0 0 (QI below γ S X args s 0 0) S μ 0 [(0, .ref (gb γ + a0))] [] := by
    intro p e s m args below meth c F hr
    refine j_aload_n F 0 dX12_done_0 rfl ?_
    refine j_gI F fl_RX12_297.l rfl dX12_done_1 h (fun v1 h => ?_)
    refine j_ifne F 10 dX12_done_4 (by decide) h (fun _ h => ?_) (fun _ h => ?_)
    · refine j_aload_n F 0 dX12_done_10 rfl ?_
      refine j_cVV F mi_X12_remembers w_1385 (rest := []) h (fun _ g => c_X12_remembers g) rfl rfl (Nat.le_of_ble_eq_true rfl) ⟨Nat.le_of_ble_eq_true rfl, Nat.le_of_ble_eq_true rfl⟩ ⟨Nat.le_of_ble_eq_true rfl, Nat.le_of_ble_eq_true rfl⟩ dX12_done_11 (fun q2 h => ?_)
      refine j_aload_n F 0 dX12_done_14 rfl ?_
      refine j_cVV F mi_X12_goesAll w_1389 (rest := []) h (fun _ g => c_X12_goesAll g) rfl rfl (Nat.le_of_ble_eq_true rfl) ⟨Nat.le_of_ble_eq_true rfl, Nat.le_of_ble_eq_true rfl⟩ ⟨Nat.le_of_ble_eq_true rfl, Nat.le_of_ble_eq_true rfl⟩ dX12_done_15 (fun q3 h => ?_)
      refine j_aload_n F 0 dX12_done_18 rfl ?_
      refine j_gI F fl_RX12_305.l rfl dX12_done_19 h (fun v4 h => ?_)
      refine j_bipush F (-5) dX12_done_22 (by decide) ?_
      refine j_icmpeq F 34 dX12_done_24 (by decide) h (fun _ h => ?_) (fun _ h => ?_)
      · refine j_aload_n F 0 dX12_done_34 rfl ?_
        refine j_gI F fl_RX12_303.l rfl dX12_done_35 h (fun v5 h => ?_)
        exact j_iret F hr dX12_done_38 h
      · refine j_aload_n F 0 dX12_done_27 rfl ?_
        refine j_cVV F mi_X12_returns w_1414 (rest := []) h (fun _ g => c_X12_returns g) rfl rfl (Nat.le_of_ble_eq_true rfl) ⟨Nat.le_of_ble_eq_true rfl, Nat.le_of_ble_eq_true rfl⟩ ⟨Nat.le_of_ble_eq_true rfl, Nat.le_of_ble_eq_true rfl⟩ dX12_done_28 (fun q6 h => ?_)
        refine j_bipush F (-3) dX12_done_31 (by decide) ?_
        exact j_iret F hr dX12_done_33 h
    · refine j_bipush F (-3) dX12_done_7 (by decide) ?_
      exact j_iret F hr dX12_done_9 h
  exact ct_of (by decide +kernel) (Nat.le_of_ble_eq_true rfl) (fun p e s m args below meth c F hr _ => hJ p e s m args below meth c F hr)
def rm_X12_backward : Room := { frames := 9, cells := 0, slots := 0, locals := 190 }
theorem dX12_backward_0 : decode cX12_backward 0 = .ok (.aload_n 0, 1) := by decide +kernel
theorem dX12_backward_1 : decode cX12_backward 1 = .ok (.getfield 297, 3) := by decide +kernel
theorem dX12_backward_4 : decode cX12_backward 4 = .ok (.ifCond .ne 6, 3) := by decide +kernel
theorem dX12_backward_7 : decode cX12_backward 7 = .ok (.bipush (-3), 2) := by decide +kernel
theorem dX12_backward_9 : decode cX12_backward 9 = .ok (.ireturn, 1) := by decide +kernel
theorem dX12_backward_10 : decode cX12_backward 10 = .ok (.iconst 0, 1) := by decide +kernel
theorem dX12_backward_11 : decode cX12_backward 11 = .ok (.istore_n 1, 1) := by decide +kernel
theorem dX12_backward_12 : decode cX12_backward 12 = .ok (.iload_n 1, 1) := by decide +kernel
theorem dX12_backward_13 : decode cX12_backward 13 = .ok (.aload_n 0, 1) := by decide +kernel
theorem dX12_backward_14 : decode cX12_backward 14 = .ok (.getfield 297, 3) := by decide +kernel
theorem dX12_backward_17 : decode cX12_backward 17 = .ok (.if_icmp .ge 32, 3) := by decide +kernel
theorem dX12_backward_20 : decode cX12_backward 20 = .ok (.aload_n 0, 1) := by decide +kernel
theorem dX12_backward_21 : decode cX12_backward 21 = .ok (.getfield 64, 3) := by decide +kernel
theorem dX12_backward_24 : decode cX12_backward 24 = .ok (.iload_n 1, 1) := by decide +kernel
theorem dX12_backward_25 : decode cX12_backward 25 = .ok (.iaload, 1) := by decide +kernel
theorem dX12_backward_26 : decode cX12_backward 26 = .ok (.iconst 1, 1) := by decide +kernel
theorem dX12_backward_27 : decode cX12_backward 27 = .ok (.if_icmp .eq 16, 3) := by decide +kernel
theorem dX12_backward_30 : decode cX12_backward 30 = .ok (.aload_n 0, 1) := by decide +kernel
theorem dX12_backward_31 : decode cX12_backward 31 = .ok (.getfield 64, 3) := by decide +kernel
theorem dX12_backward_34 : decode cX12_backward 34 = .ok (.iload_n 1, 1) := by decide +kernel
theorem dX12_backward_35 : decode cX12_backward 35 = .ok (.iaload, 1) := by decide +kernel
theorem dX12_backward_36 : decode cX12_backward 36 = .ok (.iconst 2, 1) := by decide +kernel
theorem dX12_backward_37 : decode cX12_backward 37 = .ok (.if_icmp .eq 6, 3) := by decide +kernel
theorem dX12_backward_40 : decode cX12_backward 40 = .ok (.bipush (-3), 2) := by decide +kernel
theorem dX12_backward_42 : decode cX12_backward 42 = .ok (.ireturn, 1) := by decide +kernel
theorem dX12_backward_43 : decode cX12_backward 43 = .ok (.iinc 1 1, 3) := by decide +kernel
theorem dX12_backward_46 : decode cX12_backward 46 = .ok (.goto (-34), 3) := by decide +kernel
theorem dX12_backward_49 : decode cX12_backward 49 = .ok (.aload_n 0, 1) := by decide +kernel
theorem dX12_backward_50 : decode cX12_backward 50 = .ok (.invokevirtual 335, 3) := by decide +kernel
theorem dX12_backward_53 : decode cX12_backward 53 = .ok (.iconst 0, 1) := by decide +kernel
theorem dX12_backward_54 : decode cX12_backward 54 = .ok (.istore_n 1, 1) := by decide +kernel
theorem dX12_backward_55 : decode cX12_backward 55 = .ok (.iload_n 1, 1) := by decide +kernel
theorem dX12_backward_56 : decode cX12_backward 56 = .ok (.aload_n 0, 1) := by decide +kernel
theorem dX12_backward_57 : decode cX12_backward 57 = .ok (.getfield 297, 3) := by decide +kernel
theorem dX12_backward_60 : decode cX12_backward 60 = .ok (.if_icmp .ge 49, 3) := by decide +kernel
theorem dX12_backward_63 : decode cX12_backward 63 = .ok (.aload_n 0, 1) := by decide +kernel
theorem dX12_backward_64 : decode cX12_backward 64 = .ok (.getfield 79, 3) := by decide +kernel
theorem dX12_backward_67 : decode cX12_backward 67 = .ok (.iload_n 1, 1) := by decide +kernel
theorem dX12_backward_68 : decode cX12_backward 68 = .ok (.aload_n 0, 1) := by decide +kernel
theorem dX12_backward_69 : decode cX12_backward 69 = .ok (.getfield 36, 3) := by decide +kernel
theorem dX12_backward_72 : decode cX12_backward 72 = .ok (.aload_n 0, 1) := by decide +kernel
theorem dX12_backward_73 : decode cX12_backward 73 = .ok (.getfield 64, 3) := by decide +kernel
theorem dX12_backward_76 : decode cX12_backward 76 = .ok (.iload_n 1, 1) := by decide +kernel
theorem dX12_backward_77 : decode cX12_backward 77 = .ok (.iaload, 1) := by decide +kernel
theorem dX12_backward_78 : decode cX12_backward 78 = .ok (.invokestatic 292, 3) := by decide +kernel
theorem dX12_backward_81 : decode cX12_backward 81 = .ok (.iaload, 1) := by decide +kernel
theorem dX12_backward_82 : decode cX12_backward 82 = .ok (.iastore, 1) := by decide +kernel
theorem dX12_backward_83 : decode cX12_backward 83 = .ok (.aload_n 0, 1) := by decide +kernel
theorem dX12_backward_84 : decode cX12_backward 84 = .ok (.getfield 36, 3) := by decide +kernel
theorem dX12_backward_87 : decode cX12_backward 87 = .ok (.aload_n 0, 1) := by decide +kernel
theorem dX12_backward_88 : decode cX12_backward 88 = .ok (.getfield 64, 3) := by decide +kernel
theorem dX12_backward_91 : decode cX12_backward 91 = .ok (.iload_n 1, 1) := by decide +kernel
theorem dX12_backward_92 : decode cX12_backward 92 = .ok (.iaload, 1) := by decide +kernel
theorem dX12_backward_93 : decode cX12_backward 93 = .ok (.invokestatic 292, 3) := by decide +kernel
theorem dX12_backward_96 : decode cX12_backward 96 = .ok (.aload_n 0, 1) := by decide +kernel
theorem dX12_backward_97 : decode cX12_backward 97 = .ok (.getfield 67, 3) := by decide +kernel
theorem dX12_backward_100 : decode cX12_backward 100 = .ok (.iload_n 1, 1) := by decide +kernel
theorem dX12_backward_101 : decode cX12_backward 101 = .ok (.iaload, 1) := by decide +kernel
theorem dX12_backward_102 : decode cX12_backward 102 = .ok (.iastore, 1) := by decide +kernel
theorem dX12_backward_103 : decode cX12_backward 103 = .ok (.iinc 1 1, 3) := by decide +kernel
theorem dX12_backward_106 : decode cX12_backward 106 = .ok (.goto (-51), 3) := by decide +kernel
theorem dX12_backward_109 : decode cX12_backward 109 = .ok (.aload_n 0, 1) := by decide +kernel
theorem dX12_backward_110 : decode cX12_backward 110 = .ok (.invokevirtual 329, 3) := by decide +kernel
theorem dX12_backward_113 : decode cX12_backward 113 = .ok (.aload_n 0, 1) := by decide +kernel
theorem dX12_backward_114 : decode cX12_backward 114 = .ok (.getfield 297, 3) := by decide +kernel
theorem dX12_backward_117 : decode cX12_backward 117 = .ok (.iconst 1, 1) := by decide +kernel
theorem dX12_backward_118 : decode cX12_backward 118 = .ok (.isub, 1) := by decide +kernel
theorem dX12_backward_119 : decode cX12_backward 119 = .ok (.istore_n 1, 1) := by decide +kernel
theorem dX12_backward_120 : decode cX12_backward 120 = .ok (.iload_n 1, 1) := by decide +kernel
theorem dX12_backward_121 : decode cX12_backward 121 = .ok (.ifCond .lt 44, 3) := by decide +kernel
theorem dX12_backward_124 : decode cX12_backward 124 = .ok (.aload_n 0, 1) := by decide +kernel
theorem dX12_backward_125 : decode cX12_backward 125 = .ok (.getfield 64, 3) := by decide +kernel
theorem dX12_backward_128 : decode cX12_backward 128 = .ok (.iload_n 1, 1) := by decide +kernel
theorem dX12_backward_129 : decode cX12_backward 129 = .ok (.iaload, 1) := by decide +kernel
theorem dX12_backward_130 : decode cX12_backward 130 = .ok (.iconst 1, 1) := by decide +kernel
theorem dX12_backward_131 : decode cX12_backward 131 = .ok (.if_icmp .ne 17, 3) := by decide +kernel
theorem dX12_backward_134 : decode cX12_backward 134 = .ok (.aload_n 0, 1) := by decide +kernel
theorem dX12_backward_135 : decode cX12_backward 135 = .ok (.iload_n 1, 1) := by decide +kernel
theorem dX12_backward_136 : decode cX12_backward 136 = .ok (.aload_n 0, 1) := by decide +kernel
theorem dX12_backward_137 : decode cX12_backward 137 = .ok (.getfield 79, 3) := by decide +kernel
theorem dX12_backward_140 : decode cX12_backward 140 = .ok (.iload_n 1, 1) := by decide +kernel
theorem dX12_backward_141 : decode cX12_backward 141 = .ok (.iaload, 1) := by decide +kernel
theorem dX12_backward_142 : decode cX12_backward 142 = .ok (.invokevirtual 323, 3) := by decide +kernel
theorem dX12_backward_145 : decode cX12_backward 145 = .ok (.goto 14, 3) := by decide +kernel
theorem dX12_backward_148 : decode cX12_backward 148 = .ok (.aload_n 0, 1) := by decide +kernel
theorem dX12_backward_149 : decode cX12_backward 149 = .ok (.iload_n 1, 1) := by decide +kernel
theorem dX12_backward_150 : decode cX12_backward 150 = .ok (.aload_n 0, 1) := by decide +kernel
theorem dX12_backward_151 : decode cX12_backward 151 = .ok (.getfield 79, 3) := by decide +kernel
theorem dX12_backward_154 : decode cX12_backward 154 = .ok (.iload_n 1, 1) := by decide +kernel
theorem dX12_backward_155 : decode cX12_backward 155 = .ok (.iaload, 1) := by decide +kernel
theorem dX12_backward_156 : decode cX12_backward 156 = .ok (.invokevirtual 326, 3) := by decide +kernel
theorem dX12_backward_159 : decode cX12_backward 159 = .ok (.iinc 1 (-1), 3) := by decide +kernel
theorem dX12_backward_162 : decode cX12_backward 162 = .ok (.goto (-42), 3) := by decide +kernel
theorem dX12_backward_165 : decode cX12_backward 165 = .ok (.aload_n 0, 1) := by decide +kernel
theorem dX12_backward_166 : decode cX12_backward 166 = .ok (.invokevirtual 341, 3) := by decide +kernel
theorem dX12_backward_169 : decode cX12_backward 169 = .ok (.aload_n 0, 1) := by decide +kernel
theorem dX12_backward_170 : decode cX12_backward 170 = .ok (.getfield 305, 3) := by decide +kernel
theorem dX12_backward_173 : decode cX12_backward 173 = .ok (.bipush (-5), 2) := by decide +kernel
theorem dX12_backward_175 : decode cX12_backward 175 = .ok (.if_icmp .ne 7, 3) := by decide +kernel
theorem dX12_backward_178 : decode cX12_backward 178 = .ok (.iconst 1, 1) := by decide +kernel
theorem dX12_backward_179 : decode cX12_backward 179 = .ok (.goto 4, 3) := by decide +kernel
theorem dX12_backward_182 : decode cX12_backward 182 = .ok (.iconst 0, 1) := by decide +kernel
theorem dX12_backward_183 : decode cX12_backward 183 = .ok (.ireturn, 1) := by decide +kernel
def b_X12_backward_165 (S : SH) (a0 : Nat) (μ : Mem) : Option (Int32 × Mem) :=
 (f_X12_returns S a0 μ).bind fun q8 =>
 (gI S 12 a0 31 q8.2).bind fun v9 =>
 (if v9 = (-5) then
 some (1, q8.2)
 else
 some (0, q8.2))
set_option maxRecDepth 100000 in
set_option maxHeartbeats 4000000 in
theorem s_X12_backward_165 {γ : GE} {p : Program} {l : Launch} {e : Env} {s : State} {m : MethodId} {args : Array Value} {below : List Frame} {meth : Method} {c : Code} {S : SH} {X : (Int32 × Mem)} (F : FX γ p s m args meth c cX12_backward RX12 2) (hr : meth.sig.returnType = (some .int)) (a0 : Nat)    (μ : Mem) (h : b_X12_backward_165 S a0 μ = some X) : JJ γ p l e rm_X12_backward s m args below meth c 2 0 0 (QI below γ S X args s 0 0) S μ 165 [(0, .ref (gb γ + a0))] [] := by
  unfold b_X12_backward_165 at h
  refine j_aload_n F 0 dX12_backward_165 rfl ?_
  refine j_cVV F mi_X12_returns w_1414 (rest := []) h (fun _ g => c_X12_returns g) rfl rfl (Nat.le_of_ble_eq_true rfl) ⟨Nat.le_of_ble_eq_true rfl, Nat.le_of_ble_eq_true rfl⟩ ⟨Nat.le_of_ble_eq_true rfl, Nat.le_of_ble_eq_true rfl⟩ dX12_backward_166 (fun q8 h => ?_)
  refine j_aload_n F 0 dX12_backward_169 rfl ?_
  refine j_gI F fl_RX12_305.l rfl dX12_backward_170 h (fun v9 h => ?_)
  refine j_bipush F (-5) dX12_backward_173 (by decide) ?_
  refine j_icmpne F 182 dX12_backward_175 (by decide) h (fun _ h => ?_) (fun _ h => ?_)
  · refine j_iconst F 0 dX12_backward_182 (by decide) ?_
    exact j_iret F hr dX12_backward_183 h
  · refine j_iconst F 1 dX12_backward_178 (by decide) ?_
    refine j_goto F 183 dX12_backward_179 (by decide) ?_
    exact j_iret F hr dX12_backward_183 h
def l_X12_backward_120 (S : SH) (a0 : Nat) (k120 : (Int32 × Mem) → Option (Int32 × Mem)) (x : (Int32 × Mem)) : Option (Int32 × Mem) :=
 (if x.1 < 0 then
 b_X12_backward_165 S a0 x.2
 else
 (gR S 12 a0 25).bind fun v10 =>
 (aI S .int v10 x.1 x.2).bind fun v11 =>
 (if v11 = 1 then
 (gR S 12 a0 36).bind fun v15 =>
 (aI S .int v15 x.1 x.2).bind fun v16 =>
 (f_X12_slews S a0 x.1 v16 x.2).bind fun q17 =>
 k120 (x.1 + (-1), q17.2)
 else
 (gR S 12 a0 36).bind fun v12 =>
 (aI S .int v12 x.1 x.2).bind fun v13 =>
 (f_X12_reaches S a0 x.1 v13 x.2).bind fun q14 =>
 k120 (x.1 + (-1), q14.2)))
set_option maxRecDepth 100000 in
set_option maxHeartbeats 4000000 in
theorem t_X12_backward_120 {γ : GE} {p : Program} {l : Launch} {e : Env} {s : State} {m : MethodId} {args : Array Value} {below : List Frame} {meth : Method} {c : Code} {S : SH} {X : (Int32 × Mem)} (F : FX γ p s m args meth c cX12_backward RX12 2) (hr : meth.sig.returnType = (some .int)) (a0 : Nat) (k120 : (Int32 × Mem) → Option (Int32 × Mem)) (hk120 : ∀ (x120_1 : Int32) (ν : Mem), k120 (x120_1, ν) = some X → JJ γ p l e rm_X12_backward s m args below meth c 2 0 0 (QI below γ S X args s 0 0) S ν 120 [(0, .ref (gb γ + a0)), (1, .int x120_1)] []) (x : (Int32 × Mem)) (h : l_X12_backward_120 S a0 k120 x = some X) : JJ γ p l e rm_X12_backward s m args below meth c 2 0 0 (QI below γ S X args s 0 0) S x.2 120 [(0, .ref (gb γ + a0)), (1, .int x.1)] [] := by
  unfold l_X12_backward_120 at h
  refine j_iload_n F 1 dX12_backward_120 rfl ?_
  refine j_iflt F 165 dX12_backward_121 (by decide) h (fun _ h => ?_) (fun _ h => ?_)
  · refine j_lv [(0, .ref (gb γ + a0))] [0] rfl ?_
    exact s_X12_backward_165 F hr _ _ h
  · refine j_aload_n F 0 dX12_backward_124 rfl ?_
    refine j_gR F fl_RX12_64 rfl dX12_backward_125 h (fun v10 h => ?_)
    refine j_iload_n F 1 dX12_backward_128 rfl ?_
    refine j_iald F dX12_backward_129 h (fun v11 h => ?_)
    refine j_iconst F 1 dX12_backward_130 (by decide) ?_
    refine j_icmpne F 148 dX12_backward_131 (by decide) h (fun _ h => ?_) (fun _ h => ?_)
    · refine j_aload_n F 0 dX12_backward_148 rfl ?_
      refine j_iload_n F 1 dX12_backward_149 rfl ?_
      refine j_aload_n F 0 dX12_backward_150 rfl ?_
      refine j_gR F fl_RX12_79 rfl dX12_backward_151 h (fun v12 h => ?_)
      refine j_iload_n F 1 dX12_backward_154 rfl ?_
      refine j_iald F dX12_backward_155 h (fun v13 h => ?_)
      refine j_cVV F mi_X12_reaches w_1410 (rest := []) h (fun _ g => c_X12_reaches g) rfl rfl (Nat.le_of_ble_eq_true rfl) ⟨Nat.le_of_ble_eq_true rfl, Nat.le_of_ble_eq_true rfl⟩ ⟨Nat.le_of_ble_eq_true rfl, Nat.le_of_ble_eq_true rfl⟩ dX12_backward_156 (fun q14 h => ?_)
      refine j_iinc F (-1) 1 [(1, .int (x.1 + (-1))), (0, .ref (gb γ + a0))] dX12_backward_159 rfl (by decide) (by decide) rfl ?_
      refine j_goto F 120 dX12_backward_162 (by decide) ?_
      refine j_lv [(0, .ref (gb γ + a0)), (1, .int (x.1 + (-1)))] [1, 0] rfl ?_
      exact hk120 _ _ h
    · refine j_aload_n F 0 dX12_backward_134 rfl ?_
      refine j_iload_n F 1 dX12_backward_135 rfl ?_
      refine j_aload_n F 0 dX12_backward_136 rfl ?_
      refine j_gR F fl_RX12_79 rfl dX12_backward_137 h (fun v15 h => ?_)
      refine j_iload_n F 1 dX12_backward_140 rfl ?_
      refine j_iald F dX12_backward_141 h (fun v16 h => ?_)
      refine j_cVV F mi_X12_slews w_1406 (rest := []) h (fun _ g => c_X12_slews g) rfl rfl (Nat.le_of_ble_eq_true rfl) ⟨Nat.le_of_ble_eq_true rfl, Nat.le_of_ble_eq_true rfl⟩ ⟨Nat.le_of_ble_eq_true rfl, Nat.le_of_ble_eq_true rfl⟩ dX12_backward_142 (fun q17 h => ?_)
      refine j_goto F 159 dX12_backward_145 (by decide) ?_
      refine j_iinc F (-1) 1 [(1, .int (x.1 + (-1))), (0, .ref (gb γ + a0))] dX12_backward_159 rfl (by decide) (by decide) rfl ?_
      refine j_goto F 120 dX12_backward_162 (by decide) ?_
      refine j_lv [(0, .ref (gb γ + a0)), (1, .int (x.1 + (-1)))] [1, 0] rfl ?_
      exact hk120 _ _ h
theorem s_X12_backward_120 {γ : GE} {p : Program} {l : Launch} {e : Env} {s : State} {m : MethodId} {args : Array Value} {below : List Frame} {meth : Method} {c : Code} {S : SH} {X : (Int32 × Mem)} (F : FX γ p s m args meth c cX12_backward RX12 2) (hr : meth.sig.returnType = (some .int)) (a0 : Nat) (x120_1 : Int32) (ν : Mem) (h : lpN (l_X12_backward_120 S a0) fu (x120_1, ν) = some X) : JJ γ p l e rm_X12_backward s m args below meth c 2 0 0 (QI below γ S X args s 0 0) S ν 120 [(0, .ref (gb γ + a0)), (1, .int x120_1)] [] :=
 lpN_sound (fun x => JJ γ p l e rm_X12_backward s m args below meth c 2 0 0 (QI below γ S X args s 0 0) S x.2 120 [(0, .ref (gb γ + a0)), (1, .int x.1)] []) (fun k120 hk120 x h => t_X12_backward_120 F hr a0 k120 (fun x120_1 ν h => hk120 (x120_1, ν) h) x h) fu (x120_1, ν) h
def b_X12_backward_109 (S : SH) (a0 : Nat) (μ : Mem) : Option (Int32 × Mem) :=
 (f_X12_begins S a0 μ).bind fun q5 =>
 (gI S 12 a0 24 q5.2).bind fun v6 =>
 (some (v6 - 1)).bind fun y7 =>
 lpN (l_X12_backward_120 S a0) fu (y7, q5.2)
set_option maxRecDepth 100000 in
set_option maxHeartbeats 4000000 in
theorem s_X12_backward_109 {γ : GE} {p : Program} {l : Launch} {e : Env} {s : State} {m : MethodId} {args : Array Value} {below : List Frame} {meth : Method} {c : Code} {S : SH} {X : (Int32 × Mem)} (F : FX γ p s m args meth c cX12_backward RX12 2) (hr : meth.sig.returnType = (some .int)) (a0 : Nat)    (μ : Mem) (h : b_X12_backward_109 S a0 μ = some X) : JJ γ p l e rm_X12_backward s m args below meth c 2 0 0 (QI below γ S X args s 0 0) S μ 109 [(0, .ref (gb γ + a0))] [] := by
  unfold b_X12_backward_109 at h
  refine j_aload_n F 0 dX12_backward_109 rfl ?_
  refine j_cVV F mi_X12_begins w_1393 (rest := []) h (fun _ g => c_X12_begins g) rfl rfl (Nat.le_of_ble_eq_true rfl) ⟨Nat.le_of_ble_eq_true rfl, Nat.le_of_ble_eq_true rfl⟩ ⟨Nat.le_of_ble_eq_true rfl, Nat.le_of_ble_eq_true rfl⟩ dX12_backward_110 (fun q5 h => ?_)
  refine j_aload_n F 0 dX12_backward_113 rfl ?_
  refine j_gI F fl_RX12_297.l rfl dX12_backward_114 h (fun v6 h => ?_)
  refine j_iconst F 1 dX12_backward_117 (by decide) ?_
  refine j_isub F dX12_backward_118 ?_
  refine j_nmI h (fun y7 h => ?_)
  refine j_istore_n F [(1, .int y7), (0, .ref (gb γ + a0))] dX12_backward_119 rfl (by decide) rfl ?_
  refine j_lv [(0, .ref (gb γ + a0)), (1, .int y7)] [1, 0] rfl ?_
  exact s_X12_backward_120 F hr _ _ _ h
def l_X12_backward_55 (S : SH) (a0 : Nat) (k55 : (Int32 × Mem) → Option (Int32 × Mem)) (x : (Int32 × Mem)) : Option (Int32 × Mem) :=
 (gI S 12 a0 24 x.2).bind fun v4 =>
 (if v4 ≤ x.1 then
 b_X12_backward_109 S a0 x.2
 else
 (gR S 12 a0 36).bind fun v18 =>
 (gR S 12 a0 9).bind fun v19 =>
 (gR S 12 a0 25).bind fun v20 =>
 (aI S .int v20 x.1 x.2).bind fun v21 =>
 (f_X12_whatOf S v21 x.2).bind fun q22 =>
 (aI S .int v19 q22.1 q22.2).bind fun v23 =>
 (sI S v18 x.1 v23 q22.2).bind fun ν24 =>
 (gR S 12 a0 9).bind fun v25 =>
 (gR S 12 a0 25).bind fun v26 =>
 (aI S .int v26 x.1 ν24).bind fun v27 =>
 (f_X12_whatOf S v27 ν24).bind fun q28 =>
 (gR S 12 a0 26).bind fun v29 =>
 (aI S .int v29 x.1 q28.2).bind fun v30 =>
 (sI S v25 q28.1 v30 q28.2).bind fun ν31 =>
 k55 (x.1 + 1, ν31))
set_option maxRecDepth 100000 in
set_option maxHeartbeats 4000000 in
theorem t_X12_backward_55 {γ : GE} {p : Program} {l : Launch} {e : Env} {s : State} {m : MethodId} {args : Array Value} {below : List Frame} {meth : Method} {c : Code} {S : SH} {X : (Int32 × Mem)} (F : FX γ p s m args meth c cX12_backward RX12 2) (hr : meth.sig.returnType = (some .int)) (a0 : Nat) (k55 : (Int32 × Mem) → Option (Int32 × Mem)) (hk55 : ∀ (x55_1 : Int32) (ν : Mem), k55 (x55_1, ν) = some X → JJ γ p l e rm_X12_backward s m args below meth c 2 0 0 (QI below γ S X args s 0 0) S ν 55 [(0, .ref (gb γ + a0)), (1, .int x55_1)] []) (x : (Int32 × Mem)) (h : l_X12_backward_55 S a0 k55 x = some X) : JJ γ p l e rm_X12_backward s m args below meth c 2 0 0 (QI below γ S X args s 0 0) S x.2 55 [(0, .ref (gb γ + a0)), (1, .int x.1)] [] := by
  unfold l_X12_backward_55 at h
  refine j_iload_n F 1 dX12_backward_55 rfl ?_
  refine j_aload_n F 0 dX12_backward_56 rfl ?_
  refine j_gI F fl_RX12_297.l rfl dX12_backward_57 h (fun v4 h => ?_)
  refine j_icmpge F 109 dX12_backward_60 (by decide) h (fun _ h => ?_) (fun _ h => ?_)
  · refine j_lv [(0, .ref (gb γ + a0))] [0] rfl ?_
    exact s_X12_backward_109 F hr _ _ h
  · refine j_aload_n F 0 dX12_backward_63 rfl ?_
    refine j_gR F fl_RX12_79 rfl dX12_backward_64 h (fun v18 h => ?_)
    refine j_iload_n F 1 dX12_backward_67 rfl ?_
    refine j_aload_n F 0 dX12_backward_68 rfl ?_
    refine j_gR F fl_RX12_36 rfl dX12_backward_69 h (fun v19 h => ?_)
    refine j_aload_n F 0 dX12_backward_72 rfl ?_
    refine j_gR F fl_RX12_64 rfl dX12_backward_73 h (fun v20 h => ?_)
    refine j_iload_n F 1 dX12_backward_76 rfl ?_
    refine j_iald F dX12_backward_77 h (fun v21 h => ?_)
    refine j_cSI F mi_X12_whatOf w_1374 (rest := [.ref (gb γ + v19), .int x.1, .ref (gb γ + v18)]) h (fun _ g => c_X12_whatOf g) rfl rfl (Nat.le_of_ble_eq_true rfl) ⟨Nat.le_of_ble_eq_true rfl, Nat.le_of_ble_eq_true rfl⟩ ⟨Nat.le_of_ble_eq_true rfl, Nat.le_of_ble_eq_true rfl⟩ dX12_backward_78 (fun q22 h => ?_)
    refine j_iald F dX12_backward_81 h (fun v23 h => ?_)
    refine j_iast F dX12_backward_82 h (fun ν24 h => ?_)
    refine j_aload_n F 0 dX12_backward_83 rfl ?_
    refine j_gR F fl_RX12_36 rfl dX12_backward_84 h (fun v25 h => ?_)
    refine j_aload_n F 0 dX12_backward_87 rfl ?_
    refine j_gR F fl_RX12_64 rfl dX12_backward_88 h (fun v26 h => ?_)
    refine j_iload_n F 1 dX12_backward_91 rfl ?_
    refine j_iald F dX12_backward_92 h (fun v27 h => ?_)
    refine j_cSI F mi_X12_whatOf w_1374 (rest := [.ref (gb γ + v25)]) h (fun _ g => c_X12_whatOf g) rfl rfl (Nat.le_of_ble_eq_true rfl) ⟨Nat.le_of_ble_eq_true rfl, Nat.le_of_ble_eq_true rfl⟩ ⟨Nat.le_of_ble_eq_true rfl, Nat.le_of_ble_eq_true rfl⟩ dX12_backward_93 (fun q28 h => ?_)
    refine j_aload_n F 0 dX12_backward_96 rfl ?_
    refine j_gR F fl_RX12_67 rfl dX12_backward_97 h (fun v29 h => ?_)
    refine j_iload_n F 1 dX12_backward_100 rfl ?_
    refine j_iald F dX12_backward_101 h (fun v30 h => ?_)
    refine j_iast F dX12_backward_102 h (fun ν31 h => ?_)
    refine j_iinc F 1 1 [(1, .int (x.1 + 1)), (0, .ref (gb γ + a0))] dX12_backward_103 rfl (by decide) (by decide) rfl ?_
    refine j_goto F 55 dX12_backward_106 (by decide) ?_
    refine j_lv [(0, .ref (gb γ + a0)), (1, .int (x.1 + 1))] [1, 0] rfl ?_
    exact hk55 _ _ h
theorem s_X12_backward_55 {γ : GE} {p : Program} {l : Launch} {e : Env} {s : State} {m : MethodId} {args : Array Value} {below : List Frame} {meth : Method} {c : Code} {S : SH} {X : (Int32 × Mem)} (F : FX γ p s m args meth c cX12_backward RX12 2) (hr : meth.sig.returnType = (some .int)) (a0 : Nat) (x55_1 : Int32) (ν : Mem) (h : lpN (l_X12_backward_55 S a0) fu (x55_1, ν) = some X) : JJ γ p l e rm_X12_backward s m args below meth c 2 0 0 (QI below γ S X args s 0 0) S ν 55 [(0, .ref (gb γ + a0)), (1, .int x55_1)] [] :=
 lpN_sound (fun x => JJ γ p l e rm_X12_backward s m args below meth c 2 0 0 (QI below γ S X args s 0 0) S x.2 55 [(0, .ref (gb γ + a0)), (1, .int x.1)] []) (fun k55 hk55 x h => t_X12_backward_55 F hr a0 k55 (fun x55_1 ν h => hk55 (x55_1, ν) h) x h) fu (x55_1, ν) h
def b_X12_backward_49 (S : SH) (a0 : Nat) (μ : Mem) : Option (Int32 × Mem) :=
 (f_X12_remembers S a0 μ).bind fun q3 =>
 lpN (l_X12_backward_55 S a0) fu (0, q3.2)
set_option maxRecDepth 100000 in
set_option maxHeartbeats 4000000 in
theorem s_X12_backward_49 {γ : GE} {p : Program} {l : Launch} {e : Env} {s : State} {m : MethodId} {args : Array Value} {below : List Frame} {meth : Method} {c : Code} {S : SH} {X : (Int32 × Mem)} (F : FX γ p s m args meth c cX12_backward RX12 2) (hr : meth.sig.returnType = (some .int)) (a0 : Nat)    (μ : Mem) (h : b_X12_backward_49 S a0 μ = some X) : JJ γ p l e rm_X12_backward s m args below meth c 2 0 0 (QI below γ S X args s 0 0) S μ 49 [(0, .ref (gb γ + a0))] [] := by
  unfold b_X12_backward_49 at h
  refine j_aload_n F 0 dX12_backward_49 rfl ?_
  refine j_cVV F mi_X12_remembers w_1385 (rest := []) h (fun _ g => c_X12_remembers g) rfl rfl (Nat.le_of_ble_eq_true rfl) ⟨Nat.le_of_ble_eq_true rfl, Nat.le_of_ble_eq_true rfl⟩ ⟨Nat.le_of_ble_eq_true rfl, Nat.le_of_ble_eq_true rfl⟩ dX12_backward_50 (fun q3 h => ?_)
  refine j_iconst F 0 dX12_backward_53 (by decide) ?_
  refine j_istore_n F [(1, .int 0), (0, .ref (gb γ + a0))] dX12_backward_54 rfl (by decide) rfl ?_
  refine j_lv [(0, .ref (gb γ + a0)), (1, .int 0)] [1, 0] rfl ?_
  exact s_X12_backward_55 F hr _ _ _ h
def l_X12_backward_12 (S : SH) (a0 : Nat) (k12 : (Int32 × Mem) → Option (Int32 × Mem)) (x : (Int32 × Mem)) : Option (Int32 × Mem) :=
 (gI S 12 a0 24 x.2).bind fun v2 =>
 (if v2 ≤ x.1 then
 b_X12_backward_49 S a0 x.2
 else
 (gR S 12 a0 25).bind fun v32 =>
 (aI S .int v32 x.1 x.2).bind fun v33 =>
 (if v33 = 1 then
 k12 (x.1 + 1, x.2)
 else
 (gR S 12 a0 25).bind fun v34 =>
 (aI S .int v34 x.1 x.2).bind fun v35 =>
 (if v35 = 2 then
 k12 (x.1 + 1, x.2)
 else
 some ((-3), x.2))))
set_option maxRecDepth 100000 in
set_option maxHeartbeats 4000000 in
theorem t_X12_backward_12 {γ : GE} {p : Program} {l : Launch} {e : Env} {s : State} {m : MethodId} {args : Array Value} {below : List Frame} {meth : Method} {c : Code} {S : SH} {X : (Int32 × Mem)} (F : FX γ p s m args meth c cX12_backward RX12 2) (hr : meth.sig.returnType = (some .int)) (a0 : Nat) (k12 : (Int32 × Mem) → Option (Int32 × Mem)) (hk12 : ∀ (x12_1 : Int32) (ν : Mem), k12 (x12_1, ν) = some X → JJ γ p l e rm_X12_backward s m args below meth c 2 0 0 (QI below γ S X args s 0 0) S ν 12 [(0, .ref (gb γ + a0)), (1, .int x12_1)] []) (x : (Int32 × Mem)) (h : l_X12_backward_12 S a0 k12 x = some X) : JJ γ p l e rm_X12_backward s m args below meth c 2 0 0 (QI below γ S X args s 0 0) S x.2 12 [(0, .ref (gb γ + a0)), (1, .int x.1)] [] := by
  unfold l_X12_backward_12 at h
  refine j_iload_n F 1 dX12_backward_12 rfl ?_
  refine j_aload_n F 0 dX12_backward_13 rfl ?_
  refine j_gI F fl_RX12_297.l rfl dX12_backward_14 h (fun v2 h => ?_)
  refine j_icmpge F 49 dX12_backward_17 (by decide) h (fun _ h => ?_) (fun _ h => ?_)
  · refine j_lv [(0, .ref (gb γ + a0))] [0] rfl ?_
    exact s_X12_backward_49 F hr _ _ h
  · refine j_aload_n F 0 dX12_backward_20 rfl ?_
    refine j_gR F fl_RX12_64 rfl dX12_backward_21 h (fun v32 h => ?_)
    refine j_iload_n F 1 dX12_backward_24 rfl ?_
    refine j_iald F dX12_backward_25 h (fun v33 h => ?_)
    refine j_iconst F 1 dX12_backward_26 (by decide) ?_
    refine j_icmpeq F 43 dX12_backward_27 (by decide) h (fun _ h => ?_) (fun _ h => ?_)
    · refine j_iinc F 1 1 [(1, .int (x.1 + 1)), (0, .ref (gb γ + a0))] dX12_backward_43 rfl (by decide) (by decide) rfl ?_
      refine j_goto F 12 dX12_backward_46 (by decide) ?_
      refine j_lv [(0, .ref (gb γ + a0)), (1, .int (x.1 + 1))] [1, 0] rfl ?_
      exact hk12 _ _ h
    · refine j_aload_n F 0 dX12_backward_30 rfl ?_
      refine j_gR F fl_RX12_64 rfl dX12_backward_31 h (fun v34 h => ?_)
      refine j_iload_n F 1 dX12_backward_34 rfl ?_
      refine j_iald F dX12_backward_35 h (fun v35 h => ?_)
      refine j_iconst F 2 dX12_backward_36 (by decide) ?_
      refine j_icmpeq F 43 dX12_backward_37 (by decide) h (fun _ h => ?_) (fun _ h => ?_)
      · refine j_iinc F 1 1 [(1, .int (x.1 + 1)), (0, .ref (gb γ + a0))] dX12_backward_43 rfl (by decide) (by decide) rfl ?_
        refine j_goto F 12 dX12_backward_46 (by decide) ?_
        refine j_lv [(0, .ref (gb γ + a0)), (1, .int (x.1 + 1))] [1, 0] rfl ?_
        exact hk12 _ _ h
      · refine j_bipush F (-3) dX12_backward_40 (by decide) ?_
        exact j_iret F hr dX12_backward_42 h
theorem s_X12_backward_12 {γ : GE} {p : Program} {l : Launch} {e : Env} {s : State} {m : MethodId} {args : Array Value} {below : List Frame} {meth : Method} {c : Code} {S : SH} {X : (Int32 × Mem)} (F : FX γ p s m args meth c cX12_backward RX12 2) (hr : meth.sig.returnType = (some .int)) (a0 : Nat) (x12_1 : Int32) (ν : Mem) (h : lpN (l_X12_backward_12 S a0) fu (x12_1, ν) = some X) : JJ γ p l e rm_X12_backward s m args below meth c 2 0 0 (QI below γ S X args s 0 0) S ν 12 [(0, .ref (gb γ + a0)), (1, .int x12_1)] [] :=
 lpN_sound (fun x => JJ γ p l e rm_X12_backward s m args below meth c 2 0 0 (QI below γ S X args s 0 0) S x.2 12 [(0, .ref (gb γ + a0)), (1, .int x.1)] []) (fun k12 hk12 x h => t_X12_backward_12 F hr a0 k12 (fun x12_1 ν h => hk12 (x12_1, ν) h) x h) fu (x12_1, ν) h
def f_X12_backward (S : SH) (a0 : Nat) (μ : Mem) : Option (Int32 × Mem) :=
  if isO S 12 a0 = true then
  (gI S 12 a0 24 μ).bind fun v1 =>
  (if v1 = 0 then
  some ((-3), μ)
  else
  lpN (l_X12_backward_12 S  a0) fu (0, μ))
  else none
set_option maxRecDepth 100000 in
set_option maxHeartbeats 4000000 in
theorem c_X12_backward {l : Launch} {γ : GE} {S : SH} {a0 : Nat} {μ : Mem} {X : (Int32 × Mem)} (h : f_X12_backward S a0 μ = some X) : isO S 12 a0 = true ∧ Ct l γ yX12_backward cX12_backward 2 (some .int) rm_X12_backward [.ref (gb γ + a0)] S μ S X.2 (some (.int X.1)) := by
  unfold f_X12_backward at h
  obtain ⟨h0, h⟩ := if_some h
  refine ⟨h0, ?_⟩
  have hJ : ∀ (p : Program) (e : Env) (s : State) (m : MethodId) (args : Array Value) (below : List Frame) (meth : Method) (c : Code), FX γ p s m args meth c cX12_backward RX12 2 → meth.sig.returnType = (some .int) → JJ γ p l e rm_X12_backward s m args below meth c 2 0 0 (QI below γ S X args s 0 0) S μ 0 [(0, .ref (gb γ + a0))] [] := by
    intro p e s m args below meth c F hr
    refine j_aload_n F 0 dX12_backward_0 rfl ?_
    refine j_gI F fl_RX12_297.l rfl dX12_backward_1 h (fun v1 h => ?_)
    refine j_ifne F 10 dX12_backward_4 (by decide) h (fun _ h => ?_) (fun _ h => ?_)
    · refine j_iconst F 0 dX12_backward_10 (by decide) ?_
      refine j_istore_n F [(1, .int 0), (0, .ref (gb γ + a0))] dX12_backward_11 rfl (by decide) rfl ?_
      refine j_lv [(0, .ref (gb γ + a0)), (1, .int 0)] [1, 0] rfl ?_
      exact s_X12_backward_12 F hr _ _ _ h
    · refine j_bipush F (-3) dX12_backward_7 (by decide) ?_
      exact j_iret F hr dX12_backward_9 h
  exact ct_of (by decide +kernel) (Nat.le_of_ble_eq_true rfl) (fun p e s m args below meth c F hr _ => hJ p e s m args below meth c F hr)
def rm_X12_isList : Room := { frames := 1, cells := 0, slots := 0, locals := 22 }
theorem dX12_isList_0 : decode cX12_isList 0 = .ok (.iload_n 0, 1) := by decide +kernel
theorem dX12_isList_1 : decode cX12_isList 1 = .ok (.iconst 0, 1) := by decide +kernel
theorem dX12_isList_2 : decode cX12_isList 2 = .ok (.iconst 3, 1) := by decide +kernel
theorem dX12_isList_3 : decode cX12_isList 3 = .ok (.invokestatic 95, 3) := by decide +kernel
theorem dX12_isList_6 : decode cX12_isList 6 = .ok (.ireturn, 1) := by decide +kernel
def f_X12_isList (S : SH) (a0 : Int32) (μ : Mem) : Option (Int32 × Mem) :=
  (f_X12_in S a0 0 3 μ).bind fun q1 =>
  (oz q1.1).bind fun z2 => some (z2, q1.2)
set_option maxRecDepth 100000 in
set_option maxHeartbeats 4000000 in
theorem c_X12_isList {l : Launch} {γ : GE} {S : SH} {a0 : Int32} {μ : Mem} {X : (Int32 × Mem)} (h : f_X12_isList S a0 μ = some X) : Ct l γ yX12_isList cX12_isList 1 (some .boolean) rm_X12_isList [.int a0] S μ S X.2 (some (.int X.1)) := by
  unfold f_X12_isList at h
  have hJ : ∀ (p : Program) (e : Env) (s : State) (m : MethodId) (args : Array Value) (below : List Frame) (meth : Method) (c : Code), FX γ p s m args meth c cX12_isList RX12 1 → meth.sig.returnType = (some .boolean) → JJ γ p l e rm_X12_isList s m args below meth c 1 0 0 (QI below γ S X args s 0 0) S μ 0 [(0, .int a0)] [] := by
    intro p e s m args below meth c F hr
    refine j_iload_n F 0 dX12_isList_0 rfl ?_
    refine j_iconst F 0 dX12_isList_1 (by decide) ?_
    refine j_iconst F 3 dX12_isList_2 (by decide) ?_
    refine j_cSI F mi_X12_in w_1104 (rest := []) h (fun _ g => c_X12_in g) rfl rfl (Nat.le_of_ble_eq_true rfl) ⟨Nat.le_of_ble_eq_true rfl, Nat.le_of_ble_eq_true rfl⟩ ⟨Nat.le_of_ble_eq_true rfl, Nat.le_of_ble_eq_true rfl⟩ dX12_isList_3 (fun q1 h => ?_)
    exact j_zretG F hr dX12_isList_6 h
  exact ct_of (by decide +kernel) (Nat.le_of_ble_eq_true rfl) (fun p e s m args below meth c F hr _ => hJ p e s m args below meth c F hr)
def rm_X12_isSeen : Room := { frames := 6, cells := 0, slots := 0, locals := 123 }
theorem dX12_isSeen_0 : decode cX12_isSeen 0 = .ok (.aload_n 0, 1) := by decide +kernel
theorem dX12_isSeen_1 : decode cX12_isSeen 1 = .ok (.invokevirtual 232, 3) := by decide +kernel
theorem dX12_isSeen_4 : decode cX12_isSeen 4 = .ok (.ifCond .le 5, 3) := by decide +kernel
theorem dX12_isSeen_7 : decode cX12_isSeen 7 = .ok (.iconst 0, 1) := by decide +kernel
theorem dX12_isSeen_8 : decode cX12_isSeen 8 = .ok (.ireturn, 1) := by decide +kernel
theorem dX12_isSeen_9 : decode cX12_isSeen 9 = .ok (.iconst 0, 1) := by decide +kernel
theorem dX12_isSeen_10 : decode cX12_isSeen 10 = .ok (.istore_n 2, 1) := by decide +kernel
theorem dX12_isSeen_11 : decode cX12_isSeen 11 = .ok (.iload_n 2, 1) := by decide +kernel
theorem dX12_isSeen_12 : decode cX12_isSeen 12 = .ok (.iconst 4, 1) := by decide +kernel
theorem dX12_isSeen_13 : decode cX12_isSeen 13 = .ok (.if_icmp .ge 34, 3) := by decide +kernel
theorem dX12_isSeen_16 : decode cX12_isSeen 16 = .ok (.aload_n 0, 1) := by decide +kernel
theorem dX12_isSeen_17 : decode cX12_isSeen 17 = .ok (.getfield 52, 3) := by decide +kernel
theorem dX12_isSeen_20 : decode cX12_isSeen 20 = .ok (.iload_n 2, 1) := by decide +kernel
theorem dX12_isSeen_21 : decode cX12_isSeen 21 = .ok (.laload, 1) := by decide +kernel
theorem dX12_isSeen_22 : decode cX12_isSeen 22 = .ok (.aload_n 0, 1) := by decide +kernel
theorem dX12_isSeen_23 : decode cX12_isSeen 23 = .ok (.getfield 214, 3) := by decide +kernel
theorem dX12_isSeen_26 : decode cX12_isSeen 26 = .ok (.ldiv, 1) := by decide +kernel
theorem dX12_isSeen_27 : decode cX12_isSeen 27 = .ok (.aload_n 0, 1) := by decide +kernel
theorem dX12_isSeen_28 : decode cX12_isSeen 28 = .ok (.getfield 85, 3) := by decide +kernel
theorem dX12_isSeen_31 : decode cX12_isSeen 31 = .ok (.iload_n 1, 1) := by decide +kernel
theorem dX12_isSeen_32 : decode cX12_isSeen 32 = .ok (.iload_n 2, 1) := by decide +kernel
theorem dX12_isSeen_33 : decode cX12_isSeen 33 = .ok (.iadd, 1) := by decide +kernel
theorem dX12_isSeen_34 : decode cX12_isSeen 34 = .ok (.laload, 1) := by decide +kernel
theorem dX12_isSeen_35 : decode cX12_isSeen 35 = .ok (.lcmp, 1) := by decide +kernel
theorem dX12_isSeen_36 : decode cX12_isSeen 36 = .ok (.ifCond .eq 5, 3) := by decide +kernel
theorem dX12_isSeen_39 : decode cX12_isSeen 39 = .ok (.iconst 0, 1) := by decide +kernel
theorem dX12_isSeen_40 : decode cX12_isSeen 40 = .ok (.ireturn, 1) := by decide +kernel
theorem dX12_isSeen_41 : decode cX12_isSeen 41 = .ok (.iinc 2 1, 3) := by decide +kernel
theorem dX12_isSeen_44 : decode cX12_isSeen 44 = .ok (.goto (-33), 3) := by decide +kernel
theorem dX12_isSeen_47 : decode cX12_isSeen 47 = .ok (.iconst 1, 1) := by decide +kernel
theorem dX12_isSeen_48 : decode cX12_isSeen 48 = .ok (.ireturn, 1) := by decide +kernel
def l_X12_isSeen_11 (S : SH) (a0 : Nat) (a1 : Int32) (k11 : (Int32 × Mem) → Option (Int32 × Mem)) (x : (Int32 × Mem)) : Option (Int32 × Mem) :=
 (if 4 ≤ x.1 then
 some (1, x.2)
 else
 (gR S 12 a0 16).bind fun v2 =>
 (aL S v2 x.1 x.2).bind fun v3 =>
 (gL S 12 a0 17 x.2).bind fun v4 =>
 (o_ldiv v3 v4).bind fun v5 =>
 (gR S 12 a0 38).bind fun v6 =>
 (aL S v6 (a1 + x.1) x.2).bind fun v7 =>
 (if v5 = v7 then
 k11 (x.1 + 1, x.2)
 else
 some (0, x.2)))
set_option maxRecDepth 100000 in
set_option maxHeartbeats 4000000 in
theorem t_X12_isSeen_11 {γ : GE} {p : Program} {l : Launch} {e : Env} {s : State} {m : MethodId} {args : Array Value} {below : List Frame} {meth : Method} {c : Code} {S : SH} {X : (Int32 × Mem)} (F : FX γ p s m args meth c cX12_isSeen RX12 3) (hr : meth.sig.returnType = (some .boolean)) (a0 : Nat) (a1 : Int32) (k11 : (Int32 × Mem) → Option (Int32 × Mem)) (hk11 : ∀ (x11_2 : Int32) (ν : Mem), k11 (x11_2, ν) = some X → JJ γ p l e rm_X12_isSeen s m args below meth c 3 0 0 (QI below γ S X args s 0 0) S ν 11 [(0, .ref (gb γ + a0)), (1, .int a1), (2, .int x11_2)] []) (x : (Int32 × Mem)) (h : l_X12_isSeen_11 S a0 a1 k11 x = some X) : JJ γ p l e rm_X12_isSeen s m args below meth c 3 0 0 (QI below γ S X args s 0 0) S x.2 11 [(0, .ref (gb γ + a0)), (1, .int a1), (2, .int x.1)] [] := by
  unfold l_X12_isSeen_11 at h
  refine j_iload_n F 2 dX12_isSeen_11 rfl ?_
  refine j_iconst F 4 dX12_isSeen_12 (by decide) ?_
  refine j_icmpge F 47 dX12_isSeen_13 (by decide) h (fun _ h => ?_) (fun _ h => ?_)
  · refine j_iconst F 1 dX12_isSeen_47 (by decide) ?_
    exact j_zret F hr (Or.inr rfl) dX12_isSeen_48 h
  · refine j_aload_n F 0 dX12_isSeen_16 rfl ?_
    refine j_gR F fl_RX12_52 rfl dX12_isSeen_17 h (fun v2 h => ?_)
    refine j_iload_n F 2 dX12_isSeen_20 rfl ?_
    refine j_lald F dX12_isSeen_21 h (fun v3 h => ?_)
    refine j_aload_n F 0 dX12_isSeen_22 rfl ?_
    refine j_gL F fl_RX12_214.l rfl dX12_isSeen_23 h (fun v4 h => ?_)
    refine j_ldiv F dX12_isSeen_26 h (fun v5 h => ?_)
    refine j_aload_n F 0 dX12_isSeen_27 rfl ?_
    refine j_gR F fl_RX12_85 rfl dX12_isSeen_28 h (fun v6 h => ?_)
    refine j_iload_n F 1 dX12_isSeen_31 rfl ?_
    refine j_iload_n F 2 dX12_isSeen_32 rfl ?_
    refine j_iadd F dX12_isSeen_33 ?_
    refine j_lald F dX12_isSeen_34 h (fun v7 h => ?_)
    refine j_lcmpeq F 41 dX12_isSeen_35 dX12_isSeen_36 (by decide) h (fun _ h => ?_) (fun _ h => ?_)
    · refine j_iinc F 1 2 [(2, .int (x.1 + 1)), (0, .ref (gb γ + a0)), (1, .int a1)] dX12_isSeen_41 rfl (by decide) (by decide) rfl ?_
      refine j_goto F 11 dX12_isSeen_44 (by decide) ?_
      refine j_lv [(0, .ref (gb γ + a0)), (1, .int a1), (2, .int (x.1 + 1))] [1, 2, 0] rfl ?_
      exact hk11 _ _ h
    · refine j_iconst F 0 dX12_isSeen_39 (by decide) ?_
      exact j_zret F hr (Or.inl rfl) dX12_isSeen_40 h
theorem s_X12_isSeen_11 {γ : GE} {p : Program} {l : Launch} {e : Env} {s : State} {m : MethodId} {args : Array Value} {below : List Frame} {meth : Method} {c : Code} {S : SH} {X : (Int32 × Mem)} (F : FX γ p s m args meth c cX12_isSeen RX12 3) (hr : meth.sig.returnType = (some .boolean)) (a0 : Nat) (a1 : Int32) (x11_2 : Int32) (ν : Mem) (h : lpN (l_X12_isSeen_11 S a0 a1) fu (x11_2, ν) = some X) : JJ γ p l e rm_X12_isSeen s m args below meth c 3 0 0 (QI below γ S X args s 0 0) S ν 11 [(0, .ref (gb γ + a0)), (1, .int a1), (2, .int x11_2)] [] :=
 lpN_sound (fun x => JJ γ p l e rm_X12_isSeen s m args below meth c 3 0 0 (QI below γ S X args s 0 0) S x.2 11 [(0, .ref (gb γ + a0)), (1, .int a1), (2, .int x.1)] []) (fun k11 hk11 x h => t_X12_isSeen_11 F hr a0 a1 k11 (fun x11_2 ν h => hk11 (x11_2, ν) h) x h) fu (x11_2, ν) h
def f_X12_isSeen (S : SH) (a0 : Nat) (a1 : Int32) (μ : Mem) : Option (Int32 × Mem) :=
  if isO S 12 a0 = true then
  (f_X12_pushes S a0 μ).bind fun q1 =>
  (if q1.1 ≤ 0 then
  lpN (l_X12_isSeen_11 S  a0 a1) fu (0, q1.2)
  else
  some (0, q1.2))
  else none
set_option maxRecDepth 100000 in
set_option maxHeartbeats 4000000 in
theorem c_X12_isSeen {l : Launch} {γ : GE} {S : SH} {a0 : Nat} {a1 : Int32} {μ : Mem} {X : (Int32 × Mem)} (h : f_X12_isSeen S a0 a1 μ = some X) : isO S 12 a0 = true ∧ Ct l γ yX12_isSeen cX12_isSeen 3 (some .boolean) rm_X12_isSeen [.ref (gb γ + a0), .int a1] S μ S X.2 (some (.int X.1)) := by
  unfold f_X12_isSeen at h
  obtain ⟨h0, h⟩ := if_some h
  refine ⟨h0, ?_⟩
  have hJ : ∀ (p : Program) (e : Env) (s : State) (m : MethodId) (args : Array Value) (below : List Frame) (meth : Method) (c : Code), FX γ p s m args meth c cX12_isSeen RX12 3 → meth.sig.returnType = (some .boolean) → JJ γ p l e rm_X12_isSeen s m args below meth c 3 0 0 (QI below γ S X args s 0 0) S μ 0 [(0, .ref (gb γ + a0)), (1, .int a1)] [] := by
    intro p e s m args below meth c F hr
    refine j_aload_n F 0 dX12_isSeen_0 rfl ?_
    refine j_cVI F mi_X12_pushes w_1261 (rest := []) h (fun _ g => c_X12_pushes g) rfl rfl (Nat.le_of_ble_eq_true rfl) ⟨Nat.le_of_ble_eq_true rfl, Nat.le_of_ble_eq_true rfl⟩ ⟨Nat.le_of_ble_eq_true rfl, Nat.le_of_ble_eq_true rfl⟩ dX12_isSeen_1 (fun q1 h => ?_)
    refine j_ifle F 9 dX12_isSeen_4 (by decide) h (fun _ h => ?_) (fun _ h => ?_)
    · refine j_iconst F 0 dX12_isSeen_9 (by decide) ?_
      refine j_istore_n F [(2, .int 0), (0, .ref (gb γ + a0)), (1, .int a1)] dX12_isSeen_10 rfl (by decide) rfl ?_
      refine j_lv [(0, .ref (gb γ + a0)), (1, .int a1), (2, .int 0)] [1, 2, 0] rfl ?_
      exact s_X12_isSeen_11 F hr _ _ _ _ h
    · refine j_iconst F 0 dX12_isSeen_7 (by decide) ?_
      exact j_zret F hr (Or.inl rfl) dX12_isSeen_8 h
  exact ct_of (by decide +kernel) (Nat.le_of_ble_eq_true rfl) (fun p e s m args below meth c F hr _ => hJ p e s m args below meth c F hr)
def rm_X12_seen : Room := { frames := 7, cells := 0, slots := 0, locals := 145 }
theorem dX12_seen_0 : decode cX12_seen 0 = .ok (.iload_n 1, 1) := by decide +kernel
theorem dX12_seen_1 : decode cX12_seen 1 = .ok (.invokestatic 347, 3) := by decide +kernel
theorem dX12_seen_4 : decode cX12_seen 4 = .ok (.ifCond .eq 12, 3) := by decide +kernel
theorem dX12_seen_7 : decode cX12_seen 7 = .ok (.iload_n 3, 1) := by decide +kernel
theorem dX12_seen_8 : decode cX12_seen 8 = .ok (.iconst 0, 1) := by decide +kernel
theorem dX12_seen_9 : decode cX12_seen 9 = .ok (.iconst 1, 1) := by decide +kernel
theorem dX12_seen_10 : decode cX12_seen 10 = .ok (.invokestatic 95, 3) := by decide +kernel
theorem dX12_seen_13 : decode cX12_seen 13 = .ok (.ifCond .ne 5, 3) := by decide +kernel
theorem dX12_seen_16 : decode cX12_seen 16 = .ok (.iconst (-1), 1) := by decide +kernel
theorem dX12_seen_17 : decode cX12_seen 17 = .ok (.ireturn, 1) := by decide +kernel
theorem dX12_seen_18 : decode cX12_seen 18 = .ok (.aload_n 0, 1) := by decide +kernel
theorem dX12_seen_19 : decode cX12_seen 19 = .ok (.getfield 82, 3) := by decide +kernel
theorem dX12_seen_22 : decode cX12_seen 22 = .ok (.iload_n 1, 1) := by decide +kernel
theorem dX12_seen_23 : decode cX12_seen 23 = .ok (.iaload, 1) := by decide +kernel
theorem dX12_seen_24 : decode cX12_seen 24 = .ok (.ifCond .ge 6, 3) := by decide +kernel
theorem dX12_seen_27 : decode cX12_seen 27 = .ok (.bipush (-11), 2) := by decide +kernel
theorem dX12_seen_29 : decode cX12_seen 29 = .ok (.ireturn, 1) := by decide +kernel
theorem dX12_seen_30 : decode cX12_seen 30 = .ok (.iload_n 2, 1) := by decide +kernel
theorem dX12_seen_31 : decode cX12_seen 31 = .ok (.ifCond .lt 20, 3) := by decide +kernel
theorem dX12_seen_34 : decode cX12_seen 34 = .ok (.iload_n 2, 1) := by decide +kernel
theorem dX12_seen_35 : decode cX12_seen 35 = .ok (.i2l, 1) := by decide +kernel
theorem dX12_seen_36 : decode cX12_seen 36 = .ok (.ldc2_w 350, 3) := by decide +kernel
theorem dX12_seen_39 : decode cX12_seen 39 = .ok (.ladd, 1) := by decide +kernel
theorem dX12_seen_40 : decode cX12_seen 40 = .ok (.aload_n 0, 1) := by decide +kernel
theorem dX12_seen_41 : decode cX12_seen 41 = .ok (.getfield 82, 3) := by decide +kernel
theorem dX12_seen_44 : decode cX12_seen 44 = .ok (.iload_n 1, 1) := by decide +kernel
theorem dX12_seen_45 : decode cX12_seen 45 = .ok (.iaload, 1) := by decide +kernel
theorem dX12_seen_46 : decode cX12_seen 46 = .ok (.i2l, 1) := by decide +kernel
theorem dX12_seen_47 : decode cX12_seen 47 = .ok (.lcmp, 1) := by decide +kernel
theorem dX12_seen_48 : decode cX12_seen 48 = .ok (.ifCond .le 6, 3) := by decide +kernel
theorem dX12_seen_51 : decode cX12_seen 51 = .ok (.bipush (-13), 2) := by decide +kernel
theorem dX12_seen_53 : decode cX12_seen 53 = .ok (.ireturn, 1) := by decide +kernel
theorem dX12_seen_54 : decode cX12_seen 54 = .ok (.aload_n 0, 1) := by decide +kernel
theorem dX12_seen_55 : decode cX12_seen 55 = .ok (.getfield 36, 3) := by decide +kernel
theorem dX12_seen_58 : decode cX12_seen 58 = .ok (.iconst 3, 1) := by decide +kernel
theorem dX12_seen_59 : decode cX12_seen 59 = .ok (.iaload, 1) := by decide +kernel
theorem dX12_seen_60 : decode cX12_seen 60 = .ok (.istore 4, 2) := by decide +kernel
theorem dX12_seen_62 : decode cX12_seen 62 = .ok (.iconst 0, 1) := by decide +kernel
theorem dX12_seen_63 : decode cX12_seen 63 = .ok (.istore 5, 2) := by decide +kernel
theorem dX12_seen_65 : decode cX12_seen 65 = .ok (.bipush (-5), 2) := by decide +kernel
theorem dX12_seen_67 : decode cX12_seen 67 = .ok (.istore 6, 2) := by decide +kernel
theorem dX12_seen_69 : decode cX12_seen 69 = .ok (.sipush 999, 3) := by decide +kernel
theorem dX12_seen_72 : decode cX12_seen 72 = .ok (.istore 7, 2) := by decide +kernel
theorem dX12_seen_74 : decode cX12_seen 74 = .ok (.iload 7, 2) := by decide +kernel
theorem dX12_seen_76 : decode cX12_seen 76 = .ok (.ifCond .lt 37, 3) := by decide +kernel
theorem dX12_seen_79 : decode cX12_seen 79 = .ok (.aload_n 0, 1) := by decide +kernel
theorem dX12_seen_80 : decode cX12_seen 80 = .ok (.getfield 36, 3) := by decide +kernel
theorem dX12_seen_83 : decode cX12_seen 83 = .ok (.iconst 3, 1) := by decide +kernel
theorem dX12_seen_84 : decode cX12_seen 84 = .ok (.iload 7, 2) := by decide +kernel
theorem dX12_seen_86 : decode cX12_seen 86 = .ok (.iastore, 1) := by decide +kernel
theorem dX12_seen_87 : decode cX12_seen 87 = .ok (.aload_n 0, 1) := by decide +kernel
theorem dX12_seen_88 : decode cX12_seen 88 = .ok (.bipush 30, 2) := by decide +kernel
theorem dX12_seen_90 : decode cX12_seen 90 = .ok (.iload_n 1, 1) := by decide +kernel
theorem dX12_seen_91 : decode cX12_seen 91 = .ok (.imul, 1) := by decide +kernel
theorem dX12_seen_92 : decode cX12_seen 92 = .ok (.iload_n 2, 1) := by decide +kernel
theorem dX12_seen_93 : decode cX12_seen 93 = .ok (.iadd, 1) := by decide +kernel
theorem dX12_seen_94 : decode cX12_seen 94 = .ok (.invokevirtual 352, 3) := by decide +kernel
theorem dX12_seen_97 : decode cX12_seen 97 = .ok (.ifCond .eq 10, 3) := by decide +kernel
theorem dX12_seen_100 : decode cX12_seen 100 = .ok (.iinc 5 1, 3) := by decide +kernel
theorem dX12_seen_103 : decode cX12_seen 103 = .ok (.iload 7, 2) := by decide +kernel
theorem dX12_seen_105 : decode cX12_seen 105 = .ok (.istore 6, 2) := by decide +kernel
theorem dX12_seen_107 : decode cX12_seen 107 = .ok (.iinc 7 (-1), 3) := by decide +kernel
theorem dX12_seen_110 : decode cX12_seen 110 = .ok (.goto (-36), 3) := by decide +kernel
theorem dX12_seen_113 : decode cX12_seen 113 = .ok (.aload_n 0, 1) := by decide +kernel
theorem dX12_seen_114 : decode cX12_seen 114 = .ok (.getfield 36, 3) := by decide +kernel
theorem dX12_seen_117 : decode cX12_seen 117 = .ok (.iconst 3, 1) := by decide +kernel
theorem dX12_seen_118 : decode cX12_seen 118 = .ok (.iload 4, 2) := by decide +kernel
theorem dX12_seen_120 : decode cX12_seen 120 = .ok (.iastore, 1) := by decide +kernel
theorem dX12_seen_121 : decode cX12_seen 121 = .ok (.iload_n 3, 1) := by decide +kernel
theorem dX12_seen_122 : decode cX12_seen 122 = .ok (.ifCond .ne 8, 3) := by decide +kernel
theorem dX12_seen_125 : decode cX12_seen 125 = .ok (.iload 5, 2) := by decide +kernel
theorem dX12_seen_127 : decode cX12_seen 127 = .ok (.goto 5, 3) := by decide +kernel
theorem dX12_seen_130 : decode cX12_seen 130 = .ok (.iload 6, 2) := by decide +kernel
theorem dX12_seen_132 : decode cX12_seen 132 = .ok (.ireturn, 1) := by decide +kernel
def b_X12_seen_113 (S : SH) (a0 : Nat) (a3 : Int32) (a4 : Int32) (a5 : Int32) (a6 : Int32) (μ : Mem) : Option (Int32 × Mem) :=
 (gR S 12 a0 9).bind fun v9 =>
 (sI S v9 3 a4 μ).bind fun ν10 =>
 (if a3 = 0 then
 some (a5, ν10)
 else
 some (a6, ν10))
set_option maxRecDepth 100000 in
set_option maxHeartbeats 4000000 in
theorem s_X12_seen_113 {γ : GE} {p : Program} {l : Launch} {e : Env} {s : State} {m : MethodId} {args : Array Value} {below : List Frame} {meth : Method} {c : Code} {S : SH} {X : (Int32 × Mem)} (F : FX γ p s m args meth c cX12_seen RX12 8) (hr : meth.sig.returnType = (some .int)) (a0 : Nat) (a3 : Int32) (a4 : Int32) (a5 : Int32) (a6 : Int32)    (μ : Mem) (h : b_X12_seen_113 S a0 a3 a4 a5 a6 μ = some X) : JJ γ p l e rm_X12_seen s m args below meth c 8 0 0 (QI below γ S X args s 0 0) S μ 113 [(0, .ref (gb γ + a0)), (3, .int a3), (4, .int a4), (5, .int a5), (6, .int a6)] [] := by
  unfold b_X12_seen_113 at h
  refine j_aload_n F 0 dX12_seen_113 rfl ?_
  refine j_gR F fl_RX12_36 rfl dX12_seen_114 h (fun v9 h => ?_)
  refine j_iconst F 3 dX12_seen_117 (by decide) ?_
  refine j_iload F 2 dX12_seen_118 rfl ?_
  refine j_iast F dX12_seen_120 h (fun ν10 h => ?_)
  refine j_iload_n F 1 dX12_seen_121 rfl ?_
  refine j_ifne F 130 dX12_seen_122 (by decide) h (fun _ h => ?_) (fun _ h => ?_)
  · refine j_iload F 4 dX12_seen_130 rfl ?_
    exact j_iret F hr dX12_seen_132 h
  · refine j_iload F 3 dX12_seen_125 rfl ?_
    refine j_goto F 132 dX12_seen_127 (by decide) ?_
    exact j_iret F hr dX12_seen_132 h
def l_X12_seen_74 (S : SH) (a0 : Nat) (a1 : Int32) (a2 : Int32) (a3 : Int32) (a4 : Int32) (k74 : (Int32 × Int32 × Int32 × Mem) → Option (Int32 × Mem)) (x : (Int32 × Int32 × Int32 × Mem)) : Option (Int32 × Mem) :=
 (if x.2.2.1 < 0 then
 b_X12_seen_113 S a0 a3 a4 x.1 x.2.1 x.2.2.2
 else
 (gR S 12 a0 9).bind fun v11 =>
 (sI S v11 3 x.2.2.1 x.2.2.2).bind fun ν12 =>
 (f_X12_isSeen S a0 ((30 * a1) + a2) ν12).bind fun q13 =>
 (if q13.1 = 0 then
 k74 (x.1, x.2.1, x.2.2.1 + (-1), q13.2)
 else
 k74 (x.1 + 1, x.2.2.1, x.2.2.1 + (-1), q13.2)))
set_option maxRecDepth 100000 in
set_option maxHeartbeats 4000000 in
theorem t_X12_seen_74 {γ : GE} {p : Program} {l : Launch} {e : Env} {s : State} {m : MethodId} {args : Array Value} {below : List Frame} {meth : Method} {c : Code} {S : SH} {X : (Int32 × Mem)} (F : FX γ p s m args meth c cX12_seen RX12 8) (hr : meth.sig.returnType = (some .int)) (a0 : Nat) (a1 : Int32) (a2 : Int32) (a3 : Int32) (a4 : Int32) (k74 : (Int32 × Int32 × Int32 × Mem) → Option (Int32 × Mem)) (hk74 : ∀ (x74_5 : Int32) (x74_6 : Int32) (x74_7 : Int32) (ν : Mem), k74 (x74_5, x74_6, x74_7, ν) = some X → JJ γ p l e rm_X12_seen s m args below meth c 8 0 0 (QI below γ S X args s 0 0) S ν 74 [(0, .ref (gb γ + a0)), (1, .int a1), (2, .int a2), (3, .int a3), (4, .int a4), (5, .int x74_5), (6, .int x74_6), (7, .int x74_7)] []) (x : (Int32 × Int32 × Int32 × Mem)) (h : l_X12_seen_74 S a0 a1 a2 a3 a4 k74 x = some X) : JJ γ p l e rm_X12_seen s m args below meth c 8 0 0 (QI below γ S X args s 0 0) S x.2.2.2 74 [(0, .ref (gb γ + a0)), (1, .int a1), (2, .int a2), (3, .int a3), (4, .int a4), (5, .int x.1), (6, .int x.2.1), (7, .int x.2.2.1)] [] := by
  unfold l_X12_seen_74 at h
  refine j_iload F 7 dX12_seen_74 rfl ?_
  refine j_iflt F 113 dX12_seen_76 (by decide) h (fun _ h => ?_) (fun _ h => ?_)
  · refine j_lv [(0, .ref (gb γ + a0)), (3, .int a3), (4, .int a4), (5, .int x.1), (6, .int x.2.1)] [0, 3, 4, 5, 6] rfl ?_
    exact s_X12_seen_113 F hr _ _ _ _ _ _ h
  · refine j_aload_n F 0 dX12_seen_79 rfl ?_
    refine j_gR F fl_RX12_36 rfl dX12_seen_80 h (fun v11 h => ?_)
    refine j_iconst F 3 dX12_seen_83 (by decide) ?_
    refine j_iload F 7 dX12_seen_84 rfl ?_
    refine j_iast F dX12_seen_86 h (fun ν12 h => ?_)
    refine j_aload_n F 0 dX12_seen_87 rfl ?_
    refine j_bipush F 30 dX12_seen_88 (by decide) ?_
    refine j_iload_n F 1 dX12_seen_90 rfl ?_
    refine j_imul F dX12_seen_91 ?_
    refine j_iload_n F 2 dX12_seen_92 rfl ?_
    refine j_iadd F dX12_seen_93 ?_
    refine j_cVI F mi_X12_isSeen w_1438 (rest := []) h (fun _ g => c_X12_isSeen g) rfl rfl (Nat.le_of_ble_eq_true rfl) ⟨Nat.le_of_ble_eq_true rfl, Nat.le_of_ble_eq_true rfl⟩ ⟨Nat.le_of_ble_eq_true rfl, Nat.le_of_ble_eq_true rfl⟩ dX12_seen_94 (fun q13 h => ?_)
    refine j_ifeq F 107 dX12_seen_97 (by decide) h (fun _ h => ?_) (fun _ h => ?_)
    · refine j_iinc F (-1) 7 [(7, .int (x.2.2.1 + (-1))), (0, .ref (gb γ + a0)), (1, .int a1), (2, .int a2), (3, .int a3), (4, .int a4), (5, .int x.1), (6, .int x.2.1)] dX12_seen_107 rfl (by decide) (by decide) rfl ?_
      refine j_goto F 74 dX12_seen_110 (by decide) ?_
      refine j_lv [(0, .ref (gb γ + a0)), (1, .int a1), (2, .int a2), (3, .int a3), (4, .int a4), (5, .int x.1), (6, .int x.2.1), (7, .int (x.2.2.1 + (-1)))] [1, 2, 3, 4, 5, 6, 7, 0] rfl ?_
      exact hk74 _ _ _ _ h
    · refine j_iinc F 1 5 [(5, .int (x.1 + 1)), (0, .ref (gb γ + a0)), (1, .int a1), (2, .int a2), (3, .int a3), (4, .int a4), (6, .int x.2.1), (7, .int x.2.2.1)] dX12_seen_100 rfl (by decide) (by decide) rfl ?_
      refine j_iload F 7 dX12_seen_103 rfl ?_
      refine j_istore F [(6, .int x.2.2.1), (5, .int (x.1 + 1)), (0, .ref (gb γ + a0)), (1, .int a1), (2, .int a2), (3, .int a3), (4, .int a4), (7, .int x.2.2.1)] dX12_seen_105 (by decide) rfl ?_
      refine j_iinc F (-1) 7 [(7, .int (x.2.2.1 + (-1))), (6, .int x.2.2.1), (5, .int (x.1 + 1)), (0, .ref (gb γ + a0)), (1, .int a1), (2, .int a2), (3, .int a3), (4, .int a4)] dX12_seen_107 rfl (by decide) (by decide) rfl ?_
      refine j_goto F 74 dX12_seen_110 (by decide) ?_
      refine j_lv [(0, .ref (gb γ + a0)), (1, .int a1), (2, .int a2), (3, .int a3), (4, .int a4), (5, .int (x.1 + 1)), (6, .int x.2.2.1), (7, .int (x.2.2.1 + (-1)))] [3, 4, 5, 6, 7, 2, 1, 0] rfl ?_
      exact hk74 _ _ _ _ h
theorem s_X12_seen_74 {γ : GE} {p : Program} {l : Launch} {e : Env} {s : State} {m : MethodId} {args : Array Value} {below : List Frame} {meth : Method} {c : Code} {S : SH} {X : (Int32 × Mem)} (F : FX γ p s m args meth c cX12_seen RX12 8) (hr : meth.sig.returnType = (some .int)) (a0 : Nat) (a1 : Int32) (a2 : Int32) (a3 : Int32) (a4 : Int32) (x74_5 : Int32) (x74_6 : Int32) (x74_7 : Int32) (ν : Mem) (h : lpN (l_X12_seen_74 S a0 a1 a2 a3 a4) fu (x74_5, x74_6, x74_7, ν) = some X) : JJ γ p l e rm_X12_seen s m args below meth c 8 0 0 (QI below γ S X args s 0 0) S ν 74 [(0, .ref (gb γ + a0)), (1, .int a1), (2, .int a2), (3, .int a3), (4, .int a4), (5, .int x74_5), (6, .int x74_6), (7, .int x74_7)] [] :=
 lpN_sound (fun x => JJ γ p l e rm_X12_seen s m args below meth c 8 0 0 (QI below γ S X args s 0 0) S x.2.2.2 74 [(0, .ref (gb γ + a0)), (1, .int a1), (2, .int a2), (3, .int a3), (4, .int a4), (5, .int x.1), (6, .int x.2.1), (7, .int x.2.2.1)] []) (fun k74 hk74 x h => t_X12_seen_74 F hr a0 a1 a2 a3 a4 k74 (fun x74_5 x74_6 x74_7 ν h => hk74 (x74_5, x74_6, x74_7, ν) h) x h) fu (x74_5, x74_6, x74_7, ν) h
def f_X12_seen (S : SH) (a0 : Nat) (a1 : Int32) (a2 : Int32) (a3 : Int32) (μ : Mem) : Option (Int32 × Mem) :=
  if isO S 12 a0 = true then
  (f_X12_isList S a1 μ).bind fun q1 =>
  (if q1.1 = 0 then
  some ((-1), q1.2)
  else
  (f_X12_in S a3 0 1 q1.2).bind fun q2 =>
  (if q2.1 = 0 then
  some ((-1), q2.2)
  else
  (gR S 12 a0 37).bind fun v3 =>
  (aI S .int v3 a1 q2.2).bind fun v4 =>
  (if 0 ≤ v4 then
  (if a2 < 0 then
  some ((-13), q2.2)
  else
  (gR S 12 a0 37).bind fun v5 =>
  (aI S .int v5 a1 q2.2).bind fun v6 =>
  (if (a2.toInt64 + 4) ≤ v6.toInt64 then
  (gR S 12 a0 9).bind fun v7 =>
  (aI S .int v7 3 q2.2).bind fun v8 =>
  lpN (l_X12_seen_74 S  a0 a1 a2 a3 v8) fu (0, (-5), 999, q2.2)
  else
  some ((-13), q2.2)))
  else
  some ((-11), q2.2))))
  else none
set_option maxRecDepth 100000 in
set_option maxHeartbeats 4000000 in
theorem c_X12_seen {l : Launch} {γ : GE} {S : SH} {a0 : Nat} {a1 : Int32} {a2 : Int32} {a3 : Int32} {μ : Mem} {X : (Int32 × Mem)} (h : f_X12_seen S a0 a1 a2 a3 μ = some X) : isO S 12 a0 = true ∧ Ct l γ yX12_seen cX12_seen 8 (some .int) rm_X12_seen [.ref (gb γ + a0), .int a1, .int a2, .int a3] S μ S X.2 (some (.int X.1)) := by
  unfold f_X12_seen at h
  obtain ⟨h0, h⟩ := if_some h
  refine ⟨h0, ?_⟩
  have hJ : ∀ (p : Program) (e : Env) (s : State) (m : MethodId) (args : Array Value) (below : List Frame) (meth : Method) (c : Code), FX γ p s m args meth c cX12_seen RX12 8 → meth.sig.returnType = (some .int) → JJ γ p l e rm_X12_seen s m args below meth c 8 0 0 (QI below γ S X args s 0 0) S μ 0 [(0, .ref (gb γ + a0)), (1, .int a1), (2, .int a2), (3, .int a3)] [] := by
    intro p e s m args below meth c F hr
    refine j_iload_n F 1 dX12_seen_0 rfl ?_
    refine j_cSI F mi_X12_isList w_1434 (rest := []) h (fun _ g => c_X12_isList g) rfl rfl (Nat.le_of_ble_eq_true rfl) ⟨Nat.le_of_ble_eq_true rfl, Nat.le_of_ble_eq_true rfl⟩ ⟨Nat.le_of_ble_eq_true rfl, Nat.le_of_ble_eq_true rfl⟩ dX12_seen_1 (fun q1 h => ?_)
    refine j_ifeq F 16 dX12_seen_4 (by decide) h (fun _ h => ?_) (fun _ h => ?_)
    · refine j_iconst F (-1) dX12_seen_16 (by decide) ?_
      exact j_iret F hr dX12_seen_17 h
    · refine j_iload_n F 3 dX12_seen_7 rfl ?_
      refine j_iconst F 0 dX12_seen_8 (by decide) ?_
      refine j_iconst F 1 dX12_seen_9 (by decide) ?_
      refine j_cSI F mi_X12_in w_1104 (rest := []) h (fun _ g => c_X12_in g) rfl rfl (Nat.le_of_ble_eq_true rfl) ⟨Nat.le_of_ble_eq_true rfl, Nat.le_of_ble_eq_true rfl⟩ ⟨Nat.le_of_ble_eq_true rfl, Nat.le_of_ble_eq_true rfl⟩ dX12_seen_10 (fun q2 h => ?_)
      refine j_ifne F 18 dX12_seen_13 (by decide) h (fun _ h => ?_) (fun _ h => ?_)
      · refine j_aload_n F 0 dX12_seen_18 rfl ?_
        refine j_gR F fl_RX12_82 rfl dX12_seen_19 h (fun v3 h => ?_)
        refine j_iload_n F 1 dX12_seen_22 rfl ?_
        refine j_iald F dX12_seen_23 h (fun v4 h => ?_)
        refine j_ifge F 30 dX12_seen_24 (by decide) h (fun _ h => ?_) (fun _ h => ?_)
        · refine j_iload_n F 2 dX12_seen_30 rfl ?_
          refine j_iflt F 51 dX12_seen_31 (by decide) h (fun _ h => ?_) (fun _ h => ?_)
          · refine j_bipush F (-13) dX12_seen_51 (by decide) ?_
            exact j_iret F hr dX12_seen_53 h
          · refine j_iload_n F 2 dX12_seen_34 rfl ?_
            refine j_i2l F dX12_seen_35 ?_
            refine j_ldc2 F 4 dX12_seen_36 w_1437 ?_
            refine j_ladd F dX12_seen_39 ?_
            refine j_aload_n F 0 dX12_seen_40 rfl ?_
            refine j_gR F fl_RX12_82 rfl dX12_seen_41 h (fun v5 h => ?_)
            refine j_iload_n F 1 dX12_seen_44 rfl ?_
            refine j_iald F dX12_seen_45 h (fun v6 h => ?_)
            refine j_i2l F dX12_seen_46 ?_
            refine j_lcmple F 54 dX12_seen_47 dX12_seen_48 (by decide) h (fun _ h => ?_) (fun _ h => ?_)
            · refine j_aload_n F 0 dX12_seen_54 rfl ?_
              refine j_gR F fl_RX12_36 rfl dX12_seen_55 h (fun v7 h => ?_)
              refine j_iconst F 3 dX12_seen_58 (by decide) ?_
              refine j_iald F dX12_seen_59 h (fun v8 h => ?_)
              refine j_istore F [(4, .int v8), (0, .ref (gb γ + a0)), (1, .int a1), (2, .int a2), (3, .int a3)] dX12_seen_60 (by decide) rfl ?_
              refine j_iconst F 0 dX12_seen_62 (by decide) ?_
              refine j_istore F [(5, .int 0), (4, .int v8), (0, .ref (gb γ + a0)), (1, .int a1), (2, .int a2), (3, .int a3)] dX12_seen_63 (by decide) rfl ?_
              refine j_bipush F (-5) dX12_seen_65 (by decide) ?_
              refine j_istore F [(6, .int (-5)), (5, .int 0), (4, .int v8), (0, .ref (gb γ + a0)), (1, .int a1), (2, .int a2), (3, .int a3)] dX12_seen_67 (by decide) rfl ?_
              refine j_sipush F 999 dX12_seen_69 (by decide) ?_
              refine j_istore F [(7, .int 999), (6, .int (-5)), (5, .int 0), (4, .int v8), (0, .ref (gb γ + a0)), (1, .int a1), (2, .int a2), (3, .int a3)] dX12_seen_72 (by decide) rfl ?_
              refine j_lv [(0, .ref (gb γ + a0)), (1, .int a1), (2, .int a2), (3, .int a3), (4, .int v8), (5, .int 0), (6, .int (-5)), (7, .int 999)] [4, 5, 6, 7, 3, 2, 1, 0] rfl ?_
              exact s_X12_seen_74 F hr _ _ _ _ _ _ _ _ _ h
            · refine j_bipush F (-13) dX12_seen_51 (by decide) ?_
              exact j_iret F hr dX12_seen_53 h
        · refine j_bipush F (-11) dX12_seen_27 (by decide) ?_
          exact j_iret F hr dX12_seen_29 h
      · refine j_iconst F (-1) dX12_seen_16 (by decide) ?_
        exact j_iret F hr dX12_seen_17 h
  exact ct_of (by decide +kernel) (Nat.le_of_ble_eq_true rfl) (fun p e s m args below meth c F hr _ => hJ p e s m args below meth c F hr)
