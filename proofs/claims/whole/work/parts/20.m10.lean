def rm_X12_isThere : Room := { frames := 0, cells := 0, slots := 0, locals := 0 }
theorem dX12_isThere_0 : decode cX12_isThere 0 = .ok (.iload_n 2, 1) := by decide +kernel
theorem dX12_isThere_1 : decode cX12_isThere 1 = .ok (.aload_n 0, 1) := by decide +kernel
theorem dX12_isThere_2 : decode cX12_isThere 2 = .ok (.getfield 27, 3) := by decide +kernel
theorem dX12_isThere_5 : decode cX12_isThere 5 = .ok (.iload_n 1, 1) := by decide +kernel
theorem dX12_isThere_6 : decode cX12_isThere 6 = .ok (.iaload, 1) := by decide +kernel
theorem dX12_isThere_7 : decode cX12_isThere 7 = .ok (.if_icmp .ge 22, 3) := by decide +kernel
theorem dX12_isThere_10 : decode cX12_isThere 10 = .ok (.aload_n 0, 1) := by decide +kernel
theorem dX12_isThere_11 : decode cX12_isThere 11 = .ok (.getfield 30, 3) := by decide +kernel
theorem dX12_isThere_14 : decode cX12_isThere 14 = .ok (.bipush 10, 2) := by decide +kernel
theorem dX12_isThere_16 : decode cX12_isThere 16 = .ok (.iload_n 1, 1) := by decide +kernel
theorem dX12_isThere_17 : decode cX12_isThere 17 = .ok (.imul, 1) := by decide +kernel
theorem dX12_isThere_18 : decode cX12_isThere 18 = .ok (.iload_n 2, 1) := by decide +kernel
theorem dX12_isThere_19 : decode cX12_isThere 19 = .ok (.iadd, 1) := by decide +kernel
theorem dX12_isThere_20 : decode cX12_isThere 20 = .ok (.iaload, 1) := by decide +kernel
theorem dX12_isThere_21 : decode cX12_isThere 21 = .ok (.iload_n 3, 1) := by decide +kernel
theorem dX12_isThere_22 : decode cX12_isThere 22 = .ok (.if_icmp .ne 7, 3) := by decide +kernel
theorem dX12_isThere_25 : decode cX12_isThere 25 = .ok (.iconst 1, 1) := by decide +kernel
theorem dX12_isThere_26 : decode cX12_isThere 26 = .ok (.goto 4, 3) := by decide +kernel
theorem dX12_isThere_29 : decode cX12_isThere 29 = .ok (.iconst 0, 1) := by decide +kernel
theorem dX12_isThere_30 : decode cX12_isThere 30 = .ok (.ireturn, 1) := by decide +kernel
def f_X12_isThere (S : SH) (a0 : Nat) (a1 : Int32) (a2 : Int32) (a3 : Int32) (μ : Mem) : Option (Int32 × Mem) :=
  if isO S 12 a0 = true then
  (gR S 12 a0 6).bind fun v1 =>
  (aI S .int v1 a1 μ).bind fun v2 =>
  (if v2 ≤ a2 then
  some (0, μ)
  else
  (gR S 12 a0 7).bind fun v3 =>
  (aI S .int v3 ((10 * a1) + a2) μ).bind fun v4 =>
  (if v4 = a3 then
  some (1, μ)
  else
  some (0, μ)))
  else none
set_option maxRecDepth 100000 in
set_option maxHeartbeats 4000000 in
theorem c_X12_isThere {l : Launch} {γ : GE} {S : SH} {a0 : Nat} {a1 : Int32} {a2 : Int32} {a3 : Int32} {μ : Mem} {X : (Int32 × Mem)} (h : f_X12_isThere S a0 a1 a2 a3 μ = some X) : isO S 12 a0 = true ∧ Ct l γ yX12_isThere cX12_isThere 4 (some .boolean) rm_X12_isThere [.ref (gb γ + a0), .int a1, .int a2, .int a3] S μ S X.2 (some (.int X.1)) := by
  unfold f_X12_isThere at h
  obtain ⟨h0, h⟩ := if_some h
  refine ⟨h0, ?_⟩
  have hJ : ∀ (p : Program) (e : Env) (s : State) (m : MethodId) (args : Array Value) (below : List Frame) (meth : Method) (c : Code), FX γ p s m args meth c cX12_isThere RX12 4 → meth.sig.returnType = (some .boolean) → JJ γ p l e rm_X12_isThere s m args below meth c 4 0 0 (QI below γ S X args s 0 0) S μ 0 [(0, .ref (gb γ + a0)), (1, .int a1), (2, .int a2), (3, .int a3)] [] := by
    intro p e s m args below meth c F hr
    refine j_iload_n F 2 dX12_isThere_0 rfl ?_
    refine j_aload_n F 0 dX12_isThere_1 rfl ?_
    refine j_gR F fl_RX12_27 rfl dX12_isThere_2 h (fun v1 h => ?_)
    refine j_iload_n F 1 dX12_isThere_5 rfl ?_
    refine j_iald F dX12_isThere_6 h (fun v2 h => ?_)
    refine j_icmpge F 29 dX12_isThere_7 (by decide) h (fun _ h => ?_) (fun _ h => ?_)
    · refine j_iconst F 0 dX12_isThere_29 (by decide) ?_
      exact j_zret F hr (Or.inl rfl) dX12_isThere_30 h
    · refine j_aload_n F 0 dX12_isThere_10 rfl ?_
      refine j_gR F fl_RX12_30 rfl dX12_isThere_11 h (fun v3 h => ?_)
      refine j_bipush F 10 dX12_isThere_14 (by decide) ?_
      refine j_iload_n F 1 dX12_isThere_16 rfl ?_
      refine j_imul F dX12_isThere_17 ?_
      refine j_iload_n F 2 dX12_isThere_18 rfl ?_
      refine j_iadd F dX12_isThere_19 ?_
      refine j_iald F dX12_isThere_20 h (fun v4 h => ?_)
      refine j_iload_n F 3 dX12_isThere_21 rfl ?_
      refine j_icmpne F 29 dX12_isThere_22 (by decide) h (fun _ h => ?_) (fun _ h => ?_)
      · refine j_iconst F 0 dX12_isThere_29 (by decide) ?_
        exact j_zret F hr (Or.inl rfl) dX12_isThere_30 h
      · refine j_iconst F 1 dX12_isThere_25 (by decide) ?_
        refine j_goto F 30 dX12_isThere_26 (by decide) ?_
        exact j_zret F hr (Or.inr rfl) dX12_isThere_30 h
  exact ct_of (by decide +kernel) (Nat.le_of_ble_eq_true rfl) (fun p e s m args below meth c F hr _ => hJ p e s m args below meth c F hr)
def rm_X12_goes : Room := { frames := 0, cells := 0, slots := 0, locals := 0 }
theorem dX12_goes_0 : decode cX12_goes 0 = .ok (.aload_n 0, 1) := by decide +kernel
theorem dX12_goes_1 : decode cX12_goes 1 = .ok (.getfield 27, 3) := by decide +kernel
theorem dX12_goes_4 : decode cX12_goes 4 = .ok (.iload_n 1, 1) := by decide +kernel
theorem dX12_goes_5 : decode cX12_goes 5 = .ok (.dup2, 1) := by decide +kernel
theorem dX12_goes_6 : decode cX12_goes 6 = .ok (.iaload, 1) := by decide +kernel
theorem dX12_goes_7 : decode cX12_goes 7 = .ok (.iconst 1, 1) := by decide +kernel
theorem dX12_goes_8 : decode cX12_goes 8 = .ok (.isub, 1) := by decide +kernel
theorem dX12_goes_9 : decode cX12_goes 9 = .ok (.iastore, 1) := by decide +kernel
theorem dX12_goes_10 : decode cX12_goes 10 = .ok (.bipush 10, 2) := by decide +kernel
theorem dX12_goes_12 : decode cX12_goes 12 = .ok (.iload_n 1, 1) := by decide +kernel
theorem dX12_goes_13 : decode cX12_goes 13 = .ok (.imul, 1) := by decide +kernel
theorem dX12_goes_14 : decode cX12_goes 14 = .ok (.iload_n 2, 1) := by decide +kernel
theorem dX12_goes_15 : decode cX12_goes 15 = .ok (.iadd, 1) := by decide +kernel
theorem dX12_goes_16 : decode cX12_goes 16 = .ok (.istore_n 3, 1) := by decide +kernel
theorem dX12_goes_17 : decode cX12_goes 17 = .ok (.iload_n 3, 1) := by decide +kernel
theorem dX12_goes_18 : decode cX12_goes 18 = .ok (.bipush 10, 2) := by decide +kernel
theorem dX12_goes_20 : decode cX12_goes 20 = .ok (.iload_n 1, 1) := by decide +kernel
theorem dX12_goes_21 : decode cX12_goes 21 = .ok (.imul, 1) := by decide +kernel
theorem dX12_goes_22 : decode cX12_goes 22 = .ok (.aload_n 0, 1) := by decide +kernel
theorem dX12_goes_23 : decode cX12_goes 23 = .ok (.getfield 27, 3) := by decide +kernel
theorem dX12_goes_26 : decode cX12_goes 26 = .ok (.iload_n 1, 1) := by decide +kernel
theorem dX12_goes_27 : decode cX12_goes 27 = .ok (.iaload, 1) := by decide +kernel
theorem dX12_goes_28 : decode cX12_goes 28 = .ok (.iadd, 1) := by decide +kernel
theorem dX12_goes_29 : decode cX12_goes 29 = .ok (.if_icmp .ge 37, 3) := by decide +kernel
theorem dX12_goes_32 : decode cX12_goes 32 = .ok (.aload_n 0, 1) := by decide +kernel
theorem dX12_goes_33 : decode cX12_goes 33 = .ok (.getfield 30, 3) := by decide +kernel
theorem dX12_goes_36 : decode cX12_goes 36 = .ok (.iload_n 3, 1) := by decide +kernel
theorem dX12_goes_37 : decode cX12_goes 37 = .ok (.aload_n 0, 1) := by decide +kernel
theorem dX12_goes_38 : decode cX12_goes 38 = .ok (.getfield 30, 3) := by decide +kernel
theorem dX12_goes_41 : decode cX12_goes 41 = .ok (.iload_n 3, 1) := by decide +kernel
theorem dX12_goes_42 : decode cX12_goes 42 = .ok (.iconst 1, 1) := by decide +kernel
theorem dX12_goes_43 : decode cX12_goes 43 = .ok (.iadd, 1) := by decide +kernel
theorem dX12_goes_44 : decode cX12_goes 44 = .ok (.iaload, 1) := by decide +kernel
theorem dX12_goes_45 : decode cX12_goes 45 = .ok (.iastore, 1) := by decide +kernel
theorem dX12_goes_46 : decode cX12_goes 46 = .ok (.aload_n 0, 1) := by decide +kernel
theorem dX12_goes_47 : decode cX12_goes 47 = .ok (.getfield 33, 3) := by decide +kernel
theorem dX12_goes_50 : decode cX12_goes 50 = .ok (.iload_n 3, 1) := by decide +kernel
theorem dX12_goes_51 : decode cX12_goes 51 = .ok (.aload_n 0, 1) := by decide +kernel
theorem dX12_goes_52 : decode cX12_goes 52 = .ok (.getfield 33, 3) := by decide +kernel
theorem dX12_goes_55 : decode cX12_goes 55 = .ok (.iload_n 3, 1) := by decide +kernel
theorem dX12_goes_56 : decode cX12_goes 56 = .ok (.iconst 1, 1) := by decide +kernel
theorem dX12_goes_57 : decode cX12_goes 57 = .ok (.iadd, 1) := by decide +kernel
theorem dX12_goes_58 : decode cX12_goes 58 = .ok (.iaload, 1) := by decide +kernel
theorem dX12_goes_59 : decode cX12_goes 59 = .ok (.iastore, 1) := by decide +kernel
theorem dX12_goes_60 : decode cX12_goes 60 = .ok (.iinc 3 1, 3) := by decide +kernel
theorem dX12_goes_63 : decode cX12_goes 63 = .ok (.goto (-46), 3) := by decide +kernel
theorem dX12_goes_66 : decode cX12_goes 66 = .ok (.return_, 1) := by decide +kernel
def l_X12_goes_17 (S : SH) (a0 : Nat) (a1 : Int32) (k17 : (Int32 × Mem) → Option (Unit × Mem)) (x : (Int32 × Mem)) : Option (Unit × Mem) :=
 (gR S 12 a0 6).bind fun v5 =>
 (aI S .int v5 a1 x.2).bind fun v6 =>
 (if ((10 * a1) + v6) ≤ x.1 then
 some ((), x.2)
 else
 (gR S 12 a0 7).bind fun v7 =>
 (gR S 12 a0 7).bind fun v8 =>
 (aI S .int v8 (x.1 + 1) x.2).bind fun v9 =>
 (sI S v7 x.1 v9 x.2).bind fun ν10 =>
 (gR S 12 a0 8).bind fun v11 =>
 (gR S 12 a0 8).bind fun v12 =>
 (aI S .int v12 (x.1 + 1) ν10).bind fun v13 =>
 (sI S v11 x.1 v13 ν10).bind fun ν14 =>
 k17 (x.1 + 1, ν14))
set_option maxRecDepth 100000 in
set_option maxHeartbeats 4000000 in
theorem t_X12_goes_17 {γ : GE} {p : Program} {l : Launch} {e : Env} {s : State} {m : MethodId} {args : Array Value} {below : List Frame} {meth : Method} {c : Code} {S : SH} {X : (Unit × Mem)} (F : FX γ p s m args meth c cX12_goes RX12 4) (hr : meth.sig.returnType = (none)) (a0 : Nat) (a1 : Int32) (k17 : (Int32 × Mem) → Option (Unit × Mem)) (hk17 : ∀ (x17_3 : Int32) (ν : Mem), k17 (x17_3, ν) = some X → JJ γ p l e rm_X12_goes s m args below meth c 4 0 0 (QV below γ S X args s 0 0) S ν 17 [(0, .ref (gb γ + a0)), (1, .int a1), (3, .int x17_3)] []) (x : (Int32 × Mem)) (h : l_X12_goes_17 S a0 a1 k17 x = some X) : JJ γ p l e rm_X12_goes s m args below meth c 4 0 0 (QV below γ S X args s 0 0) S x.2 17 [(0, .ref (gb γ + a0)), (1, .int a1), (3, .int x.1)] [] := by
  unfold l_X12_goes_17 at h
  refine j_iload_n F 2 dX12_goes_17 rfl ?_
  refine j_bipush F 10 dX12_goes_18 (by decide) ?_
  refine j_iload_n F 1 dX12_goes_20 rfl ?_
  refine j_imul F dX12_goes_21 ?_
  refine j_aload_n F 0 dX12_goes_22 rfl ?_
  refine j_gR F fl_RX12_27 rfl dX12_goes_23 h (fun v5 h => ?_)
  refine j_iload_n F 1 dX12_goes_26 rfl ?_
  refine j_iald F dX12_goes_27 h (fun v6 h => ?_)
  refine j_iadd F dX12_goes_28 ?_
  refine j_icmpge F 66 dX12_goes_29 (by decide) h (fun _ h => ?_) (fun _ h => ?_)
  · exact j_vret F hr dX12_goes_66 h
  · refine j_aload_n F 0 dX12_goes_32 rfl ?_
    refine j_gR F fl_RX12_30 rfl dX12_goes_33 h (fun v7 h => ?_)
    refine j_iload_n F 2 dX12_goes_36 rfl ?_
    refine j_aload_n F 0 dX12_goes_37 rfl ?_
    refine j_gR F fl_RX12_30 rfl dX12_goes_38 h (fun v8 h => ?_)
    refine j_iload_n F 2 dX12_goes_41 rfl ?_
    refine j_iconst F 1 dX12_goes_42 (by decide) ?_
    refine j_iadd F dX12_goes_43 ?_
    refine j_iald F dX12_goes_44 h (fun v9 h => ?_)
    refine j_iast F dX12_goes_45 h (fun ν10 h => ?_)
    refine j_aload_n F 0 dX12_goes_46 rfl ?_
    refine j_gR F fl_RX12_33 rfl dX12_goes_47 h (fun v11 h => ?_)
    refine j_iload_n F 2 dX12_goes_50 rfl ?_
    refine j_aload_n F 0 dX12_goes_51 rfl ?_
    refine j_gR F fl_RX12_33 rfl dX12_goes_52 h (fun v12 h => ?_)
    refine j_iload_n F 2 dX12_goes_55 rfl ?_
    refine j_iconst F 1 dX12_goes_56 (by decide) ?_
    refine j_iadd F dX12_goes_57 ?_
    refine j_iald F dX12_goes_58 h (fun v13 h => ?_)
    refine j_iast F dX12_goes_59 h (fun ν14 h => ?_)
    refine j_iinc F 1 2 [(3, .int (x.1 + 1)), (0, .ref (gb γ + a0)), (1, .int a1)] dX12_goes_60 rfl (by decide) (by decide) rfl ?_
    refine j_goto F 17 dX12_goes_63 (by decide) ?_
    refine j_lv [(0, .ref (gb γ + a0)), (1, .int a1), (3, .int (x.1 + 1))] [1, 2, 0] rfl ?_
    exact hk17 _ _ h
theorem s_X12_goes_17 {γ : GE} {p : Program} {l : Launch} {e : Env} {s : State} {m : MethodId} {args : Array Value} {below : List Frame} {meth : Method} {c : Code} {S : SH} {X : (Unit × Mem)} (F : FX γ p s m args meth c cX12_goes RX12 4) (hr : meth.sig.returnType = (none)) (a0 : Nat) (a1 : Int32) (x17_3 : Int32) (ν : Mem) (h : lpN (l_X12_goes_17 S a0 a1) fu (x17_3, ν) = some X) : JJ γ p l e rm_X12_goes s m args below meth c 4 0 0 (QV below γ S X args s 0 0) S ν 17 [(0, .ref (gb γ + a0)), (1, .int a1), (3, .int x17_3)] [] :=
 lpN_sound (fun x => JJ γ p l e rm_X12_goes s m args below meth c 4 0 0 (QV below γ S X args s 0 0) S x.2 17 [(0, .ref (gb γ + a0)), (1, .int a1), (3, .int x.1)] []) (fun k17 hk17 x h => t_X12_goes_17 F hr a0 a1 k17 (fun x17_3 ν h => hk17 (x17_3, ν) h) x h) fu (x17_3, ν) h
def f_X12_goes (S : SH) (a0 : Nat) (a1 : Int32) (a2 : Int32) (μ : Mem) : Option (Unit × Mem) :=
  if isO S 12 a0 = true then
  (gR S 12 a0 6).bind fun v1 =>
  (aI S .int v1 a1 μ).bind fun v2 =>
  (sI S v1 a1 (v2 - 1) μ).bind fun ν3 =>
  (some ((10 * a1) + a2)).bind fun y4 =>
  lpN (l_X12_goes_17 S  a0 a1) fu (y4, ν3)
  else none
set_option maxRecDepth 100000 in
set_option maxHeartbeats 4000000 in
theorem c_X12_goes {l : Launch} {γ : GE} {S : SH} {a0 : Nat} {a1 : Int32} {a2 : Int32} {μ : Mem} {X : (Unit × Mem)} (h : f_X12_goes S a0 a1 a2 μ = some X) : isO S 12 a0 = true ∧ Ct l γ yX12_goes cX12_goes 4 (none) rm_X12_goes [.ref (gb γ + a0), .int a1, .int a2] S μ S X.2 none := by
  unfold f_X12_goes at h
  obtain ⟨h0, h⟩ := if_some h
  refine ⟨h0, ?_⟩
  have hJ : ∀ (p : Program) (e : Env) (s : State) (m : MethodId) (args : Array Value) (below : List Frame) (meth : Method) (c : Code), FX γ p s m args meth c cX12_goes RX12 4 → meth.sig.returnType = (none) → JJ γ p l e rm_X12_goes s m args below meth c 4 0 0 (QV below γ S X args s 0 0) S μ 0 [(0, .ref (gb γ + a0)), (1, .int a1), (2, .int a2)] [] := by
    intro p e s m args below meth c F hr
    refine j_aload_n F 0 dX12_goes_0 rfl ?_
    refine j_gR F fl_RX12_27 rfl dX12_goes_1 h (fun v1 h => ?_)
    refine j_iload_n F 1 dX12_goes_4 rfl ?_
    refine j_dup2 F dX12_goes_5 rfl rfl ?_
    refine j_iald F dX12_goes_6 h (fun v2 h => ?_)
    refine j_iconst F 1 dX12_goes_7 (by decide) ?_
    refine j_isub F dX12_goes_8 ?_
    refine j_iast F dX12_goes_9 h (fun ν3 h => ?_)
    refine j_bipush F 10 dX12_goes_10 (by decide) ?_
    refine j_iload_n F 1 dX12_goes_12 rfl ?_
    refine j_imul F dX12_goes_13 ?_
    refine j_iload_n F 2 dX12_goes_14 rfl ?_
    refine j_iadd F dX12_goes_15 ?_
    refine j_nmI h (fun y4 h => ?_)
    refine j_istore_n F [(3, .int y4), (0, .ref (gb γ + a0)), (1, .int a1), (2, .int a2)] dX12_goes_16 rfl (by decide) rfl ?_
    refine j_lv [(0, .ref (gb γ + a0)), (1, .int a1), (3, .int y4)] [1, 2, 0] rfl ?_
    exact s_X12_goes_17 F hr _ _ _ _ h
  exact ct_of (by decide +kernel) (Nat.le_of_ble_eq_true rfl) (fun p e s m args below meth c F hr _ => hJ p e s m args below meth c F hr)
def rm_X12_comes : Room := { frames := 0, cells := 0, slots := 0, locals := 0 }
theorem dX12_comes_0 : decode cX12_comes 0 = .ok (.bipush 10, 2) := by decide +kernel
theorem dX12_comes_2 : decode cX12_comes 2 = .ok (.iload_n 1, 1) := by decide +kernel
theorem dX12_comes_3 : decode cX12_comes 3 = .ok (.imul, 1) := by decide +kernel
theorem dX12_comes_4 : decode cX12_comes 4 = .ok (.aload_n 0, 1) := by decide +kernel
theorem dX12_comes_5 : decode cX12_comes 5 = .ok (.getfield 27, 3) := by decide +kernel
theorem dX12_comes_8 : decode cX12_comes 8 = .ok (.iload_n 1, 1) := by decide +kernel
theorem dX12_comes_9 : decode cX12_comes 9 = .ok (.iaload, 1) := by decide +kernel
theorem dX12_comes_10 : decode cX12_comes 10 = .ok (.iadd, 1) := by decide +kernel
theorem dX12_comes_11 : decode cX12_comes 11 = .ok (.istore 4, 2) := by decide +kernel
theorem dX12_comes_13 : decode cX12_comes 13 = .ok (.iload 4, 2) := by decide +kernel
theorem dX12_comes_15 : decode cX12_comes 15 = .ok (.bipush 10, 2) := by decide +kernel
theorem dX12_comes_17 : decode cX12_comes 17 = .ok (.iload_n 1, 1) := by decide +kernel
theorem dX12_comes_18 : decode cX12_comes 18 = .ok (.imul, 1) := by decide +kernel
theorem dX12_comes_19 : decode cX12_comes 19 = .ok (.iload_n 2, 1) := by decide +kernel
theorem dX12_comes_20 : decode cX12_comes 20 = .ok (.iadd, 1) := by decide +kernel
theorem dX12_comes_21 : decode cX12_comes 21 = .ok (.if_icmp .le 41, 3) := by decide +kernel
theorem dX12_comes_24 : decode cX12_comes 24 = .ok (.aload_n 0, 1) := by decide +kernel
theorem dX12_comes_25 : decode cX12_comes 25 = .ok (.getfield 30, 3) := by decide +kernel
theorem dX12_comes_28 : decode cX12_comes 28 = .ok (.iload 4, 2) := by decide +kernel
theorem dX12_comes_30 : decode cX12_comes 30 = .ok (.aload_n 0, 1) := by decide +kernel
theorem dX12_comes_31 : decode cX12_comes 31 = .ok (.getfield 30, 3) := by decide +kernel
theorem dX12_comes_34 : decode cX12_comes 34 = .ok (.iload 4, 2) := by decide +kernel
theorem dX12_comes_36 : decode cX12_comes 36 = .ok (.iconst 1, 1) := by decide +kernel
theorem dX12_comes_37 : decode cX12_comes 37 = .ok (.isub, 1) := by decide +kernel
theorem dX12_comes_38 : decode cX12_comes 38 = .ok (.iaload, 1) := by decide +kernel
theorem dX12_comes_39 : decode cX12_comes 39 = .ok (.iastore, 1) := by decide +kernel
theorem dX12_comes_40 : decode cX12_comes 40 = .ok (.aload_n 0, 1) := by decide +kernel
theorem dX12_comes_41 : decode cX12_comes 41 = .ok (.getfield 33, 3) := by decide +kernel
theorem dX12_comes_44 : decode cX12_comes 44 = .ok (.iload 4, 2) := by decide +kernel
theorem dX12_comes_46 : decode cX12_comes 46 = .ok (.aload_n 0, 1) := by decide +kernel
theorem dX12_comes_47 : decode cX12_comes 47 = .ok (.getfield 33, 3) := by decide +kernel
theorem dX12_comes_50 : decode cX12_comes 50 = .ok (.iload 4, 2) := by decide +kernel
theorem dX12_comes_52 : decode cX12_comes 52 = .ok (.iconst 1, 1) := by decide +kernel
theorem dX12_comes_53 : decode cX12_comes 53 = .ok (.isub, 1) := by decide +kernel
theorem dX12_comes_54 : decode cX12_comes 54 = .ok (.iaload, 1) := by decide +kernel
theorem dX12_comes_55 : decode cX12_comes 55 = .ok (.iastore, 1) := by decide +kernel
theorem dX12_comes_56 : decode cX12_comes 56 = .ok (.iinc 4 (-1), 3) := by decide +kernel
theorem dX12_comes_59 : decode cX12_comes 59 = .ok (.goto (-46), 3) := by decide +kernel
theorem dX12_comes_62 : decode cX12_comes 62 = .ok (.aload_n 0, 1) := by decide +kernel
theorem dX12_comes_63 : decode cX12_comes 63 = .ok (.getfield 30, 3) := by decide +kernel
theorem dX12_comes_66 : decode cX12_comes 66 = .ok (.bipush 10, 2) := by decide +kernel
theorem dX12_comes_68 : decode cX12_comes 68 = .ok (.iload_n 1, 1) := by decide +kernel
theorem dX12_comes_69 : decode cX12_comes 69 = .ok (.imul, 1) := by decide +kernel
theorem dX12_comes_70 : decode cX12_comes 70 = .ok (.iload_n 2, 1) := by decide +kernel
theorem dX12_comes_71 : decode cX12_comes 71 = .ok (.iadd, 1) := by decide +kernel
theorem dX12_comes_72 : decode cX12_comes 72 = .ok (.iload_n 3, 1) := by decide +kernel
theorem dX12_comes_73 : decode cX12_comes 73 = .ok (.iastore, 1) := by decide +kernel
theorem dX12_comes_74 : decode cX12_comes 74 = .ok (.aload_n 0, 1) := by decide +kernel
theorem dX12_comes_75 : decode cX12_comes 75 = .ok (.getfield 27, 3) := by decide +kernel
theorem dX12_comes_78 : decode cX12_comes 78 = .ok (.iload_n 1, 1) := by decide +kernel
theorem dX12_comes_79 : decode cX12_comes 79 = .ok (.dup2, 1) := by decide +kernel
theorem dX12_comes_80 : decode cX12_comes 80 = .ok (.iaload, 1) := by decide +kernel
theorem dX12_comes_81 : decode cX12_comes 81 = .ok (.iconst 1, 1) := by decide +kernel
theorem dX12_comes_82 : decode cX12_comes 82 = .ok (.iadd, 1) := by decide +kernel
theorem dX12_comes_83 : decode cX12_comes 83 = .ok (.iastore, 1) := by decide +kernel
theorem dX12_comes_84 : decode cX12_comes 84 = .ok (.return_, 1) := by decide +kernel
def b_X12_comes_62 (S : SH) (a0 : Nat) (a1 : Int32) (a2 : Int32) (a3 : Int32) (μ : Mem) : Option (Unit × Mem) :=
 (gR S 12 a0 7).bind fun v4 =>
 (sI S v4 ((10 * a1) + a2) a3 μ).bind fun ν5 =>
 (gR S 12 a0 6).bind fun v6 =>
 (aI S .int v6 a1 ν5).bind fun v7 =>
 (sI S v6 a1 (v7 + 1) ν5).bind fun ν8 =>
 some ((), ν8)
set_option maxRecDepth 100000 in
set_option maxHeartbeats 4000000 in
theorem s_X12_comes_62 {γ : GE} {p : Program} {l : Launch} {e : Env} {s : State} {m : MethodId} {args : Array Value} {below : List Frame} {meth : Method} {c : Code} {S : SH} {X : (Unit × Mem)} (F : FX γ p s m args meth c cX12_comes RX12 5) (hr : meth.sig.returnType = (none)) (a0 : Nat) (a1 : Int32) (a2 : Int32) (a3 : Int32)    (μ : Mem) (h : b_X12_comes_62 S a0 a1 a2 a3 μ = some X) : JJ γ p l e rm_X12_comes s m args below meth c 5 0 0 (QV below γ S X args s 0 0) S μ 62 [(0, .ref (gb γ + a0)), (1, .int a1), (2, .int a2), (3, .int a3)] [] := by
  unfold b_X12_comes_62 at h
  refine j_aload_n F 0 dX12_comes_62 rfl ?_
  refine j_gR F fl_RX12_30 rfl dX12_comes_63 h (fun v4 h => ?_)
  refine j_bipush F 10 dX12_comes_66 (by decide) ?_
  refine j_iload_n F 1 dX12_comes_68 rfl ?_
  refine j_imul F dX12_comes_69 ?_
  refine j_iload_n F 2 dX12_comes_70 rfl ?_
  refine j_iadd F dX12_comes_71 ?_
  refine j_iload_n F 3 dX12_comes_72 rfl ?_
  refine j_iast F dX12_comes_73 h (fun ν5 h => ?_)
  refine j_aload_n F 0 dX12_comes_74 rfl ?_
  refine j_gR F fl_RX12_27 rfl dX12_comes_75 h (fun v6 h => ?_)
  refine j_iload_n F 1 dX12_comes_78 rfl ?_
  refine j_dup2 F dX12_comes_79 rfl rfl ?_
  refine j_iald F dX12_comes_80 h (fun v7 h => ?_)
  refine j_iconst F 1 dX12_comes_81 (by decide) ?_
  refine j_iadd F dX12_comes_82 ?_
  refine j_iast F dX12_comes_83 h (fun ν8 h => ?_)
  exact j_vret F hr dX12_comes_84 h
def l_X12_comes_13 (S : SH) (a0 : Nat) (a1 : Int32) (a2 : Int32) (a3 : Int32) (k13 : (Int32 × Mem) → Option (Unit × Mem)) (x : (Int32 × Mem)) : Option (Unit × Mem) :=
 (if x.1 ≤ ((10 * a1) + a2) then
 b_X12_comes_62 S a0 a1 a2 a3 x.2
 else
 (gR S 12 a0 7).bind fun v9 =>
 (gR S 12 a0 7).bind fun v10 =>
 (aI S .int v10 (x.1 - 1) x.2).bind fun v11 =>
 (sI S v9 x.1 v11 x.2).bind fun ν12 =>
 (gR S 12 a0 8).bind fun v13 =>
 (gR S 12 a0 8).bind fun v14 =>
 (aI S .int v14 (x.1 - 1) ν12).bind fun v15 =>
 (sI S v13 x.1 v15 ν12).bind fun ν16 =>
 k13 (x.1 + (-1), ν16))
set_option maxRecDepth 100000 in
set_option maxHeartbeats 4000000 in
theorem t_X12_comes_13 {γ : GE} {p : Program} {l : Launch} {e : Env} {s : State} {m : MethodId} {args : Array Value} {below : List Frame} {meth : Method} {c : Code} {S : SH} {X : (Unit × Mem)} (F : FX γ p s m args meth c cX12_comes RX12 5) (hr : meth.sig.returnType = (none)) (a0 : Nat) (a1 : Int32) (a2 : Int32) (a3 : Int32) (k13 : (Int32 × Mem) → Option (Unit × Mem)) (hk13 : ∀ (x13_4 : Int32) (ν : Mem), k13 (x13_4, ν) = some X → JJ γ p l e rm_X12_comes s m args below meth c 5 0 0 (QV below γ S X args s 0 0) S ν 13 [(0, .ref (gb γ + a0)), (1, .int a1), (2, .int a2), (3, .int a3), (4, .int x13_4)] []) (x : (Int32 × Mem)) (h : l_X12_comes_13 S a0 a1 a2 a3 k13 x = some X) : JJ γ p l e rm_X12_comes s m args below meth c 5 0 0 (QV below γ S X args s 0 0) S x.2 13 [(0, .ref (gb γ + a0)), (1, .int a1), (2, .int a2), (3, .int a3), (4, .int x.1)] [] := by
  unfold l_X12_comes_13 at h
  refine j_iload F 4 dX12_comes_13 rfl ?_
  refine j_bipush F 10 dX12_comes_15 (by decide) ?_
  refine j_iload_n F 1 dX12_comes_17 rfl ?_
  refine j_imul F dX12_comes_18 ?_
  refine j_iload_n F 2 dX12_comes_19 rfl ?_
  refine j_iadd F dX12_comes_20 ?_
  refine j_icmple F 62 dX12_comes_21 (by decide) h (fun _ h => ?_) (fun _ h => ?_)
  · refine j_lv [(0, .ref (gb γ + a0)), (1, .int a1), (2, .int a2), (3, .int a3)] [0, 1, 2, 3] rfl ?_
    exact s_X12_comes_62 F hr _ _ _ _ _ h
  · refine j_aload_n F 0 dX12_comes_24 rfl ?_
    refine j_gR F fl_RX12_30 rfl dX12_comes_25 h (fun v9 h => ?_)
    refine j_iload F 4 dX12_comes_28 rfl ?_
    refine j_aload_n F 0 dX12_comes_30 rfl ?_
    refine j_gR F fl_RX12_30 rfl dX12_comes_31 h (fun v10 h => ?_)
    refine j_iload F 4 dX12_comes_34 rfl ?_
    refine j_iconst F 1 dX12_comes_36 (by decide) ?_
    refine j_isub F dX12_comes_37 ?_
    refine j_iald F dX12_comes_38 h (fun v11 h => ?_)
    refine j_iast F dX12_comes_39 h (fun ν12 h => ?_)
    refine j_aload_n F 0 dX12_comes_40 rfl ?_
    refine j_gR F fl_RX12_33 rfl dX12_comes_41 h (fun v13 h => ?_)
    refine j_iload F 4 dX12_comes_44 rfl ?_
    refine j_aload_n F 0 dX12_comes_46 rfl ?_
    refine j_gR F fl_RX12_33 rfl dX12_comes_47 h (fun v14 h => ?_)
    refine j_iload F 4 dX12_comes_50 rfl ?_
    refine j_iconst F 1 dX12_comes_52 (by decide) ?_
    refine j_isub F dX12_comes_53 ?_
    refine j_iald F dX12_comes_54 h (fun v15 h => ?_)
    refine j_iast F dX12_comes_55 h (fun ν16 h => ?_)
    refine j_iinc F (-1) 4 [(4, .int (x.1 + (-1))), (0, .ref (gb γ + a0)), (1, .int a1), (2, .int a2), (3, .int a3)] dX12_comes_56 rfl (by decide) (by decide) rfl ?_
    refine j_goto F 13 dX12_comes_59 (by decide) ?_
    refine j_lv [(0, .ref (gb γ + a0)), (1, .int a1), (2, .int a2), (3, .int a3), (4, .int (x.1 + (-1)))] [1, 2, 3, 4, 0] rfl ?_
    exact hk13 _ _ h
theorem s_X12_comes_13 {γ : GE} {p : Program} {l : Launch} {e : Env} {s : State} {m : MethodId} {args : Array Value} {below : List Frame} {meth : Method} {c : Code} {S : SH} {X : (Unit × Mem)} (F : FX γ p s m args meth c cX12_comes RX12 5) (hr : meth.sig.returnType = (none)) (a0 : Nat) (a1 : Int32) (a2 : Int32) (a3 : Int32) (x13_4 : Int32) (ν : Mem) (h : lpN (l_X12_comes_13 S a0 a1 a2 a3) fu (x13_4, ν) = some X) : JJ γ p l e rm_X12_comes s m args below meth c 5 0 0 (QV below γ S X args s 0 0) S ν 13 [(0, .ref (gb γ + a0)), (1, .int a1), (2, .int a2), (3, .int a3), (4, .int x13_4)] [] :=
 lpN_sound (fun x => JJ γ p l e rm_X12_comes s m args below meth c 5 0 0 (QV below γ S X args s 0 0) S x.2 13 [(0, .ref (gb γ + a0)), (1, .int a1), (2, .int a2), (3, .int a3), (4, .int x.1)] []) (fun k13 hk13 x h => t_X12_comes_13 F hr a0 a1 a2 a3 k13 (fun x13_4 ν h => hk13 (x13_4, ν) h) x h) fu (x13_4, ν) h
def f_X12_comes (S : SH) (a0 : Nat) (a1 : Int32) (a2 : Int32) (a3 : Int32) (μ : Mem) : Option (Unit × Mem) :=
  if isO S 12 a0 = true then
  (gR S 12 a0 6).bind fun v1 =>
  (aI S .int v1 a1 μ).bind fun v2 =>
  (some ((10 * a1) + v2)).bind fun y3 =>
  lpN (l_X12_comes_13 S  a0 a1 a2 a3) fu (y3, μ)
  else none
set_option maxRecDepth 100000 in
set_option maxHeartbeats 4000000 in
theorem c_X12_comes {l : Launch} {γ : GE} {S : SH} {a0 : Nat} {a1 : Int32} {a2 : Int32} {a3 : Int32} {μ : Mem} {X : (Unit × Mem)} (h : f_X12_comes S a0 a1 a2 a3 μ = some X) : isO S 12 a0 = true ∧ Ct l γ yX12_comes cX12_comes 5 (none) rm_X12_comes [.ref (gb γ + a0), .int a1, .int a2, .int a3] S μ S X.2 none := by
  unfold f_X12_comes at h
  obtain ⟨h0, h⟩ := if_some h
  refine ⟨h0, ?_⟩
  have hJ : ∀ (p : Program) (e : Env) (s : State) (m : MethodId) (args : Array Value) (below : List Frame) (meth : Method) (c : Code), FX γ p s m args meth c cX12_comes RX12 5 → meth.sig.returnType = (none) → JJ γ p l e rm_X12_comes s m args below meth c 5 0 0 (QV below γ S X args s 0 0) S μ 0 [(0, .ref (gb γ + a0)), (1, .int a1), (2, .int a2), (3, .int a3)] [] := by
    intro p e s m args below meth c F hr
    refine j_bipush F 10 dX12_comes_0 (by decide) ?_
    refine j_iload_n F 1 dX12_comes_2 rfl ?_
    refine j_imul F dX12_comes_3 ?_
    refine j_aload_n F 0 dX12_comes_4 rfl ?_
    refine j_gR F fl_RX12_27 rfl dX12_comes_5 h (fun v1 h => ?_)
    refine j_iload_n F 1 dX12_comes_8 rfl ?_
    refine j_iald F dX12_comes_9 h (fun v2 h => ?_)
    refine j_iadd F dX12_comes_10 ?_
    refine j_nmI h (fun y3 h => ?_)
    refine j_istore F [(4, .int y3), (0, .ref (gb γ + a0)), (1, .int a1), (2, .int a2), (3, .int a3)] dX12_comes_11 (by decide) rfl ?_
    refine j_lv [(0, .ref (gb γ + a0)), (1, .int a1), (2, .int a2), (3, .int a3), (4, .int y3)] [1, 2, 3, 4, 0] rfl ?_
    exact s_X12_comes_13 F hr _ _ _ _ _ _ h
  exact ct_of (by decide +kernel) (Nat.le_of_ble_eq_true rfl) (fun p e s m args below meth c F hr _ => hJ p e s m args below meth c F hr)
def rm_X12_entry : Room := { frames := 2, cells := 0, slots := 0, locals := 42 }
theorem dX12_entry_0 : decode cX12_entry 0 = .ok (.iload_n 1, 1) := by decide +kernel
theorem dX12_entry_1 : decode cX12_entry 1 = .ok (.invokestatic 133, 3) := by decide +kernel
theorem dX12_entry_4 : decode cX12_entry 4 = .ok (.ifCond .ne 5, 3) := by decide +kernel
theorem dX12_entry_7 : decode cX12_entry 7 = .ok (.iconst (-1), 1) := by decide +kernel
theorem dX12_entry_8 : decode cX12_entry 8 = .ok (.ireturn, 1) := by decide +kernel
theorem dX12_entry_9 : decode cX12_entry 9 = .ok (.iload_n 2, 1) := by decide +kernel
theorem dX12_entry_10 : decode cX12_entry 10 = .ok (.invokestatic 136, 3) := by decide +kernel
theorem dX12_entry_13 : decode cX12_entry 13 = .ok (.ifCond .eq 14, 3) := by decide +kernel
theorem dX12_entry_16 : decode cX12_entry 16 = .ok (.iload_n 3, 1) := by decide +kernel
theorem dX12_entry_17 : decode cX12_entry 17 = .ok (.iconst (-1), 1) := by decide +kernel
theorem dX12_entry_18 : decode cX12_entry 18 = .ok (.sipush 9999, 3) := by decide +kernel
theorem dX12_entry_21 : decode cX12_entry 21 = .ok (.invokestatic 95, 3) := by decide +kernel
theorem dX12_entry_24 : decode cX12_entry 24 = .ok (.ifCond .ne 6, 3) := by decide +kernel
theorem dX12_entry_27 : decode cX12_entry 27 = .ok (.bipush (-2), 2) := by decide +kernel
theorem dX12_entry_29 : decode cX12_entry 29 = .ok (.ireturn, 1) := by decide +kernel
theorem dX12_entry_30 : decode cX12_entry 30 = .ok (.aload_n 0, 1) := by decide +kernel
theorem dX12_entry_31 : decode cX12_entry 31 = .ok (.iload_n 1, 1) := by decide +kernel
theorem dX12_entry_32 : decode cX12_entry 32 = .ok (.iload_n 2, 1) := by decide +kernel
theorem dX12_entry_33 : decode cX12_entry 33 = .ok (.invokevirtual 139, 3) := by decide +kernel
theorem dX12_entry_36 : decode cX12_entry 36 = .ok (.istore 4, 2) := by decide +kernel
theorem dX12_entry_38 : decode cX12_entry 38 = .ok (.aload_n 0, 1) := by decide +kernel
theorem dX12_entry_39 : decode cX12_entry 39 = .ok (.iload_n 1, 1) := by decide +kernel
theorem dX12_entry_40 : decode cX12_entry 40 = .ok (.iload 4, 2) := by decide +kernel
theorem dX12_entry_42 : decode cX12_entry 42 = .ok (.iload_n 2, 1) := by decide +kernel
theorem dX12_entry_43 : decode cX12_entry 43 = .ok (.invokevirtual 143, 3) := by decide +kernel
theorem dX12_entry_46 : decode cX12_entry 46 = .ok (.istore 5, 2) := by decide +kernel
theorem dX12_entry_48 : decode cX12_entry 48 = .ok (.iload_n 3, 1) := by decide +kernel
theorem dX12_entry_49 : decode cX12_entry 49 = .ok (.ifCond .ge 25, 3) := by decide +kernel
theorem dX12_entry_52 : decode cX12_entry 52 = .ok (.iload 5, 2) := by decide +kernel
theorem dX12_entry_54 : decode cX12_entry 54 = .ok (.ifCond .ne 6, 3) := by decide +kernel
theorem dX12_entry_57 : decode cX12_entry 57 = .ok (.bipush (-3), 2) := by decide +kernel
theorem dX12_entry_59 : decode cX12_entry 59 = .ok (.ireturn, 1) := by decide +kernel
theorem dX12_entry_60 : decode cX12_entry 60 = .ok (.aload_n 0, 1) := by decide +kernel
theorem dX12_entry_61 : decode cX12_entry 61 = .ok (.iload_n 1, 1) := by decide +kernel
theorem dX12_entry_62 : decode cX12_entry 62 = .ok (.iload 4, 2) := by decide +kernel
theorem dX12_entry_64 : decode cX12_entry 64 = .ok (.invokevirtual 146, 3) := by decide +kernel
theorem dX12_entry_67 : decode cX12_entry 67 = .ok (.aload_n 0, 1) := by decide +kernel
theorem dX12_entry_68 : decode cX12_entry 68 = .ok (.getfield 27, 3) := by decide +kernel
theorem dX12_entry_71 : decode cX12_entry 71 = .ok (.iload_n 1, 1) := by decide +kernel
theorem dX12_entry_72 : decode cX12_entry 72 = .ok (.iaload, 1) := by decide +kernel
theorem dX12_entry_73 : decode cX12_entry 73 = .ok (.ireturn, 1) := by decide +kernel
theorem dX12_entry_74 : decode cX12_entry 74 = .ok (.iload 5, 2) := by decide +kernel
theorem dX12_entry_76 : decode cX12_entry 76 = .ok (.ifCond .ne 25, 3) := by decide +kernel
theorem dX12_entry_79 : decode cX12_entry 79 = .ok (.aload_n 0, 1) := by decide +kernel
theorem dX12_entry_80 : decode cX12_entry 80 = .ok (.getfield 27, 3) := by decide +kernel
theorem dX12_entry_83 : decode cX12_entry 83 = .ok (.iload_n 1, 1) := by decide +kernel
theorem dX12_entry_84 : decode cX12_entry 84 = .ok (.iaload, 1) := by decide +kernel
theorem dX12_entry_85 : decode cX12_entry 85 = .ok (.bipush 10, 2) := by decide +kernel
theorem dX12_entry_87 : decode cX12_entry 87 = .ok (.if_icmp .ne 6, 3) := by decide +kernel
theorem dX12_entry_90 : decode cX12_entry 90 = .ok (.bipush (-4), 2) := by decide +kernel
theorem dX12_entry_92 : decode cX12_entry 92 = .ok (.ireturn, 1) := by decide +kernel
theorem dX12_entry_93 : decode cX12_entry 93 = .ok (.aload_n 0, 1) := by decide +kernel
theorem dX12_entry_94 : decode cX12_entry 94 = .ok (.iload_n 1, 1) := by decide +kernel
theorem dX12_entry_95 : decode cX12_entry 95 = .ok (.iload 4, 2) := by decide +kernel
theorem dX12_entry_97 : decode cX12_entry 97 = .ok (.iload_n 2, 1) := by decide +kernel
theorem dX12_entry_98 : decode cX12_entry 98 = .ok (.invokevirtual 150, 3) := by decide +kernel
theorem dX12_entry_101 : decode cX12_entry 101 = .ok (.aload_n 0, 1) := by decide +kernel
theorem dX12_entry_102 : decode cX12_entry 102 = .ok (.getfield 33, 3) := by decide +kernel
theorem dX12_entry_105 : decode cX12_entry 105 = .ok (.bipush 10, 2) := by decide +kernel
theorem dX12_entry_107 : decode cX12_entry 107 = .ok (.iload_n 1, 1) := by decide +kernel
theorem dX12_entry_108 : decode cX12_entry 108 = .ok (.imul, 1) := by decide +kernel
theorem dX12_entry_109 : decode cX12_entry 109 = .ok (.iload 4, 2) := by decide +kernel
theorem dX12_entry_111 : decode cX12_entry 111 = .ok (.iadd, 1) := by decide +kernel
theorem dX12_entry_112 : decode cX12_entry 112 = .ok (.iload_n 3, 1) := by decide +kernel
theorem dX12_entry_113 : decode cX12_entry 113 = .ok (.iastore, 1) := by decide +kernel
theorem dX12_entry_114 : decode cX12_entry 114 = .ok (.aload_n 0, 1) := by decide +kernel
theorem dX12_entry_115 : decode cX12_entry 115 = .ok (.getfield 27, 3) := by decide +kernel
theorem dX12_entry_118 : decode cX12_entry 118 = .ok (.iload_n 1, 1) := by decide +kernel
theorem dX12_entry_119 : decode cX12_entry 119 = .ok (.iaload, 1) := by decide +kernel
theorem dX12_entry_120 : decode cX12_entry 120 = .ok (.ireturn, 1) := by decide +kernel
def b_X12_entry_101 (S : SH) (a0 : Nat) (a1 : Int32) (a3 : Int32) (a4 : Int32) (μ : Mem) : Option (Int32 × Mem) :=
 (gR S 12 a0 8).bind fun v6 =>
 (sI S v6 ((10 * a1) + a4) a3 μ).bind fun ν7 =>
 (gR S 12 a0 6).bind fun v8 =>
 (aI S .int v8 a1 ν7).bind fun v9 =>
 some (v9, ν7)
set_option maxRecDepth 100000 in
set_option maxHeartbeats 4000000 in
theorem s_X12_entry_101 {γ : GE} {p : Program} {l : Launch} {e : Env} {s : State} {m : MethodId} {args : Array Value} {below : List Frame} {meth : Method} {c : Code} {S : SH} {X : (Int32 × Mem)} (F : FX γ p s m args meth c cX12_entry RX12 6) (hr : meth.sig.returnType = (some .int)) (a0 : Nat) (a1 : Int32) (a3 : Int32) (a4 : Int32)    (μ : Mem) (h : b_X12_entry_101 S a0 a1 a3 a4 μ = some X) : JJ γ p l e rm_X12_entry s m args below meth c 6 0 0 (QI below γ S X args s 0 0) S μ 101 [(0, .ref (gb γ + a0)), (1, .int a1), (3, .int a3), (4, .int a4)] [] := by
  unfold b_X12_entry_101 at h
  refine j_aload_n F 0 dX12_entry_101 rfl ?_
  refine j_gR F fl_RX12_33 rfl dX12_entry_102 h (fun v6 h => ?_)
  refine j_bipush F 10 dX12_entry_105 (by decide) ?_
  refine j_iload_n F 1 dX12_entry_107 rfl ?_
  refine j_imul F dX12_entry_108 ?_
  refine j_iload F 3 dX12_entry_109 rfl ?_
  refine j_iadd F dX12_entry_111 ?_
  refine j_iload_n F 2 dX12_entry_112 rfl ?_
  refine j_iast F dX12_entry_113 h (fun ν7 h => ?_)
  refine j_aload_n F 0 dX12_entry_114 rfl ?_
  refine j_gR F fl_RX12_27 rfl dX12_entry_115 h (fun v8 h => ?_)
  refine j_iload_n F 1 dX12_entry_118 rfl ?_
  refine j_iald F dX12_entry_119 h (fun v9 h => ?_)
  exact j_iret F hr dX12_entry_120 h
def f_X12_entry (S : SH) (a0 : Nat) (a1 : Int32) (a2 : Int32) (a3 : Int32) (μ : Mem) : Option (Int32 × Mem) :=
  if isO S 12 a0 = true then
  (f_X12_isChart S a1 μ).bind fun q1 =>
  (if q1.1 = 0 then
  some ((-1), q1.2)
  else
  (f_X12_isReach S a2 q1.2).bind fun q2 =>
  (if q2.1 = 0 then
  some ((-2), q2.2)
  else
  (f_X12_in S a3 (-1) 9999 q2.2).bind fun q3 =>
  (if q3.1 = 0 then
  some ((-2), q3.2)
  else
  (f_X12_placeOf S a0 a1 a2 q3.2).bind fun q4 =>
  (f_X12_isThere S a0 a1 q4.1 a2 q4.2).bind fun q5 =>
  (if 0 ≤ a3 then
  (if q5.1 = 0 then
  (gR S 12 a0 6).bind fun v10 =>
  (aI S .int v10 a1 q5.2).bind fun v11 =>
  (if v11 = 10 then
  some ((-4), q5.2)
  else
  (f_X12_comes S a0 a1 q4.1 a2 q5.2).bind fun q12 =>
  b_X12_entry_101 S a0 a1 a3 q4.1 q12.2)
  else
  b_X12_entry_101 S a0 a1 a3 q4.1 q5.2)
  else
  (if q5.1 = 0 then
  some ((-3), q5.2)
  else
  (f_X12_goes S a0 a1 q4.1 q5.2).bind fun q13 =>
  (gR S 12 a0 6).bind fun v14 =>
  (aI S .int v14 a1 q13.2).bind fun v15 =>
  some (v15, q13.2))))))
  else none
set_option maxRecDepth 100000 in
set_option maxHeartbeats 4000000 in
theorem c_X12_entry {l : Launch} {γ : GE} {S : SH} {a0 : Nat} {a1 : Int32} {a2 : Int32} {a3 : Int32} {μ : Mem} {X : (Int32 × Mem)} (h : f_X12_entry S a0 a1 a2 a3 μ = some X) : isO S 12 a0 = true ∧ Ct l γ yX12_entry cX12_entry 6 (some .int) rm_X12_entry [.ref (gb γ + a0), .int a1, .int a2, .int a3] S μ S X.2 (some (.int X.1)) := by
  unfold f_X12_entry at h
  obtain ⟨h0, h⟩ := if_some h
  refine ⟨h0, ?_⟩
  have hJ : ∀ (p : Program) (e : Env) (s : State) (m : MethodId) (args : Array Value) (below : List Frame) (meth : Method) (c : Code), FX γ p s m args meth c cX12_entry RX12 6 → meth.sig.returnType = (some .int) → JJ γ p l e rm_X12_entry s m args below meth c 6 0 0 (QI below γ S X args s 0 0) S μ 0 [(0, .ref (gb γ + a0)), (1, .int a1), (2, .int a2), (3, .int a3)] [] := by
    intro p e s m args below meth c F hr
    refine j_iload_n F 1 dX12_entry_0 rfl ?_
    refine j_cSI F mi_X12_isChart w_1157 (rest := []) h (fun _ g => c_X12_isChart g) rfl rfl (Nat.le_of_ble_eq_true rfl) ⟨Nat.le_of_ble_eq_true rfl, Nat.le_of_ble_eq_true rfl⟩ ⟨Nat.le_of_ble_eq_true rfl, Nat.le_of_ble_eq_true rfl⟩ dX12_entry_1 (fun q1 h => ?_)
    refine j_ifne F 9 dX12_entry_4 (by decide) h (fun _ h => ?_) (fun _ h => ?_)
    · refine j_iload_n F 2 dX12_entry_9 rfl ?_
      refine j_cSI F mi_X12_isReach w_1160 (rest := []) h (fun _ g => c_X12_isReach g) rfl rfl (Nat.le_of_ble_eq_true rfl) ⟨Nat.le_of_ble_eq_true rfl, Nat.le_of_ble_eq_true rfl⟩ ⟨Nat.le_of_ble_eq_true rfl, Nat.le_of_ble_eq_true rfl⟩ dX12_entry_10 (fun q2 h => ?_)
      refine j_ifeq F 27 dX12_entry_13 (by decide) h (fun _ h => ?_) (fun _ h => ?_)
      · refine j_bipush F (-2) dX12_entry_27 (by decide) ?_
        exact j_iret F hr dX12_entry_29 h
      · refine j_iload_n F 3 dX12_entry_16 rfl ?_
        refine j_iconst F (-1) dX12_entry_17 (by decide) ?_
        refine j_sipush F 9999 dX12_entry_18 (by decide) ?_
        refine j_cSI F mi_X12_in w_1104 (rest := []) h (fun _ g => c_X12_in g) rfl rfl (Nat.le_of_ble_eq_true rfl) ⟨Nat.le_of_ble_eq_true rfl, Nat.le_of_ble_eq_true rfl⟩ ⟨Nat.le_of_ble_eq_true rfl, Nat.le_of_ble_eq_true rfl⟩ dX12_entry_21 (fun q3 h => ?_)
        refine j_ifne F 30 dX12_entry_24 (by decide) h (fun _ h => ?_) (fun _ h => ?_)
        · refine j_aload_n F 0 dX12_entry_30 rfl ?_
          refine j_iload_n F 1 dX12_entry_31 rfl ?_
          refine j_iload_n F 2 dX12_entry_32 rfl ?_
          refine j_cVI F mi_X12_placeOf w_1163 (rest := []) h (fun _ g => c_X12_placeOf g) rfl rfl (Nat.le_of_ble_eq_true rfl) ⟨Nat.le_of_ble_eq_true rfl, Nat.le_of_ble_eq_true rfl⟩ ⟨Nat.le_of_ble_eq_true rfl, Nat.le_of_ble_eq_true rfl⟩ dX12_entry_33 (fun q4 h => ?_)
          refine j_istore F [(4, .int q4.1), (0, .ref (gb γ + a0)), (1, .int a1), (2, .int a2), (3, .int a3)] dX12_entry_36 (by decide) rfl ?_
          refine j_aload_n F 1 dX12_entry_38 rfl ?_
          refine j_iload_n F 2 dX12_entry_39 rfl ?_
          refine j_iload F 0 dX12_entry_40 rfl ?_
          refine j_iload_n F 3 dX12_entry_42 rfl ?_
          refine j_cVI F mi_X12_isThere w_1167 (rest := []) h (fun _ g => c_X12_isThere g) rfl rfl (Nat.le_of_ble_eq_true rfl) ⟨Nat.le_of_ble_eq_true rfl, Nat.le_of_ble_eq_true rfl⟩ ⟨Nat.le_of_ble_eq_true rfl, Nat.le_of_ble_eq_true rfl⟩ dX12_entry_43 (fun q5 h => ?_)
          refine j_istore F [(5, .int q5.1), (4, .int q4.1), (0, .ref (gb γ + a0)), (1, .int a1), (2, .int a2), (3, .int a3)] dX12_entry_46 (by decide) rfl ?_
          refine j_iload_n F 5 dX12_entry_48 rfl ?_
          refine j_ifge F 74 dX12_entry_49 (by decide) h (fun _ h => ?_) (fun _ h => ?_)
          · refine j_iload F 0 dX12_entry_74 rfl ?_
            refine j_ifne F 101 dX12_entry_76 (by decide) h (fun _ h => ?_) (fun _ h => ?_)
            · refine j_lv [(0, .ref (gb γ + a0)), (1, .int a1), (3, .int a3), (4, .int q4.1)] [2, 3, 5, 1] rfl ?_
              exact s_X12_entry_101 F hr _ _ _ _ _ h
            · refine j_aload_n F 2 dX12_entry_79 rfl ?_
              refine j_gR F fl_RX12_27 rfl dX12_entry_80 h (fun v10 h => ?_)
              refine j_iload_n F 3 dX12_entry_83 rfl ?_
              refine j_iald F dX12_entry_84 h (fun v11 h => ?_)
              refine j_bipush F 10 dX12_entry_85 (by decide) ?_
              refine j_icmpne F 93 dX12_entry_87 (by decide) h (fun _ h => ?_) (fun _ h => ?_)
              · refine j_aload_n F 2 dX12_entry_93 rfl ?_
                refine j_iload_n F 3 dX12_entry_94 rfl ?_
                refine j_iload F 1 dX12_entry_95 rfl ?_
                refine j_iload_n F 4 dX12_entry_97 rfl ?_
                refine j_cVV F mi_X12_comes w_1175 (rest := []) h (fun _ g => c_X12_comes g) rfl rfl (Nat.le_of_ble_eq_true rfl) ⟨Nat.le_of_ble_eq_true rfl, Nat.le_of_ble_eq_true rfl⟩ ⟨Nat.le_of_ble_eq_true rfl, Nat.le_of_ble_eq_true rfl⟩ dX12_entry_98 (fun q12 h => ?_)
                refine j_lv [(0, .ref (gb γ + a0)), (1, .int a1), (3, .int a3), (4, .int q4.1)] [2, 3, 5, 1] rfl ?_
                exact s_X12_entry_101 F hr _ _ _ _ _ h
              · refine j_bipush F (-4) dX12_entry_90 (by decide) ?_
                exact j_iret F hr dX12_entry_92 h
          · refine j_iload F 0 dX12_entry_52 rfl ?_
            refine j_ifne F 60 dX12_entry_54 (by decide) h (fun _ h => ?_) (fun _ h => ?_)
            · refine j_aload_n F 2 dX12_entry_60 rfl ?_
              refine j_iload_n F 3 dX12_entry_61 rfl ?_
              refine j_iload F 1 dX12_entry_62 rfl ?_
              refine j_cVV F mi_X12_goes w_1171 (rest := []) h (fun _ g => c_X12_goes g) rfl rfl (Nat.le_of_ble_eq_true rfl) ⟨Nat.le_of_ble_eq_true rfl, Nat.le_of_ble_eq_true rfl⟩ ⟨Nat.le_of_ble_eq_true rfl, Nat.le_of_ble_eq_true rfl⟩ dX12_entry_64 (fun q13 h => ?_)
              refine j_aload_n F 2 dX12_entry_67 rfl ?_
              refine j_gR F fl_RX12_27 rfl dX12_entry_68 h (fun v14 h => ?_)
              refine j_iload_n F 3 dX12_entry_71 rfl ?_
              refine j_iald F dX12_entry_72 h (fun v15 h => ?_)
              exact j_iret F hr dX12_entry_73 h
            · refine j_bipush F (-3) dX12_entry_57 (by decide) ?_
              exact j_iret F hr dX12_entry_59 h
        · refine j_bipush F (-2) dX12_entry_27 (by decide) ?_
          exact j_iret F hr dX12_entry_29 h
    · refine j_iconst F (-1) dX12_entry_7 (by decide) ?_
      exact j_iret F hr dX12_entry_8 h
  exact ct_of (by decide +kernel) (Nat.le_of_ble_eq_true rfl) (fun p e s m args below meth c F hr _ => hJ p e s m args below meth c F hr)
def rm_X12_readOf : Room := { frames := 1, cells := 0, slots := 0, locals := 23 }
theorem dX12_readOf_0 : decode cX12_readOf 0 = .ok (.aload_n 0, 1) := by decide +kernel
theorem dX12_readOf_1 : decode cX12_readOf 1 = .ok (.iload_n 1, 1) := by decide +kernel
theorem dX12_readOf_2 : decode cX12_readOf 2 = .ok (.iload_n 2, 1) := by decide +kernel
theorem dX12_readOf_3 : decode cX12_readOf 3 = .ok (.invokevirtual 139, 3) := by decide +kernel
theorem dX12_readOf_6 : decode cX12_readOf 6 = .ok (.istore_n 3, 1) := by decide +kernel
theorem dX12_readOf_7 : decode cX12_readOf 7 = .ok (.iload_n 3, 1) := by decide +kernel
theorem dX12_readOf_8 : decode cX12_readOf 8 = .ok (.aload_n 0, 1) := by decide +kernel
theorem dX12_readOf_9 : decode cX12_readOf 9 = .ok (.getfield 27, 3) := by decide +kernel
theorem dX12_readOf_12 : decode cX12_readOf 12 = .ok (.iload_n 1, 1) := by decide +kernel
theorem dX12_readOf_13 : decode cX12_readOf 13 = .ok (.iaload, 1) := by decide +kernel
theorem dX12_readOf_14 : decode cX12_readOf 14 = .ok (.if_icmp .ne 5, 3) := by decide +kernel
theorem dX12_readOf_17 : decode cX12_readOf 17 = .ok (.iconst 0, 1) := by decide +kernel
theorem dX12_readOf_18 : decode cX12_readOf 18 = .ok (.ireturn, 1) := by decide +kernel
theorem dX12_readOf_19 : decode cX12_readOf 19 = .ok (.bipush 10, 2) := by decide +kernel
theorem dX12_readOf_21 : decode cX12_readOf 21 = .ok (.iload_n 1, 1) := by decide +kernel
theorem dX12_readOf_22 : decode cX12_readOf 22 = .ok (.imul, 1) := by decide +kernel
theorem dX12_readOf_23 : decode cX12_readOf 23 = .ok (.iload_n 3, 1) := by decide +kernel
theorem dX12_readOf_24 : decode cX12_readOf 24 = .ok (.iadd, 1) := by decide +kernel
theorem dX12_readOf_25 : decode cX12_readOf 25 = .ok (.istore 4, 2) := by decide +kernel
theorem dX12_readOf_27 : decode cX12_readOf 27 = .ok (.aload_n 0, 1) := by decide +kernel
theorem dX12_readOf_28 : decode cX12_readOf 28 = .ok (.getfield 30, 3) := by decide +kernel
theorem dX12_readOf_31 : decode cX12_readOf 31 = .ok (.iload 4, 2) := by decide +kernel
theorem dX12_readOf_33 : decode cX12_readOf 33 = .ok (.iaload, 1) := by decide +kernel
theorem dX12_readOf_34 : decode cX12_readOf 34 = .ok (.iload_n 2, 1) := by decide +kernel
theorem dX12_readOf_35 : decode cX12_readOf 35 = .ok (.if_icmp .eq 7, 3) := by decide +kernel
theorem dX12_readOf_38 : decode cX12_readOf 38 = .ok (.iload_n 3, 1) := by decide +kernel
theorem dX12_readOf_39 : decode cX12_readOf 39 = .ok (.ifCond .ne 11, 3) := by decide +kernel
theorem dX12_readOf_42 : decode cX12_readOf 42 = .ok (.aload_n 0, 1) := by decide +kernel
theorem dX12_readOf_43 : decode cX12_readOf 43 = .ok (.getfield 33, 3) := by decide +kernel
theorem dX12_readOf_46 : decode cX12_readOf 46 = .ok (.iload 4, 2) := by decide +kernel
theorem dX12_readOf_48 : decode cX12_readOf 48 = .ok (.iaload, 1) := by decide +kernel
theorem dX12_readOf_49 : decode cX12_readOf 49 = .ok (.ireturn, 1) := by decide +kernel
theorem dX12_readOf_50 : decode cX12_readOf 50 = .ok (.aload_n 0, 1) := by decide +kernel
theorem dX12_readOf_51 : decode cX12_readOf 51 = .ok (.getfield 33, 3) := by decide +kernel
theorem dX12_readOf_54 : decode cX12_readOf 54 = .ok (.iload 4, 2) := by decide +kernel
theorem dX12_readOf_56 : decode cX12_readOf 56 = .ok (.iconst 1, 1) := by decide +kernel
theorem dX12_readOf_57 : decode cX12_readOf 57 = .ok (.isub, 1) := by decide +kernel
theorem dX12_readOf_58 : decode cX12_readOf 58 = .ok (.iaload, 1) := by decide +kernel
theorem dX12_readOf_59 : decode cX12_readOf 59 = .ok (.aload_n 0, 1) := by decide +kernel
theorem dX12_readOf_60 : decode cX12_readOf 60 = .ok (.getfield 30, 3) := by decide +kernel
theorem dX12_readOf_63 : decode cX12_readOf 63 = .ok (.iload 4, 2) := by decide +kernel
theorem dX12_readOf_65 : decode cX12_readOf 65 = .ok (.iaload, 1) := by decide +kernel
theorem dX12_readOf_66 : decode cX12_readOf 66 = .ok (.iload_n 2, 1) := by decide +kernel
theorem dX12_readOf_67 : decode cX12_readOf 67 = .ok (.isub, 1) := by decide +kernel
theorem dX12_readOf_68 : decode cX12_readOf 68 = .ok (.imul, 1) := by decide +kernel
theorem dX12_readOf_69 : decode cX12_readOf 69 = .ok (.aload_n 0, 1) := by decide +kernel
theorem dX12_readOf_70 : decode cX12_readOf 70 = .ok (.getfield 33, 3) := by decide +kernel
theorem dX12_readOf_73 : decode cX12_readOf 73 = .ok (.iload 4, 2) := by decide +kernel
theorem dX12_readOf_75 : decode cX12_readOf 75 = .ok (.iaload, 1) := by decide +kernel
theorem dX12_readOf_76 : decode cX12_readOf 76 = .ok (.iload_n 2, 1) := by decide +kernel
theorem dX12_readOf_77 : decode cX12_readOf 77 = .ok (.aload_n 0, 1) := by decide +kernel
theorem dX12_readOf_78 : decode cX12_readOf 78 = .ok (.getfield 30, 3) := by decide +kernel
theorem dX12_readOf_81 : decode cX12_readOf 81 = .ok (.iload 4, 2) := by decide +kernel
theorem dX12_readOf_83 : decode cX12_readOf 83 = .ok (.iconst 1, 1) := by decide +kernel
theorem dX12_readOf_84 : decode cX12_readOf 84 = .ok (.isub, 1) := by decide +kernel
theorem dX12_readOf_85 : decode cX12_readOf 85 = .ok (.iaload, 1) := by decide +kernel
theorem dX12_readOf_86 : decode cX12_readOf 86 = .ok (.isub, 1) := by decide +kernel
theorem dX12_readOf_87 : decode cX12_readOf 87 = .ok (.imul, 1) := by decide +kernel
theorem dX12_readOf_88 : decode cX12_readOf 88 = .ok (.iadd, 1) := by decide +kernel
theorem dX12_readOf_89 : decode cX12_readOf 89 = .ok (.aload_n 0, 1) := by decide +kernel
theorem dX12_readOf_90 : decode cX12_readOf 90 = .ok (.getfield 30, 3) := by decide +kernel
theorem dX12_readOf_93 : decode cX12_readOf 93 = .ok (.iload 4, 2) := by decide +kernel
theorem dX12_readOf_95 : decode cX12_readOf 95 = .ok (.iaload, 1) := by decide +kernel
theorem dX12_readOf_96 : decode cX12_readOf 96 = .ok (.aload_n 0, 1) := by decide +kernel
theorem dX12_readOf_97 : decode cX12_readOf 97 = .ok (.getfield 30, 3) := by decide +kernel
theorem dX12_readOf_100 : decode cX12_readOf 100 = .ok (.iload 4, 2) := by decide +kernel
theorem dX12_readOf_102 : decode cX12_readOf 102 = .ok (.iconst 1, 1) := by decide +kernel
theorem dX12_readOf_103 : decode cX12_readOf 103 = .ok (.isub, 1) := by decide +kernel
theorem dX12_readOf_104 : decode cX12_readOf 104 = .ok (.iaload, 1) := by decide +kernel
theorem dX12_readOf_105 : decode cX12_readOf 105 = .ok (.isub, 1) := by decide +kernel
theorem dX12_readOf_106 : decode cX12_readOf 106 = .ok (.idiv, 1) := by decide +kernel
theorem dX12_readOf_107 : decode cX12_readOf 107 = .ok (.ireturn, 1) := by decide +kernel
def f_X12_readOf (S : SH) (a0 : Nat) (a1 : Int32) (a2 : Int32) (μ : Mem) : Option (Int32 × Mem) :=
  if isO S 12 a0 = true then
  (f_X12_placeOf S a0 a1 a2 μ).bind fun q1 =>
  (gR S 12 a0 6).bind fun v2 =>
  (aI S .int v2 a1 q1.2).bind fun v3 =>
  (if q1.1 = v3 then
  some (0, q1.2)
  else
  (some ((10 * a1) + q1.1)).bind fun y4 =>
  (gR S 12 a0 7).bind fun v5 =>
  (aI S .int v5 y4 q1.2).bind fun v6 =>
  (if v6 = a2 then
  (gR S 12 a0 8).bind fun v7 =>
  (aI S .int v7 y4 q1.2).bind fun v8 =>
  some (v8, q1.2)
  else
  (if q1.1 = 0 then
  (gR S 12 a0 8).bind fun v22 =>
  (aI S .int v22 y4 q1.2).bind fun v23 =>
  some (v23, q1.2)
  else
  (gR S 12 a0 8).bind fun v9 =>
  (aI S .int v9 (y4 - 1) q1.2).bind fun v10 =>
  (gR S 12 a0 7).bind fun v11 =>
  (aI S .int v11 y4 q1.2).bind fun v12 =>
  (gR S 12 a0 8).bind fun v13 =>
  (aI S .int v13 y4 q1.2).bind fun v14 =>
  (gR S 12 a0 7).bind fun v15 =>
  (aI S .int v15 (y4 - 1) q1.2).bind fun v16 =>
  (gR S 12 a0 7).bind fun v17 =>
  (aI S .int v17 y4 q1.2).bind fun v18 =>
  (gR S 12 a0 7).bind fun v19 =>
  (aI S .int v19 (y4 - 1) q1.2).bind fun v20 =>
  (o_idiv ((v10 * (v12 - a2)) + (v14 * (a2 - v16))) (v18 - v20)).bind fun v21 =>
  some (v21, q1.2))))
  else none
set_option maxRecDepth 100000 in
set_option maxHeartbeats 4000000 in
theorem c_X12_readOf {l : Launch} {γ : GE} {S : SH} {a0 : Nat} {a1 : Int32} {a2 : Int32} {μ : Mem} {X : (Int32 × Mem)} (h : f_X12_readOf S a0 a1 a2 μ = some X) : isO S 12 a0 = true ∧ Ct l γ yX12_readOf cX12_readOf 5 (some .int) rm_X12_readOf [.ref (gb γ + a0), .int a1, .int a2] S μ S X.2 (some (.int X.1)) := by
  unfold f_X12_readOf at h
  obtain ⟨h0, h⟩ := if_some h
  refine ⟨h0, ?_⟩
  have hJ : ∀ (p : Program) (e : Env) (s : State) (m : MethodId) (args : Array Value) (below : List Frame) (meth : Method) (c : Code), FX γ p s m args meth c cX12_readOf RX12 5 → meth.sig.returnType = (some .int) → JJ γ p l e rm_X12_readOf s m args below meth c 5 0 0 (QI below γ S X args s 0 0) S μ 0 [(0, .ref (gb γ + a0)), (1, .int a1), (2, .int a2)] [] := by
    intro p e s m args below meth c F hr
    refine j_aload_n F 0 dX12_readOf_0 rfl ?_
    refine j_iload_n F 1 dX12_readOf_1 rfl ?_
    refine j_iload_n F 2 dX12_readOf_2 rfl ?_
    refine j_cVI F mi_X12_placeOf w_1163 (rest := []) h (fun _ g => c_X12_placeOf g) rfl rfl (Nat.le_of_ble_eq_true rfl) ⟨Nat.le_of_ble_eq_true rfl, Nat.le_of_ble_eq_true rfl⟩ ⟨Nat.le_of_ble_eq_true rfl, Nat.le_of_ble_eq_true rfl⟩ dX12_readOf_3 (fun q1 h => ?_)
    refine j_istore_n F [(3, .int q1.1), (0, .ref (gb γ + a0)), (1, .int a1), (2, .int a2)] dX12_readOf_6 rfl (by decide) rfl ?_
    refine j_iload_n F 0 dX12_readOf_7 rfl ?_
    refine j_aload_n F 1 dX12_readOf_8 rfl ?_
    refine j_gR F fl_RX12_27 rfl dX12_readOf_9 h (fun v2 h => ?_)
    refine j_iload_n F 2 dX12_readOf_12 rfl ?_
    refine j_iald F dX12_readOf_13 h (fun v3 h => ?_)
    refine j_icmpne F 19 dX12_readOf_14 (by decide) h (fun _ h => ?_) (fun _ h => ?_)
    · refine j_bipush F 10 dX12_readOf_19 (by decide) ?_
      refine j_iload_n F 2 dX12_readOf_21 rfl ?_
      refine j_imul F dX12_readOf_22 ?_
      refine j_iload_n F 0 dX12_readOf_23 rfl ?_
      refine j_iadd F dX12_readOf_24 ?_
      refine j_nmI h (fun y4 h => ?_)
      refine j_istore F [(4, .int y4), (3, .int q1.1), (0, .ref (gb γ + a0)), (1, .int a1), (2, .int a2)] dX12_readOf_25 (by decide) rfl ?_
      refine j_aload_n F 2 dX12_readOf_27 rfl ?_
      refine j_gR F fl_RX12_30 rfl dX12_readOf_28 h (fun v5 h => ?_)
      refine j_iload F 0 dX12_readOf_31 rfl ?_
      refine j_iald F dX12_readOf_33 h (fun v6 h => ?_)
      refine j_iload_n F 4 dX12_readOf_34 rfl ?_
      refine j_icmpeq F 42 dX12_readOf_35 (by decide) h (fun _ h => ?_) (fun _ h => ?_)
      · refine j_aload_n F 2 dX12_readOf_42 rfl ?_
        refine j_gR F fl_RX12_33 rfl dX12_readOf_43 h (fun v7 h => ?_)
        refine j_iload F 0 dX12_readOf_46 rfl ?_
        refine j_iald F dX12_readOf_48 h (fun v8 h => ?_)
        exact j_iret F hr dX12_readOf_49 h
      · refine j_iload_n F 1 dX12_readOf_38 rfl ?_
        refine j_ifne F 50 dX12_readOf_39 (by decide) h (fun _ h => ?_) (fun _ h => ?_)
        · refine j_aload_n F 2 dX12_readOf_50 rfl ?_
          refine j_gR F fl_RX12_33 rfl dX12_readOf_51 h (fun v9 h => ?_)
          refine j_iload F 0 dX12_readOf_54 rfl ?_
          refine j_iconst F 1 dX12_readOf_56 (by decide) ?_
          refine j_isub F dX12_readOf_57 ?_
          refine j_iald F dX12_readOf_58 h (fun v10 h => ?_)
          refine j_aload_n F 2 dX12_readOf_59 rfl ?_
          refine j_gR F fl_RX12_30 rfl dX12_readOf_60 h (fun v11 h => ?_)
          refine j_iload F 0 dX12_readOf_63 rfl ?_
          refine j_iald F dX12_readOf_65 h (fun v12 h => ?_)
          refine j_iload_n F 4 dX12_readOf_66 rfl ?_
          refine j_isub F dX12_readOf_67 ?_
          refine j_imul F dX12_readOf_68 ?_
          refine j_aload_n F 2 dX12_readOf_69 rfl ?_
          refine j_gR F fl_RX12_33 rfl dX12_readOf_70 h (fun v13 h => ?_)
          refine j_iload F 0 dX12_readOf_73 rfl ?_
          refine j_iald F dX12_readOf_75 h (fun v14 h => ?_)
          refine j_iload_n F 4 dX12_readOf_76 rfl ?_
          refine j_aload_n F 2 dX12_readOf_77 rfl ?_
          refine j_gR F fl_RX12_30 rfl dX12_readOf_78 h (fun v15 h => ?_)
          refine j_iload F 0 dX12_readOf_81 rfl ?_
          refine j_iconst F 1 dX12_readOf_83 (by decide) ?_
          refine j_isub F dX12_readOf_84 ?_
          refine j_iald F dX12_readOf_85 h (fun v16 h => ?_)
          refine j_isub F dX12_readOf_86 ?_
          refine j_imul F dX12_readOf_87 ?_
          refine j_iadd F dX12_readOf_88 ?_
          refine j_aload_n F 2 dX12_readOf_89 rfl ?_
          refine j_gR F fl_RX12_30 rfl dX12_readOf_90 h (fun v17 h => ?_)
          refine j_iload F 0 dX12_readOf_93 rfl ?_
          refine j_iald F dX12_readOf_95 h (fun v18 h => ?_)
          refine j_aload_n F 2 dX12_readOf_96 rfl ?_
          refine j_gR F fl_RX12_30 rfl dX12_readOf_97 h (fun v19 h => ?_)
          refine j_iload F 0 dX12_readOf_100 rfl ?_
          refine j_iconst F 1 dX12_readOf_102 (by decide) ?_
          refine j_isub F dX12_readOf_103 ?_
          refine j_iald F dX12_readOf_104 h (fun v20 h => ?_)
          refine j_isub F dX12_readOf_105 ?_
          refine j_idiv F dX12_readOf_106 h (fun v21 h => ?_)
          exact j_iret F hr dX12_readOf_107 h
        · refine j_aload_n F 2 dX12_readOf_42 rfl ?_
          refine j_gR F fl_RX12_33 rfl dX12_readOf_43 h (fun v22 h => ?_)
          refine j_iload F 0 dX12_readOf_46 rfl ?_
          refine j_iald F dX12_readOf_48 h (fun v23 h => ?_)
          exact j_iret F hr dX12_readOf_49 h
    · refine j_iconst F 0 dX12_readOf_17 (by decide) ?_
      exact j_iret F hr dX12_readOf_18 h
  exact ct_of (by decide +kernel) (Nat.le_of_ble_eq_true rfl) (fun p e s m args below meth c F hr _ => hJ p e s m args below meth c F hr)
def rm_X12_read : Room := { frames := 2, cells := 0, slots := 0, locals := 47 }
theorem dX12_read_0 : decode cX12_read 0 = .ok (.iload_n 1, 1) := by decide +kernel
theorem dX12_read_1 : decode cX12_read 1 = .ok (.invokestatic 133, 3) := by decide +kernel
theorem dX12_read_4 : decode cX12_read 4 = .ok (.ifCond .ne 5, 3) := by decide +kernel
theorem dX12_read_7 : decode cX12_read 7 = .ok (.iconst (-1), 1) := by decide +kernel
theorem dX12_read_8 : decode cX12_read 8 = .ok (.ireturn, 1) := by decide +kernel
theorem dX12_read_9 : decode cX12_read 9 = .ok (.iload_n 2, 1) := by decide +kernel
theorem dX12_read_10 : decode cX12_read 10 = .ok (.invokestatic 136, 3) := by decide +kernel
theorem dX12_read_13 : decode cX12_read 13 = .ok (.ifCond .eq 12, 3) := by decide +kernel
theorem dX12_read_16 : decode cX12_read 16 = .ok (.aload_n 0, 1) := by decide +kernel
theorem dX12_read_17 : decode cX12_read 17 = .ok (.iload_n 1, 1) := by decide +kernel
theorem dX12_read_18 : decode cX12_read 18 = .ok (.iload_n 2, 1) := by decide +kernel
theorem dX12_read_19 : decode cX12_read 19 = .ok (.invokevirtual 154, 3) := by decide +kernel
theorem dX12_read_22 : decode cX12_read 22 = .ok (.goto 5, 3) := by decide +kernel
theorem dX12_read_25 : decode cX12_read 25 = .ok (.bipush (-2), 2) := by decide +kernel
theorem dX12_read_27 : decode cX12_read 27 = .ok (.ireturn, 1) := by decide +kernel
def f_X12_read (S : SH) (a0 : Nat) (a1 : Int32) (a2 : Int32) (μ : Mem) : Option (Int32 × Mem) :=
  if isO S 12 a0 = true then
  (f_X12_isChart S a1 μ).bind fun q1 =>
  (if q1.1 = 0 then
  some ((-1), q1.2)
  else
  (f_X12_isReach S a2 q1.2).bind fun q2 =>
  (if q2.1 = 0 then
  some ((-2), q2.2)
  else
  (f_X12_readOf S a0 a1 a2 q2.2).bind fun q3 =>
  some (q3.1, q3.2)))
  else none
set_option maxRecDepth 100000 in
set_option maxHeartbeats 4000000 in
theorem c_X12_read {l : Launch} {γ : GE} {S : SH} {a0 : Nat} {a1 : Int32} {a2 : Int32} {μ : Mem} {X : (Int32 × Mem)} (h : f_X12_read S a0 a1 a2 μ = some X) : isO S 12 a0 = true ∧ Ct l γ yX12_read cX12_read 3 (some .int) rm_X12_read [.ref (gb γ + a0), .int a1, .int a2] S μ S X.2 (some (.int X.1)) := by
  unfold f_X12_read at h
  obtain ⟨h0, h⟩ := if_some h
  refine ⟨h0, ?_⟩
  have hJ : ∀ (p : Program) (e : Env) (s : State) (m : MethodId) (args : Array Value) (below : List Frame) (meth : Method) (c : Code), FX γ p s m args meth c cX12_read RX12 3 → meth.sig.returnType = (some .int) → JJ γ p l e rm_X12_read s m args below meth c 3 0 0 (QI below γ S X args s 0 0) S μ 0 [(0, .ref (gb γ + a0)), (1, .int a1), (2, .int a2)] [] := by
    intro p e s m args below meth c F hr
    refine j_iload_n F 1 dX12_read_0 rfl ?_
    refine j_cSI F mi_X12_isChart w_1157 (rest := []) h (fun _ g => c_X12_isChart g) rfl rfl (Nat.le_of_ble_eq_true rfl) ⟨Nat.le_of_ble_eq_true rfl, Nat.le_of_ble_eq_true rfl⟩ ⟨Nat.le_of_ble_eq_true rfl, Nat.le_of_ble_eq_true rfl⟩ dX12_read_1 (fun q1 h => ?_)
    refine j_ifne F 9 dX12_read_4 (by decide) h (fun _ h => ?_) (fun _ h => ?_)
    · refine j_iload_n F 2 dX12_read_9 rfl ?_
      refine j_cSI F mi_X12_isReach w_1160 (rest := []) h (fun _ g => c_X12_isReach g) rfl rfl (Nat.le_of_ble_eq_true rfl) ⟨Nat.le_of_ble_eq_true rfl, Nat.le_of_ble_eq_true rfl⟩ ⟨Nat.le_of_ble_eq_true rfl, Nat.le_of_ble_eq_true rfl⟩ dX12_read_10 (fun q2 h => ?_)
      refine j_ifeq F 25 dX12_read_13 (by decide) h (fun _ h => ?_) (fun _ h => ?_)
      · refine j_bipush F (-2) dX12_read_25 (by decide) ?_
        exact j_iret F hr dX12_read_27 h
      · refine j_aload_n F 0 dX12_read_16 rfl ?_
        refine j_iload_n F 1 dX12_read_17 rfl ?_
        refine j_iload_n F 2 dX12_read_18 rfl ?_
        refine j_cVI F mi_X12_readOf w_1183 (rest := []) h (fun _ g => c_X12_readOf g) rfl rfl (Nat.le_of_ble_eq_true rfl) ⟨Nat.le_of_ble_eq_true rfl, Nat.le_of_ble_eq_true rfl⟩ ⟨Nat.le_of_ble_eq_true rfl, Nat.le_of_ble_eq_true rfl⟩ dX12_read_19 (fun q3 h => ?_)
        refine j_goto F 27 dX12_read_22 (by decide) ?_
        exact j_iret F hr dX12_read_27 h
    · refine j_iconst F (-1) dX12_read_7 (by decide) ?_
      exact j_iret F hr dX12_read_8 h
  exact ct_of (by decide +kernel) (Nat.le_of_ble_eq_true rfl) (fun p e s m args below meth c F hr _ => hJ p e s m args below meth c F hr)
def rm_X12_allowedAt : Room := { frames := 2, cells := 0, slots := 0, locals := 47 }
theorem dX12_allowedAt_0 : decode cX12_allowedAt 0 = .ok (.aload_n 0, 1) := by decide +kernel
theorem dX12_allowedAt_1 : decode cX12_allowedAt 1 = .ok (.aload_n 0, 1) := by decide +kernel
theorem dX12_allowedAt_2 : decode cX12_allowedAt 2 = .ok (.getfield 36, 3) := by decide +kernel
theorem dX12_allowedAt_5 : decode cX12_allowedAt 5 = .ok (.iconst 5, 1) := by decide +kernel
theorem dX12_allowedAt_6 : decode cX12_allowedAt 6 = .ok (.iaload, 1) := by decide +kernel
theorem dX12_allowedAt_7 : decode cX12_allowedAt 7 = .ok (.iload_n 2, 1) := by decide +kernel
theorem dX12_allowedAt_8 : decode cX12_allowedAt 8 = .ok (.invokevirtual 154, 3) := by decide +kernel
theorem dX12_allowedAt_11 : decode cX12_allowedAt 11 = .ok (.bipush 100, 2) := by decide +kernel
theorem dX12_allowedAt_13 : decode cX12_allowedAt 13 = .ok (.iconst 5, 1) := by decide +kernel
theorem dX12_allowedAt_14 : decode cX12_allowedAt 14 = .ok (.aload_n 0, 1) := by decide +kernel
theorem dX12_allowedAt_15 : decode cX12_allowedAt 15 = .ok (.getfield 36, 3) := by decide +kernel
theorem dX12_allowedAt_18 : decode cX12_allowedAt 18 = .ok (.bipush 6, 2) := by decide +kernel
theorem dX12_allowedAt_20 : decode cX12_allowedAt 20 = .ok (.iaload, 1) := by decide +kernel
theorem dX12_allowedAt_21 : decode cX12_allowedAt 21 = .ok (.imul, 1) := by decide +kernel
theorem dX12_allowedAt_22 : decode cX12_allowedAt 22 = .ok (.isub, 1) := by decide +kernel
theorem dX12_allowedAt_23 : decode cX12_allowedAt 23 = .ok (.imul, 1) := by decide +kernel
theorem dX12_allowedAt_24 : decode cX12_allowedAt 24 = .ok (.bipush 100, 2) := by decide +kernel
theorem dX12_allowedAt_26 : decode cX12_allowedAt 26 = .ok (.idiv, 1) := by decide +kernel
theorem dX12_allowedAt_27 : decode cX12_allowedAt 27 = .ok (.istore_n 3, 1) := by decide +kernel
theorem dX12_allowedAt_28 : decode cX12_allowedAt 28 = .ok (.aload_n 0, 1) := by decide +kernel
theorem dX12_allowedAt_29 : decode cX12_allowedAt 29 = .ok (.getfield 36, 3) := by decide +kernel
theorem dX12_allowedAt_32 : decode cX12_allowedAt 32 = .ok (.bipush 7, 2) := by decide +kernel
theorem dX12_allowedAt_34 : decode cX12_allowedAt 34 = .ok (.iaload, 1) := by decide +kernel
theorem dX12_allowedAt_35 : decode cX12_allowedAt 35 = .ok (.ifCond .le 9, 3) := by decide +kernel
theorem dX12_allowedAt_38 : decode cX12_allowedAt 38 = .ok (.iload_n 3, 1) := by decide +kernel
theorem dX12_allowedAt_39 : decode cX12_allowedAt 39 = .ok (.iconst 3, 1) := by decide +kernel
theorem dX12_allowedAt_40 : decode cX12_allowedAt 40 = .ok (.imul, 1) := by decide +kernel
theorem dX12_allowedAt_41 : decode cX12_allowedAt 41 = .ok (.iconst 4, 1) := by decide +kernel
theorem dX12_allowedAt_42 : decode cX12_allowedAt 42 = .ok (.idiv, 1) := by decide +kernel
theorem dX12_allowedAt_43 : decode cX12_allowedAt 43 = .ok (.istore_n 3, 1) := by decide +kernel
theorem dX12_allowedAt_44 : decode cX12_allowedAt 44 = .ok (.aload_n 0, 1) := by decide +kernel
theorem dX12_allowedAt_45 : decode cX12_allowedAt 45 = .ok (.getfield 36, 3) := by decide +kernel
theorem dX12_allowedAt_48 : decode cX12_allowedAt 48 = .ok (.bipush 7, 2) := by decide +kernel
theorem dX12_allowedAt_50 : decode cX12_allowedAt 50 = .ok (.iaload, 1) := by decide +kernel
theorem dX12_allowedAt_51 : decode cX12_allowedAt 51 = .ok (.iconst 2, 1) := by decide +kernel
theorem dX12_allowedAt_52 : decode cX12_allowedAt 52 = .ok (.if_icmp .ne 17, 3) := by decide +kernel
theorem dX12_allowedAt_55 : decode cX12_allowedAt 55 = .ok (.iconst 0, 1) := by decide +kernel
theorem dX12_allowedAt_56 : decode cX12_allowedAt 56 = .ok (.iload_n 3, 1) := by decide +kernel
theorem dX12_allowedAt_57 : decode cX12_allowedAt 57 = .ok (.aload_n 0, 1) := by decide +kernel
theorem dX12_allowedAt_58 : decode cX12_allowedAt 58 = .ok (.getfield 36, 3) := by decide +kernel
theorem dX12_allowedAt_61 : decode cX12_allowedAt 61 = .ok (.bipush 6, 2) := by decide +kernel
theorem dX12_allowedAt_63 : decode cX12_allowedAt 63 = .ok (.iaload, 1) := by decide +kernel
theorem dX12_allowedAt_64 : decode cX12_allowedAt 64 = .ok (.isub, 1) := by decide +kernel
theorem dX12_allowedAt_65 : decode cX12_allowedAt 65 = .ok (.invokestatic 157, 3) := by decide +kernel
theorem dX12_allowedAt_68 : decode cX12_allowedAt 68 = .ok (.istore_n 3, 1) := by decide +kernel
theorem dX12_allowedAt_69 : decode cX12_allowedAt 69 = .ok (.iload_n 3, 1) := by decide +kernel
theorem dX12_allowedAt_70 : decode cX12_allowedAt 70 = .ok (.aload_n 0, 1) := by decide +kernel
theorem dX12_allowedAt_71 : decode cX12_allowedAt 71 = .ok (.getfield 36, 3) := by decide +kernel
theorem dX12_allowedAt_74 : decode cX12_allowedAt 74 = .ok (.bipush 10, 2) := by decide +kernel
theorem dX12_allowedAt_76 : decode cX12_allowedAt 76 = .ok (.iload_n 1, 1) := by decide +kernel
theorem dX12_allowedAt_77 : decode cX12_allowedAt 77 = .ok (.iconst 5, 1) := by decide +kernel
theorem dX12_allowedAt_78 : decode cX12_allowedAt 78 = .ok (.idiv, 1) := by decide +kernel
theorem dX12_allowedAt_79 : decode cX12_allowedAt 79 = .ok (.iadd, 1) := by decide +kernel
theorem dX12_allowedAt_80 : decode cX12_allowedAt 80 = .ok (.iaload, 1) := by decide +kernel
theorem dX12_allowedAt_81 : decode cX12_allowedAt 81 = .ok (.imul, 1) := by decide +kernel
theorem dX12_allowedAt_82 : decode cX12_allowedAt 82 = .ok (.bipush 100, 2) := by decide +kernel
theorem dX12_allowedAt_84 : decode cX12_allowedAt 84 = .ok (.idiv, 1) := by decide +kernel
theorem dX12_allowedAt_85 : decode cX12_allowedAt 85 = .ok (.ireturn, 1) := by decide +kernel
def b_X12_allowedAt_69 (S : SH) (a0 : Nat) (a1 : Int32) (a3 : Int32) (μ : Mem) : Option (Int32 × Mem) :=
 (gR S 12 a0 9).bind fun v11 =>
 (aI S .int v11 (10 + (a1 / 5)) μ).bind fun v12 =>
 some ((a3 * v12) / 100, μ)
set_option maxRecDepth 100000 in
set_option maxHeartbeats 4000000 in
theorem s_X12_allowedAt_69 {γ : GE} {p : Program} {l : Launch} {e : Env} {s : State} {m : MethodId} {args : Array Value} {below : List Frame} {meth : Method} {c : Code} {S : SH} {X : (Int32 × Mem)} (F : FX γ p s m args meth c cX12_allowedAt RX12 4) (hr : meth.sig.returnType = (some .int)) (a0 : Nat) (a1 : Int32) (a3 : Int32)    (μ : Mem) (h : b_X12_allowedAt_69 S a0 a1 a3 μ = some X) : JJ γ p l e rm_X12_allowedAt s m args below meth c 4 0 0 (QI below γ S X args s 0 0) S μ 69 [(0, .ref (gb γ + a0)), (1, .int a1), (3, .int a3)] [] := by
  unfold b_X12_allowedAt_69 at h
  refine j_iload_n F 2 dX12_allowedAt_69 rfl ?_
  refine j_aload_n F 0 dX12_allowedAt_70 rfl ?_
  refine j_gR F fl_RX12_36 rfl dX12_allowedAt_71 h (fun v11 h => ?_)
  refine j_bipush F 10 dX12_allowedAt_74 (by decide) ?_
  refine j_iload_n F 1 dX12_allowedAt_76 rfl ?_
  refine j_iconst F 5 dX12_allowedAt_77 (by decide) ?_
  refine j_idivc F dX12_allowedAt_78 (by decide) ?_
  refine j_iadd F dX12_allowedAt_79 ?_
  refine j_iald F dX12_allowedAt_80 h (fun v12 h => ?_)
  refine j_imul F dX12_allowedAt_81 ?_
  refine j_bipush F 100 dX12_allowedAt_82 (by decide) ?_
  refine j_idivc F dX12_allowedAt_84 (by decide) ?_
  exact j_iret F hr dX12_allowedAt_85 h
def b_X12_allowedAt_44 (S : SH) (a0 : Nat) (a1 : Int32) (a3 : Int32) (μ : Mem) : Option (Int32 × Mem) :=
 (gR S 12 a0 9).bind fun v9 =>
 (aI S .int v9 7 μ).bind fun v10 =>
 (if v10 = 2 then
 (gR S 12 a0 9).bind fun v13 =>
 (aI S .int v13 6 μ).bind fun v14 =>
 (some ((if 0 < (a3 - v14) then a3 - v14 else 0))).bind fun y15 =>
 b_X12_allowedAt_69 S a0 a1 y15 μ
 else
 b_X12_allowedAt_69 S a0 a1 a3 μ)
set_option maxRecDepth 100000 in
set_option maxHeartbeats 4000000 in
theorem s_X12_allowedAt_44 {γ : GE} {p : Program} {l : Launch} {e : Env} {s : State} {m : MethodId} {args : Array Value} {below : List Frame} {meth : Method} {c : Code} {S : SH} {X : (Int32 × Mem)} (F : FX γ p s m args meth c cX12_allowedAt RX12 4) (hr : meth.sig.returnType = (some .int)) (a0 : Nat) (a1 : Int32) (a3 : Int32)    (μ : Mem) (h : b_X12_allowedAt_44 S a0 a1 a3 μ = some X) : JJ γ p l e rm_X12_allowedAt s m args below meth c 4 0 0 (QI below γ S X args s 0 0) S μ 44 [(0, .ref (gb γ + a0)), (1, .int a1), (3, .int a3)] [] := by
  unfold b_X12_allowedAt_44 at h
  refine j_aload_n F 0 dX12_allowedAt_44 rfl ?_
  refine j_gR F fl_RX12_36 rfl dX12_allowedAt_45 h (fun v9 h => ?_)
  refine j_bipush F 7 dX12_allowedAt_48 (by decide) ?_
  refine j_iald F dX12_allowedAt_50 h (fun v10 h => ?_)
  refine j_iconst F 2 dX12_allowedAt_51 (by decide) ?_
  refine j_icmpne F 69 dX12_allowedAt_52 (by decide) h (fun _ h => ?_) (fun _ h => ?_)
  · exact s_X12_allowedAt_69 F hr _ _ _ _ h
  · refine j_iconst F 0 dX12_allowedAt_55 (by decide) ?_
    refine j_iload_n F 2 dX12_allowedAt_56 rfl ?_
    refine j_aload_n F 0 dX12_allowedAt_57 rfl ?_
    refine j_gR F fl_RX12_36 rfl dX12_allowedAt_58 h (fun v13 h => ?_)
    refine j_bipush F 6 dX12_allowedAt_61 (by decide) ?_
    refine j_iald F dX12_allowedAt_63 h (fun v14 h => ?_)
    refine j_isub F dX12_allowedAt_64 ?_
    refine j_mmax F w_1198 ⟨Nat.le_of_ble_eq_true rfl, Nat.le_of_ble_eq_true rfl, Nat.le_of_ble_eq_true rfl, Nat.le_of_ble_eq_true rfl⟩ dX12_allowedAt_65 mg_max ?_
    refine j_nmI h (fun y15 h => ?_)
    refine j_istore_n F [(3, .int y15), (0, .ref (gb γ + a0)), (1, .int a1)] dX12_allowedAt_68 rfl (by decide) rfl ?_
    refine j_lv [(0, .ref (gb γ + a0)), (1, .int a1), (3, .int y15)] [1, 2, 0] rfl ?_
    exact s_X12_allowedAt_69 F hr _ _ _ _ h
def f_X12_allowedAt (S : SH) (a0 : Nat) (a1 : Int32) (a2 : Int32) (μ : Mem) : Option (Int32 × Mem) :=
  if isO S 12 a0 = true then
  (gR S 12 a0 9).bind fun v1 =>
  (aI S .int v1 5 μ).bind fun v2 =>
  (f_X12_readOf S a0 v2 a2 μ).bind fun q3 =>
  (gR S 12 a0 9).bind fun v4 =>
  (aI S .int v4 6 q3.2).bind fun v5 =>
  (some ((q3.1 * (100 - (5 * v5))) / 100)).bind fun y6 =>
  (gR S 12 a0 9).bind fun v7 =>
  (aI S .int v7 7 q3.2).bind fun v8 =>
  (if v8 ≤ 0 then
  b_X12_allowedAt_44 S a0 a1 y6 q3.2
  else
  (some ((y6 * 3) / 4)).bind fun y16 =>
  b_X12_allowedAt_44 S a0 a1 y16 q3.2)
  else none
set_option maxRecDepth 100000 in
set_option maxHeartbeats 4000000 in
theorem c_X12_allowedAt {l : Launch} {γ : GE} {S : SH} {a0 : Nat} {a1 : Int32} {a2 : Int32} {μ : Mem} {X : (Int32 × Mem)} (h : f_X12_allowedAt S a0 a1 a2 μ = some X) : isO S 12 a0 = true ∧ Ct l γ yX12_allowedAt cX12_allowedAt 4 (some .int) rm_X12_allowedAt [.ref (gb γ + a0), .int a1, .int a2] S μ S X.2 (some (.int X.1)) := by
  unfold f_X12_allowedAt at h
  obtain ⟨h0, h⟩ := if_some h
  refine ⟨h0, ?_⟩
  have hJ : ∀ (p : Program) (e : Env) (s : State) (m : MethodId) (args : Array Value) (below : List Frame) (meth : Method) (c : Code), FX γ p s m args meth c cX12_allowedAt RX12 4 → meth.sig.returnType = (some .int) → JJ γ p l e rm_X12_allowedAt s m args below meth c 4 0 0 (QI below γ S X args s 0 0) S μ 0 [(0, .ref (gb γ + a0)), (1, .int a1), (2, .int a2)] [] := by
    intro p e s m args below meth c F hr
    refine j_aload_n F 0 dX12_allowedAt_0 rfl ?_
    refine j_aload_n F 0 dX12_allowedAt_1 rfl ?_
    refine j_gR F fl_RX12_36 rfl dX12_allowedAt_2 h (fun v1 h => ?_)
    refine j_iconst F 5 dX12_allowedAt_5 (by decide) ?_
    refine j_iald F dX12_allowedAt_6 h (fun v2 h => ?_)
    refine j_iload_n F 2 dX12_allowedAt_7 rfl ?_
    refine j_cVI F mi_X12_readOf w_1183 (rest := []) h (fun _ g => c_X12_readOf g) rfl rfl (Nat.le_of_ble_eq_true rfl) ⟨Nat.le_of_ble_eq_true rfl, Nat.le_of_ble_eq_true rfl⟩ ⟨Nat.le_of_ble_eq_true rfl, Nat.le_of_ble_eq_true rfl⟩ dX12_allowedAt_8 (fun q3 h => ?_)
    refine j_bipush F 100 dX12_allowedAt_11 (by decide) ?_
    refine j_iconst F 5 dX12_allowedAt_13 (by decide) ?_
    refine j_aload_n F 0 dX12_allowedAt_14 rfl ?_
    refine j_gR F fl_RX12_36 rfl dX12_allowedAt_15 h (fun v4 h => ?_)
    refine j_bipush F 6 dX12_allowedAt_18 (by decide) ?_
    refine j_iald F dX12_allowedAt_20 h (fun v5 h => ?_)
    refine j_imul F dX12_allowedAt_21 ?_
    refine j_isub F dX12_allowedAt_22 ?_
    refine j_imul F dX12_allowedAt_23 ?_
    refine j_bipush F 100 dX12_allowedAt_24 (by decide) ?_
    refine j_idivc F dX12_allowedAt_26 (by decide) ?_
    refine j_nmI h (fun y6 h => ?_)
    refine j_istore_n F [(3, .int y6), (0, .ref (gb γ + a0)), (1, .int a1), (2, .int a2)] dX12_allowedAt_27 rfl (by decide) rfl ?_
    refine j_aload_n F 1 dX12_allowedAt_28 rfl ?_
    refine j_gR F fl_RX12_36 rfl dX12_allowedAt_29 h (fun v7 h => ?_)
    refine j_bipush F 7 dX12_allowedAt_32 (by decide) ?_
    refine j_iald F dX12_allowedAt_34 h (fun v8 h => ?_)
    refine j_ifle F 44 dX12_allowedAt_35 (by decide) h (fun _ h => ?_) (fun _ h => ?_)
    · refine j_lv [(0, .ref (gb γ + a0)), (1, .int a1), (3, .int y6)] [1, 2, 0] rfl ?_
      exact s_X12_allowedAt_44 F hr _ _ _ _ h
    · refine j_iload_n F 0 dX12_allowedAt_38 rfl ?_
      refine j_iconst F 3 dX12_allowedAt_39 (by decide) ?_
      refine j_imul F dX12_allowedAt_40 ?_
      refine j_iconst F 4 dX12_allowedAt_41 (by decide) ?_
      refine j_idivc F dX12_allowedAt_42 (by decide) ?_
      refine j_nmI h (fun y16 h => ?_)
      refine j_istore_n F [(3, .int y16), (0, .ref (gb γ + a0)), (1, .int a1), (2, .int a2)] dX12_allowedAt_43 rfl (by decide) rfl ?_
      refine j_lv [(0, .ref (gb γ + a0)), (1, .int a1), (3, .int y16)] [1, 2, 0] rfl ?_
      exact s_X12_allowedAt_44 F hr _ _ _ _ h
  exact ct_of (by decide +kernel) (Nat.le_of_ble_eq_true rfl) (fun p e s m args below meth c F hr _ => hJ p e s m args below meth c F hr)
def rm_X12_isDirection : Room := { frames := 1, cells := 0, slots := 0, locals := 22 }
theorem dX12_isDirection_0 : decode cX12_isDirection 0 = .ok (.iload_n 0, 1) := by decide +kernel
theorem dX12_isDirection_1 : decode cX12_isDirection 1 = .ok (.iconst 0, 1) := by decide +kernel
theorem dX12_isDirection_2 : decode cX12_isDirection 2 = .ok (.bipush 19, 2) := by decide +kernel
theorem dX12_isDirection_4 : decode cX12_isDirection 4 = .ok (.invokestatic 95, 3) := by decide +kernel
theorem dX12_isDirection_7 : decode cX12_isDirection 7 = .ok (.ireturn, 1) := by decide +kernel
def f_X12_isDirection (S : SH) (a0 : Int32) (μ : Mem) : Option (Int32 × Mem) :=
  (f_X12_in S a0 0 19 μ).bind fun q1 =>
  (oz q1.1).bind fun z2 => some (z2, q1.2)
set_option maxRecDepth 100000 in
set_option maxHeartbeats 4000000 in
theorem c_X12_isDirection {l : Launch} {γ : GE} {S : SH} {a0 : Int32} {μ : Mem} {X : (Int32 × Mem)} (h : f_X12_isDirection S a0 μ = some X) : Ct l γ yX12_isDirection cX12_isDirection 1 (some .boolean) rm_X12_isDirection [.int a0] S μ S X.2 (some (.int X.1)) := by
  unfold f_X12_isDirection at h
  have hJ : ∀ (p : Program) (e : Env) (s : State) (m : MethodId) (args : Array Value) (below : List Frame) (meth : Method) (c : Code), FX γ p s m args meth c cX12_isDirection RX12 1 → meth.sig.returnType = (some .boolean) → JJ γ p l e rm_X12_isDirection s m args below meth c 1 0 0 (QI below γ S X args s 0 0) S μ 0 [(0, .int a0)] [] := by
    intro p e s m args below meth c F hr
    refine j_iload_n F 0 dX12_isDirection_0 rfl ?_
    refine j_iconst F 0 dX12_isDirection_1 (by decide) ?_
    refine j_bipush F 19 dX12_isDirection_2 (by decide) ?_
    refine j_cSI F mi_X12_in w_1104 (rest := []) h (fun _ g => c_X12_in g) rfl rfl (Nat.le_of_ble_eq_true rfl) ⟨Nat.le_of_ble_eq_true rfl, Nat.le_of_ble_eq_true rfl⟩ ⟨Nat.le_of_ble_eq_true rfl, Nat.le_of_ble_eq_true rfl⟩ dX12_isDirection_4 (fun q1 h => ?_)
    exact j_zretG F hr dX12_isDirection_7 h
  exact ct_of (by decide +kernel) (Nat.le_of_ble_eq_true rfl) (fun p e s m args below meth c F hr _ => hJ p e s m args below meth c F hr)
def rm_X12_allowed : Room := { frames := 3, cells := 0, slots := 0, locals := 70 }
theorem dX12_allowed_0 : decode cX12_allowed 0 = .ok (.iload_n 1, 1) := by decide +kernel
theorem dX12_allowed_1 : decode cX12_allowed 1 = .ok (.invokestatic 162, 3) := by decide +kernel
theorem dX12_allowed_4 : decode cX12_allowed 4 = .ok (.ifCond .ne 5, 3) := by decide +kernel
theorem dX12_allowed_7 : decode cX12_allowed 7 = .ok (.iconst (-1), 1) := by decide +kernel
theorem dX12_allowed_8 : decode cX12_allowed 8 = .ok (.ireturn, 1) := by decide +kernel
theorem dX12_allowed_9 : decode cX12_allowed 9 = .ok (.iload_n 2, 1) := by decide +kernel
theorem dX12_allowed_10 : decode cX12_allowed 10 = .ok (.invokestatic 136, 3) := by decide +kernel
theorem dX12_allowed_13 : decode cX12_allowed 13 = .ok (.ifCond .eq 12, 3) := by decide +kernel
theorem dX12_allowed_16 : decode cX12_allowed 16 = .ok (.aload_n 0, 1) := by decide +kernel
theorem dX12_allowed_17 : decode cX12_allowed 17 = .ok (.iload_n 1, 1) := by decide +kernel
theorem dX12_allowed_18 : decode cX12_allowed 18 = .ok (.iload_n 2, 1) := by decide +kernel
theorem dX12_allowed_19 : decode cX12_allowed 19 = .ok (.invokevirtual 165, 3) := by decide +kernel
theorem dX12_allowed_22 : decode cX12_allowed 22 = .ok (.goto 5, 3) := by decide +kernel
theorem dX12_allowed_25 : decode cX12_allowed 25 = .ok (.bipush (-2), 2) := by decide +kernel
theorem dX12_allowed_27 : decode cX12_allowed 27 = .ok (.ireturn, 1) := by decide +kernel
def f_X12_allowed (S : SH) (a0 : Nat) (a1 : Int32) (a2 : Int32) (μ : Mem) : Option (Int32 × Mem) :=
  if isO S 12 a0 = true then
  (f_X12_isDirection S a1 μ).bind fun q1 =>
  (if q1.1 = 0 then
  some ((-1), q1.2)
  else
  (f_X12_isReach S a2 q1.2).bind fun q2 =>
  (if q2.1 = 0 then
  some ((-2), q2.2)
  else
  (f_X12_allowedAt S a0 a1 a2 q2.2).bind fun q3 =>
  some (q3.1, q3.2)))
  else none
set_option maxRecDepth 100000 in
set_option maxHeartbeats 4000000 in
theorem c_X12_allowed {l : Launch} {γ : GE} {S : SH} {a0 : Nat} {a1 : Int32} {a2 : Int32} {μ : Mem} {X : (Int32 × Mem)} (h : f_X12_allowed S a0 a1 a2 μ = some X) : isO S 12 a0 = true ∧ Ct l γ yX12_allowed cX12_allowed 3 (some .int) rm_X12_allowed [.ref (gb γ + a0), .int a1, .int a2] S μ S X.2 (some (.int X.1)) := by
  unfold f_X12_allowed at h
  obtain ⟨h0, h⟩ := if_some h
  refine ⟨h0, ?_⟩
  have hJ : ∀ (p : Program) (e : Env) (s : State) (m : MethodId) (args : Array Value) (below : List Frame) (meth : Method) (c : Code), FX γ p s m args meth c cX12_allowed RX12 3 → meth.sig.returnType = (some .int) → JJ γ p l e rm_X12_allowed s m args below meth c 3 0 0 (QI below γ S X args s 0 0) S μ 0 [(0, .ref (gb γ + a0)), (1, .int a1), (2, .int a2)] [] := by
    intro p e s m args below meth c F hr
    refine j_iload_n F 1 dX12_allowed_0 rfl ?_
    refine j_cSI F mi_X12_isDirection w_1191 (rest := []) h (fun _ g => c_X12_isDirection g) rfl rfl (Nat.le_of_ble_eq_true rfl) ⟨Nat.le_of_ble_eq_true rfl, Nat.le_of_ble_eq_true rfl⟩ ⟨Nat.le_of_ble_eq_true rfl, Nat.le_of_ble_eq_true rfl⟩ dX12_allowed_1 (fun q1 h => ?_)
    refine j_ifne F 9 dX12_allowed_4 (by decide) h (fun _ h => ?_) (fun _ h => ?_)
    · refine j_iload_n F 2 dX12_allowed_9 rfl ?_
      refine j_cSI F mi_X12_isReach w_1160 (rest := []) h (fun _ g => c_X12_isReach g) rfl rfl (Nat.le_of_ble_eq_true rfl) ⟨Nat.le_of_ble_eq_true rfl, Nat.le_of_ble_eq_true rfl⟩ ⟨Nat.le_of_ble_eq_true rfl, Nat.le_of_ble_eq_true rfl⟩ dX12_allowed_10 (fun q2 h => ?_)
      refine j_ifeq F 25 dX12_allowed_13 (by decide) h (fun _ h => ?_) (fun _ h => ?_)
      · refine j_bipush F (-2) dX12_allowed_25 (by decide) ?_
        exact j_iret F hr dX12_allowed_27 h
      · refine j_aload_n F 0 dX12_allowed_16 rfl ?_
        refine j_iload_n F 1 dX12_allowed_17 rfl ?_
        refine j_iload_n F 2 dX12_allowed_18 rfl ?_
        refine j_cVI F mi_X12_allowedAt w_1194 (rest := []) h (fun _ g => c_X12_allowedAt g) rfl rfl (Nat.le_of_ble_eq_true rfl) ⟨Nat.le_of_ble_eq_true rfl, Nat.le_of_ble_eq_true rfl⟩ ⟨Nat.le_of_ble_eq_true rfl, Nat.le_of_ble_eq_true rfl⟩ dX12_allowed_19 (fun q3 h => ?_)
        refine j_goto F 27 dX12_allowed_22 (by decide) ?_
        exact j_iret F hr dX12_allowed_27 h
    · refine j_iconst F (-1) dX12_allowed_7 (by decide) ?_
      exact j_iret F hr dX12_allowed_8 h
  exact ct_of (by decide +kernel) (Nat.le_of_ble_eq_true rfl) (fun p e s m args below meth c F hr _ => hJ p e s m args below meth c F hr)
def rm_X12_plainCos : Room := { frames := 0, cells := 0, slots := 0, locals := 0 }
theorem dX12_plainCos_0 : decode cX12_plainCos 0 = .ok (.iload_n 0, 1) := by decide +kernel
theorem dX12_plainCos_1 : decode cX12_plainCos 1 = .ok (.tableswitch 43 0 3 #[31, 34, 37, 40], 31) := by decide +kernel
theorem dX12_plainCos_32 : decode cX12_plainCos 32 = .ok (.bipush 65, 2) := by decide +kernel
theorem dX12_plainCos_34 : decode cX12_plainCos 34 = .ok (.ireturn, 1) := by decide +kernel
theorem dX12_plainCos_35 : decode cX12_plainCos 35 = .ok (.bipush 60, 2) := by decide +kernel
theorem dX12_plainCos_37 : decode cX12_plainCos 37 = .ok (.ireturn, 1) := by decide +kernel
theorem dX12_plainCos_38 : decode cX12_plainCos 38 = .ok (.bipush 52, 2) := by decide +kernel
theorem dX12_plainCos_40 : decode cX12_plainCos 40 = .ok (.ireturn, 1) := by decide +kernel
theorem dX12_plainCos_41 : decode cX12_plainCos 41 = .ok (.bipush 39, 2) := by decide +kernel
theorem dX12_plainCos_43 : decode cX12_plainCos 43 = .ok (.ireturn, 1) := by decide +kernel
theorem dX12_plainCos_44 : decode cX12_plainCos 44 = .ok (.bipush 25, 2) := by decide +kernel
theorem dX12_plainCos_46 : decode cX12_plainCos 46 = .ok (.ireturn, 1) := by decide +kernel
def f_X12_plainCos (S : SH) (a0 : Int32) (μ : Mem) : Option (Int32 × Mem) :=
  (if a0 = 0 then
  some (65, μ)
  else if a0 = 1 then
  some (60, μ)
  else if a0 = 2 then
  some (52, μ)
  else if a0 = 3 then
  some (39, μ)
  else 
  some (25, μ))
set_option maxRecDepth 100000 in
set_option maxHeartbeats 4000000 in
theorem c_X12_plainCos {l : Launch} {γ : GE} {S : SH} {a0 : Int32} {μ : Mem} {X : (Int32 × Mem)} (h : f_X12_plainCos S a0 μ = some X) : Ct l γ yX12_plainCos cX12_plainCos 1 (some .int) rm_X12_plainCos [.int a0] S μ S X.2 (some (.int X.1)) := by
  unfold f_X12_plainCos at h
  have hJ : ∀ (p : Program) (e : Env) (s : State) (m : MethodId) (args : Array Value) (below : List Frame) (meth : Method) (c : Code), FX γ p s m args meth c cX12_plainCos RX12 1 → meth.sig.returnType = (some .int) → JJ γ p l e rm_X12_plainCos s m args below meth c 1 0 0 (QI below γ S X args s 0 0) S μ 0 [(0, .int a0)] [] := by
    intro p e s m args below meth c F hr
    refine j_iload_n F 0 dX12_plainCos_0 rfl ?_
    by_cases e0 : a0 = 0
    · rw [if_pos e0] at h
      refine j_tin F (off := 31) 32 dX12_plainCos_1 (by rw [e0]; decide) (by rw [e0]; decide) (by rw [e0]; rfl) (by decide) ?_
      refine j_bipush F 65 dX12_plainCos_32 (by decide) ?_
      exact j_iret F hr dX12_plainCos_34 h
    rw [if_neg e0] at h
    by_cases e1 : a0 = 1
    · rw [if_pos e1] at h
      refine j_tin F (off := 34) 35 dX12_plainCos_1 (by rw [e1]; decide) (by rw [e1]; decide) (by rw [e1]; rfl) (by decide) ?_
      refine j_bipush F 60 dX12_plainCos_35 (by decide) ?_
      exact j_iret F hr dX12_plainCos_37 h
    rw [if_neg e1] at h
    by_cases e2 : a0 = 2
    · rw [if_pos e2] at h
      refine j_tin F (off := 37) 38 dX12_plainCos_1 (by rw [e2]; decide) (by rw [e2]; decide) (by rw [e2]; rfl) (by decide) ?_
      refine j_bipush F 52 dX12_plainCos_38 (by decide) ?_
      exact j_iret F hr dX12_plainCos_40 h
    rw [if_neg e2] at h
    by_cases e3 : a0 = 3
    · rw [if_pos e3] at h
      refine j_tin F (off := 40) 41 dX12_plainCos_1 (by rw [e3]; decide) (by rw [e3]; decide) (by rw [e3]; rfl) (by decide) ?_
      refine j_bipush F 39 dX12_plainCos_41 (by decide) ?_
      exact j_iret F hr dX12_plainCos_43 h
    rw [if_neg e3] at h
    have g0 : (a0).toInt ≠ (0 : Int) := fun q => e0 (Int32.toInt_inj.mp (q.trans (by decide)))
    have g1 : (a0).toInt ≠ (1 : Int) := fun q => e1 (Int32.toInt_inj.mp (q.trans (by decide)))
    have g2 : (a0).toInt ≠ (2 : Int) := fun q => e2 (Int32.toInt_inj.mp (q.trans (by decide)))
    have g3 : (a0).toInt ≠ (3 : Int) := fun q => e3 (Int32.toInt_inj.mp (q.trans (by decide)))
    refine j_tout F 44 dX12_plainCos_1 (by omega) (by decide) ?_
    refine j_bipush F 25 dX12_plainCos_44 (by decide) ?_
    exact j_iret F hr dX12_plainCos_46 h
  exact ct_of (by decide +kernel) (Nat.le_of_ble_eq_true rfl) (fun p e s m args below meth c F hr _ => hJ p e s m args below meth c F hr)
def rm_X12_plainSin : Room := { frames := 1, cells := 0, slots := 0, locals := 20 }
theorem dX12_plainSin_0 : decode cX12_plainSin 0 = .ok (.iload_n 0, 1) := by decide +kernel
theorem dX12_plainSin_1 : decode cX12_plainSin 1 = .ok (.ifCond .ne 7, 3) := by decide +kernel
theorem dX12_plainSin_4 : decode cX12_plainSin 4 = .ok (.iconst 0, 1) := by decide +kernel
theorem dX12_plainSin_5 : decode cX12_plainSin 5 = .ok (.goto 9, 3) := by decide +kernel
theorem dX12_plainSin_8 : decode cX12_plainSin 8 = .ok (.iconst 5, 1) := by decide +kernel
theorem dX12_plainSin_9 : decode cX12_plainSin 9 = .ok (.iload_n 0, 1) := by decide +kernel
theorem dX12_plainSin_10 : decode cX12_plainSin 10 = .ok (.isub, 1) := by decide +kernel
theorem dX12_plainSin_11 : decode cX12_plainSin 11 = .ok (.invokestatic 168, 3) := by decide +kernel
theorem dX12_plainSin_14 : decode cX12_plainSin 14 = .ok (.ireturn, 1) := by decide +kernel
def f_X12_plainSin (S : SH) (a0 : Int32) (μ : Mem) : Option (Int32 × Mem) :=
  (if a0 = 0 then
  some (0, μ)
  else
  (f_X12_plainCos S (5 - a0) μ).bind fun q1 =>
  some (q1.1, q1.2))
set_option maxRecDepth 100000 in
set_option maxHeartbeats 4000000 in
theorem c_X12_plainSin {l : Launch} {γ : GE} {S : SH} {a0 : Int32} {μ : Mem} {X : (Int32 × Mem)} (h : f_X12_plainSin S a0 μ = some X) : Ct l γ yX12_plainSin cX12_plainSin 1 (some .int) rm_X12_plainSin [.int a0] S μ S X.2 (some (.int X.1)) := by
  unfold f_X12_plainSin at h
  have hJ : ∀ (p : Program) (e : Env) (s : State) (m : MethodId) (args : Array Value) (below : List Frame) (meth : Method) (c : Code), FX γ p s m args meth c cX12_plainSin RX12 1 → meth.sig.returnType = (some .int) → JJ γ p l e rm_X12_plainSin s m args below meth c 1 0 0 (QI below γ S X args s 0 0) S μ 0 [(0, .int a0)] [] := by
    intro p e s m args below meth c F hr
    refine j_iload_n F 0 dX12_plainSin_0 rfl ?_
    refine j_ifne F 8 dX12_plainSin_1 (by decide) h (fun _ h => ?_) (fun _ h => ?_)
    · refine j_iconst F 5 dX12_plainSin_8 (by decide) ?_
      refine j_iload_n F 0 dX12_plainSin_9 rfl ?_
      refine j_isub F dX12_plainSin_10 ?_
      refine j_cSI F mi_X12_plainCos w_1210 (rest := []) h (fun _ g => c_X12_plainCos g) rfl rfl (Nat.le_of_ble_eq_true rfl) ⟨Nat.le_of_ble_eq_true rfl, Nat.le_of_ble_eq_true rfl⟩ ⟨Nat.le_of_ble_eq_true rfl, Nat.le_of_ble_eq_true rfl⟩ dX12_plainSin_11 (fun q1 h => ?_)
      exact j_iret F hr dX12_plainSin_14 h
    · refine j_iconst F 0 dX12_plainSin_4 (by decide) ?_
      refine j_goto F 14 dX12_plainSin_5 (by decide) ?_
      exact j_iret F hr dX12_plainSin_14 h
  exact ct_of (by decide +kernel) (Nat.le_of_ble_eq_true rfl) (fun p e s m args below meth c F hr _ => hJ p e s m args below meth c F hr)
def rm_X12_cos : Room := { frames := 2, cells := 0, slots := 0, locals := 40 }
theorem dX12_cos_0 : decode cX12_cos 0 = .ok (.iload_n 0, 1) := by decide +kernel
theorem dX12_cos_1 : decode cX12_cos 1 = .ok (.iconst 5, 1) := by decide +kernel
theorem dX12_cos_2 : decode cX12_cos 2 = .ok (.idiv, 1) := by decide +kernel
theorem dX12_cos_3 : decode cX12_cos 3 = .ok (.tableswitch 48 0 2 #[25, 32, 40], 25) := by decide +kernel
theorem dX12_cos_28 : decode cX12_cos 28 = .ok (.iload_n 0, 1) := by decide +kernel
theorem dX12_cos_29 : decode cX12_cos 29 = .ok (.iconst 5, 1) := by decide +kernel
theorem dX12_cos_30 : decode cX12_cos 30 = .ok (.irem, 1) := by decide +kernel
theorem dX12_cos_31 : decode cX12_cos 31 = .ok (.invokestatic 168, 3) := by decide +kernel
theorem dX12_cos_34 : decode cX12_cos 34 = .ok (.ireturn, 1) := by decide +kernel
theorem dX12_cos_35 : decode cX12_cos 35 = .ok (.iload_n 0, 1) := by decide +kernel
theorem dX12_cos_36 : decode cX12_cos 36 = .ok (.iconst 5, 1) := by decide +kernel
theorem dX12_cos_37 : decode cX12_cos 37 = .ok (.irem, 1) := by decide +kernel
theorem dX12_cos_38 : decode cX12_cos 38 = .ok (.invokestatic 171, 3) := by decide +kernel
theorem dX12_cos_41 : decode cX12_cos 41 = .ok (.ineg, 1) := by decide +kernel
theorem dX12_cos_42 : decode cX12_cos 42 = .ok (.ireturn, 1) := by decide +kernel
theorem dX12_cos_43 : decode cX12_cos 43 = .ok (.iload_n 0, 1) := by decide +kernel
theorem dX12_cos_44 : decode cX12_cos 44 = .ok (.iconst 5, 1) := by decide +kernel
theorem dX12_cos_45 : decode cX12_cos 45 = .ok (.irem, 1) := by decide +kernel
theorem dX12_cos_46 : decode cX12_cos 46 = .ok (.invokestatic 168, 3) := by decide +kernel
theorem dX12_cos_49 : decode cX12_cos 49 = .ok (.ineg, 1) := by decide +kernel
theorem dX12_cos_50 : decode cX12_cos 50 = .ok (.ireturn, 1) := by decide +kernel
theorem dX12_cos_51 : decode cX12_cos 51 = .ok (.iload_n 0, 1) := by decide +kernel
theorem dX12_cos_52 : decode cX12_cos 52 = .ok (.iconst 5, 1) := by decide +kernel
theorem dX12_cos_53 : decode cX12_cos 53 = .ok (.irem, 1) := by decide +kernel
theorem dX12_cos_54 : decode cX12_cos 54 = .ok (.invokestatic 171, 3) := by decide +kernel
theorem dX12_cos_57 : decode cX12_cos 57 = .ok (.ireturn, 1) := by decide +kernel
def f_X12_cos (S : SH) (a0 : Int32) (μ : Mem) : Option (Int32 × Mem) :=
  (some (a0 / 5)).bind fun y1 =>
  (if y1 = 0 then
  (f_X12_plainCos S (a0 - a0 / 5 * 5) μ).bind fun q2 =>
  some (q2.1, q2.2)
  else if y1 = 1 then
  (f_X12_plainSin S (a0 - a0 / 5 * 5) μ).bind fun q3 =>
  some (-q3.1, q3.2)
  else if y1 = 2 then
  (f_X12_plainCos S (a0 - a0 / 5 * 5) μ).bind fun q4 =>
  some (-q4.1, q4.2)
  else 
  (f_X12_plainSin S (a0 - a0 / 5 * 5) μ).bind fun q5 =>
  some (q5.1, q5.2))
set_option maxRecDepth 100000 in
set_option maxHeartbeats 4000000 in
theorem c_X12_cos {l : Launch} {γ : GE} {S : SH} {a0 : Int32} {μ : Mem} {X : (Int32 × Mem)} (h : f_X12_cos S a0 μ = some X) : Ct l γ yX12_cos cX12_cos 1 (some .int) rm_X12_cos [.int a0] S μ S X.2 (some (.int X.1)) := by
  unfold f_X12_cos at h
  have hJ : ∀ (p : Program) (e : Env) (s : State) (m : MethodId) (args : Array Value) (below : List Frame) (meth : Method) (c : Code), FX γ p s m args meth c cX12_cos RX12 1 → meth.sig.returnType = (some .int) → JJ γ p l e rm_X12_cos s m args below meth c 1 0 0 (QI below γ S X args s 0 0) S μ 0 [(0, .int a0)] [] := by
    intro p e s m args below meth c F hr
    refine j_iload_n F 0 dX12_cos_0 rfl ?_
    refine j_iconst F 5 dX12_cos_1 (by decide) ?_
    refine j_idivc F dX12_cos_2 (by decide) ?_
    refine j_nmI h (fun y1 h => ?_)
    by_cases e0 : y1 = 0
    · rw [if_pos e0] at h
      refine j_tin F (off := 25) 28 dX12_cos_3 (by rw [e0]; decide) (by rw [e0]; decide) (by rw [e0]; rfl) (by decide) ?_
      refine j_iload_n F 0 dX12_cos_28 rfl ?_
      refine j_iconst F 5 dX12_cos_29 (by decide) ?_
      refine j_iremc F dX12_cos_30 (by decide) ?_
      refine j_cSI F mi_X12_plainCos w_1210 (rest := []) h (fun _ g => c_X12_plainCos g) rfl rfl (Nat.le_of_ble_eq_true rfl) ⟨Nat.le_of_ble_eq_true rfl, Nat.le_of_ble_eq_true rfl⟩ ⟨Nat.le_of_ble_eq_true rfl, Nat.le_of_ble_eq_true rfl⟩ dX12_cos_31 (fun q2 h => ?_)
      exact j_iret F hr dX12_cos_34 h
    rw [if_neg e0] at h
    by_cases e1 : y1 = 1
    · rw [if_pos e1] at h
      refine j_tin F (off := 32) 35 dX12_cos_3 (by rw [e1]; decide) (by rw [e1]; decide) (by rw [e1]; rfl) (by decide) ?_
      refine j_iload_n F 0 dX12_cos_35 rfl ?_
      refine j_iconst F 5 dX12_cos_36 (by decide) ?_
      refine j_iremc F dX12_cos_37 (by decide) ?_
      refine j_cSI F mi_X12_plainSin w_1213 (rest := []) h (fun _ g => c_X12_plainSin g) rfl rfl (Nat.le_of_ble_eq_true rfl) ⟨Nat.le_of_ble_eq_true rfl, Nat.le_of_ble_eq_true rfl⟩ ⟨Nat.le_of_ble_eq_true rfl, Nat.le_of_ble_eq_true rfl⟩ dX12_cos_38 (fun q3 h => ?_)
      refine j_ineg F dX12_cos_41 ?_
      exact j_iret F hr dX12_cos_42 h
    rw [if_neg e1] at h
    by_cases e2 : y1 = 2
    · rw [if_pos e2] at h
      refine j_tin F (off := 40) 43 dX12_cos_3 (by rw [e2]; decide) (by rw [e2]; decide) (by rw [e2]; rfl) (by decide) ?_
      refine j_iload_n F 0 dX12_cos_43 rfl ?_
      refine j_iconst F 5 dX12_cos_44 (by decide) ?_
      refine j_iremc F dX12_cos_45 (by decide) ?_
      refine j_cSI F mi_X12_plainCos w_1210 (rest := []) h (fun _ g => c_X12_plainCos g) rfl rfl (Nat.le_of_ble_eq_true rfl) ⟨Nat.le_of_ble_eq_true rfl, Nat.le_of_ble_eq_true rfl⟩ ⟨Nat.le_of_ble_eq_true rfl, Nat.le_of_ble_eq_true rfl⟩ dX12_cos_46 (fun q4 h => ?_)
      refine j_ineg F dX12_cos_49 ?_
      exact j_iret F hr dX12_cos_50 h
    rw [if_neg e2] at h
    have g0 : (y1).toInt ≠ (0 : Int) := fun q => e0 (Int32.toInt_inj.mp (q.trans (by decide)))
    have g1 : (y1).toInt ≠ (1 : Int) := fun q => e1 (Int32.toInt_inj.mp (q.trans (by decide)))
    have g2 : (y1).toInt ≠ (2 : Int) := fun q => e2 (Int32.toInt_inj.mp (q.trans (by decide)))
    refine j_tout F 51 dX12_cos_3 (by omega) (by decide) ?_
    refine j_iload_n F 0 dX12_cos_51 rfl ?_
    refine j_iconst F 5 dX12_cos_52 (by decide) ?_
    refine j_iremc F dX12_cos_53 (by decide) ?_
    refine j_cSI F mi_X12_plainSin w_1213 (rest := []) h (fun _ g => c_X12_plainSin g) rfl rfl (Nat.le_of_ble_eq_true rfl) ⟨Nat.le_of_ble_eq_true rfl, Nat.le_of_ble_eq_true rfl⟩ ⟨Nat.le_of_ble_eq_true rfl, Nat.le_of_ble_eq_true rfl⟩ dX12_cos_54 (fun q5 h => ?_)
    exact j_iret F hr dX12_cos_57 h
  exact ct_of (by decide +kernel) (Nat.le_of_ble_eq_true rfl) (fun p e s m args below meth c F hr _ => hJ p e s m args below meth c F hr)
def rm_X12_sin : Room := { frames := 3, cells := 0, slots := 0, locals := 60 }
theorem dX12_sin_0 : decode cX12_sin 0 = .ok (.iload_n 0, 1) := by decide +kernel
theorem dX12_sin_1 : decode cX12_sin 1 = .ok (.bipush 15, 2) := by decide +kernel
theorem dX12_sin_3 : decode cX12_sin 3 = .ok (.iadd, 1) := by decide +kernel
theorem dX12_sin_4 : decode cX12_sin 4 = .ok (.bipush 20, 2) := by decide +kernel
theorem dX12_sin_6 : decode cX12_sin 6 = .ok (.irem, 1) := by decide +kernel
theorem dX12_sin_7 : decode cX12_sin 7 = .ok (.invokestatic 174, 3) := by decide +kernel
theorem dX12_sin_10 : decode cX12_sin 10 = .ok (.ireturn, 1) := by decide +kernel
def f_X12_sin (S : SH) (a0 : Int32) (μ : Mem) : Option (Int32 × Mem) :=
  (f_X12_cos S ((a0 + 15) - (a0 + 15) / 20 * 20) μ).bind fun q1 =>
  some (q1.1, q1.2)
set_option maxRecDepth 100000 in
set_option maxHeartbeats 4000000 in
theorem c_X12_sin {l : Launch} {γ : GE} {S : SH} {a0 : Int32} {μ : Mem} {X : (Int32 × Mem)} (h : f_X12_sin S a0 μ = some X) : Ct l γ yX12_sin cX12_sin 1 (some .int) rm_X12_sin [.int a0] S μ S X.2 (some (.int X.1)) := by
  unfold f_X12_sin at h
  have hJ : ∀ (p : Program) (e : Env) (s : State) (m : MethodId) (args : Array Value) (below : List Frame) (meth : Method) (c : Code), FX γ p s m args meth c cX12_sin RX12 1 → meth.sig.returnType = (some .int) → JJ γ p l e rm_X12_sin s m args below meth c 1 0 0 (QI below γ S X args s 0 0) S μ 0 [(0, .int a0)] [] := by
    intro p e s m args below meth c F hr
    refine j_iload_n F 0 dX12_sin_0 rfl ?_
    refine j_bipush F 15 dX12_sin_1 (by decide) ?_
    refine j_iadd F dX12_sin_3 ?_
    refine j_bipush F 20 dX12_sin_4 (by decide) ?_
    refine j_iremc F dX12_sin_6 (by decide) ?_
    refine j_cSI F mi_X12_cos w_1207 (rest := []) h (fun _ g => c_X12_cos g) rfl rfl (Nat.le_of_ble_eq_true rfl) ⟨Nat.le_of_ble_eq_true rfl, Nat.le_of_ble_eq_true rfl⟩ ⟨Nat.le_of_ble_eq_true rfl, Nat.le_of_ble_eq_true rfl⟩ dX12_sin_7 (fun q1 h => ?_)
    exact j_iret F hr dX12_sin_10 h
  exact ct_of (by decide +kernel) (Nat.le_of_ble_eq_true rfl) (fun p e s m args below meth c F hr _ => hJ p e s m args below meth c F hr)
