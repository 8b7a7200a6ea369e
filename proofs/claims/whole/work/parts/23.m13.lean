def rm_X12_most_ : Room := { frames := 8, cells := 0, slots := 0, locals := 164 }
theorem dX12_most__0 : decode cX12_most_ 0 = .ok (.aload_n 0, 1) := by decide +kernel
theorem dX12_most__1 : decode cX12_most_ 1 = .ok (.getfield 36, 3) := by decide +kernel
theorem dX12_most__4 : decode cX12_most_ 4 = .ok (.iconst 3, 1) := by decide +kernel
theorem dX12_most__5 : decode cX12_most_ 5 = .ok (.iaload, 1) := by decide +kernel
theorem dX12_most__6 : decode cX12_most_ 6 = .ok (.istore_n 1, 1) := by decide +kernel
theorem dX12_most__7 : decode cX12_most_ 7 = .ok (.bipush (-5), 2) := by decide +kernel
theorem dX12_most__9 : decode cX12_most_ 9 = .ok (.istore_n 2, 1) := by decide +kernel
theorem dX12_most__10 : decode cX12_most_ 10 = .ok (.sipush 999, 3) := by decide +kernel
theorem dX12_most__13 : decode cX12_most_ 13 = .ok (.istore_n 3, 1) := by decide +kernel
theorem dX12_most__14 : decode cX12_most_ 14 = .ok (.iload_n 3, 1) := by decide +kernel
theorem dX12_most__15 : decode cX12_most_ 15 = .ok (.ifCond .lt 36, 3) := by decide +kernel
theorem dX12_most__18 : decode cX12_most_ 18 = .ok (.iload_n 2, 1) := by decide +kernel
theorem dX12_most__19 : decode cX12_most_ 19 = .ok (.bipush (-5), 2) := by decide +kernel
theorem dX12_most__21 : decode cX12_most_ 21 = .ok (.if_icmp .ne 30, 3) := by decide +kernel
theorem dX12_most__24 : decode cX12_most_ 24 = .ok (.aload_n 0, 1) := by decide +kernel
theorem dX12_most__25 : decode cX12_most_ 25 = .ok (.getfield 36, 3) := by decide +kernel
theorem dX12_most__28 : decode cX12_most_ 28 = .ok (.iconst 3, 1) := by decide +kernel
theorem dX12_most__29 : decode cX12_most_ 29 = .ok (.iload_n 3, 1) := by decide +kernel
theorem dX12_most__30 : decode cX12_most_ 30 = .ok (.iastore, 1) := by decide +kernel
theorem dX12_most__31 : decode cX12_most_ 31 = .ok (.aload_n 0, 1) := by decide +kernel
theorem dX12_most__32 : decode cX12_most_ 32 = .ok (.invokevirtual 244, 3) := by decide +kernel
theorem dX12_most__35 : decode cX12_most_ 35 = .ok (.ifCond .eq 7, 3) := by decide +kernel
theorem dX12_most__38 : decode cX12_most_ 38 = .ok (.iload_n 3, 1) := by decide +kernel
theorem dX12_most__39 : decode cX12_most_ 39 = .ok (.goto 5, 3) := by decide +kernel
theorem dX12_most__42 : decode cX12_most_ 42 = .ok (.bipush (-5), 2) := by decide +kernel
theorem dX12_most__44 : decode cX12_most_ 44 = .ok (.istore_n 2, 1) := by decide +kernel
theorem dX12_most__45 : decode cX12_most_ 45 = .ok (.iinc 3 (-1), 3) := by decide +kernel
theorem dX12_most__48 : decode cX12_most_ 48 = .ok (.goto (-34), 3) := by decide +kernel
theorem dX12_most__51 : decode cX12_most_ 51 = .ok (.aload_n 0, 1) := by decide +kernel
theorem dX12_most__52 : decode cX12_most_ 52 = .ok (.getfield 36, 3) := by decide +kernel
theorem dX12_most__55 : decode cX12_most_ 55 = .ok (.iconst 3, 1) := by decide +kernel
theorem dX12_most__56 : decode cX12_most_ 56 = .ok (.iload_n 1, 1) := by decide +kernel
theorem dX12_most__57 : decode cX12_most_ 57 = .ok (.iastore, 1) := by decide +kernel
theorem dX12_most__58 : decode cX12_most_ 58 = .ok (.iload_n 2, 1) := by decide +kernel
theorem dX12_most__59 : decode cX12_most_ 59 = .ok (.ireturn, 1) := by decide +kernel
def l_X12_most__14 (S : SH) (a0 : Nat) (a1 : Int32) (k14 : (Int32 × Int32 × Mem) → Option (Int32 × Mem)) (x : (Int32 × Int32 × Mem)) : Option (Int32 × Mem) :=
 (if x.2.1 < 0 then
 (gR S 12 a0 9).bind fun v3 =>
 (sI S v3 3 a1 x.2.2).bind fun ν4 =>
 some (x.1, ν4)
 else
 (if x.1 = (-5) then
 (gR S 12 a0 9).bind fun v7 =>
 (sI S v7 3 x.2.1 x.2.2).bind fun ν8 =>
 (f_X12_may S a0 ν8).bind fun q9 =>
 (if q9.1 = 0 then
 k14 ((-5), x.2.1 + (-1), q9.2)
 else
 k14 (x.2.1, x.2.1 + (-1), q9.2))
 else
 (gR S 12 a0 9).bind fun v5 =>
 (sI S v5 3 a1 x.2.2).bind fun ν6 =>
 some (x.1, ν6)))
set_option maxRecDepth 100000 in
set_option maxHeartbeats 4000000 in
theorem t_X12_most__14 {γ : GE} {p : Program} {l : Launch} {e : Env} {s : State} {m : MethodId} {args : Array Value} {below : List Frame} {meth : Method} {c : Code} {S : SH} {X : (Int32 × Mem)} (F : FX γ p s m args meth c cX12_most_ RX12 4) (hr : meth.sig.returnType = (some .int)) (a0 : Nat) (a1 : Int32) (k14 : (Int32 × Int32 × Mem) → Option (Int32 × Mem)) (hk14 : ∀ (x14_2 : Int32) (x14_3 : Int32) (ν : Mem), k14 (x14_2, x14_3, ν) = some X → JJ γ p l e rm_X12_most_ s m args below meth c 4 0 0 (QI below γ S X args s 0 0) S ν 14 [(0, .ref (gb γ + a0)), (1, .int a1), (2, .int x14_2), (3, .int x14_3)] []) (x : (Int32 × Int32 × Mem)) (h : l_X12_most__14 S a0 a1 k14 x = some X) : JJ γ p l e rm_X12_most_ s m args below meth c 4 0 0 (QI below γ S X args s 0 0) S x.2.2 14 [(0, .ref (gb γ + a0)), (1, .int a1), (2, .int x.1), (3, .int x.2.1)] [] := by
  unfold l_X12_most__14 at h
  refine j_iload_n F 3 dX12_most__14 rfl ?_
  refine j_iflt F 51 dX12_most__15 (by decide) h (fun _ h => ?_) (fun _ h => ?_)
  · refine j_aload_n F 0 dX12_most__51 rfl ?_
    refine j_gR F fl_RX12_36 rfl dX12_most__52 h (fun v3 h => ?_)
    refine j_iconst F 3 dX12_most__55 (by decide) ?_
    refine j_iload_n F 1 dX12_most__56 rfl ?_
    refine j_iast F dX12_most__57 h (fun ν4 h => ?_)
    refine j_iload_n F 2 dX12_most__58 rfl ?_
    exact j_iret F hr dX12_most__59 h
  · refine j_iload_n F 2 dX12_most__18 rfl ?_
    refine j_bipush F (-5) dX12_most__19 (by decide) ?_
    refine j_icmpne F 51 dX12_most__21 (by decide) h (fun _ h => ?_) (fun _ h => ?_)
    · refine j_aload_n F 0 dX12_most__51 rfl ?_
      refine j_gR F fl_RX12_36 rfl dX12_most__52 h (fun v5 h => ?_)
      refine j_iconst F 3 dX12_most__55 (by decide) ?_
      refine j_iload_n F 1 dX12_most__56 rfl ?_
      refine j_iast F dX12_most__57 h (fun ν6 h => ?_)
      refine j_iload_n F 2 dX12_most__58 rfl ?_
      exact j_iret F hr dX12_most__59 h
    · refine j_aload_n F 0 dX12_most__24 rfl ?_
      refine j_gR F fl_RX12_36 rfl dX12_most__25 h (fun v7 h => ?_)
      refine j_iconst F 3 dX12_most__28 (by decide) ?_
      refine j_iload_n F 3 dX12_most__29 rfl ?_
      refine j_iast F dX12_most__30 h (fun ν8 h => ?_)
      refine j_aload_n F 0 dX12_most__31 rfl ?_
      refine j_cVI F mi_X12_may w_1308 (rest := []) h (fun _ g => c_X12_may g) rfl rfl (Nat.le_of_ble_eq_true rfl) ⟨Nat.le_of_ble_eq_true rfl, Nat.le_of_ble_eq_true rfl⟩ ⟨Nat.le_of_ble_eq_true rfl, Nat.le_of_ble_eq_true rfl⟩ dX12_most__32 (fun q9 h => ?_)
      refine j_ifeq F 42 dX12_most__35 (by decide) h (fun _ h => ?_) (fun _ h => ?_)
      · refine j_bipush F (-5) dX12_most__42 (by decide) ?_
        refine j_istore_n F [(2, .int (-5)), (0, .ref (gb γ + a0)), (1, .int a1), (3, .int x.2.1)] dX12_most__44 rfl (by decide) rfl ?_
        refine j_iinc F (-1) 3 [(3, .int (x.2.1 + (-1))), (2, .int (-5)), (0, .ref (gb γ + a0)), (1, .int a1)] dX12_most__45 rfl (by decide) (by decide) rfl ?_
        refine j_goto F 14 dX12_most__48 (by decide) ?_
        refine j_lv [(0, .ref (gb γ + a0)), (1, .int a1), (2, .int (-5)), (3, .int (x.2.1 + (-1)))] [2, 3, 1, 0] rfl ?_
        exact hk14 _ _ _ h
      · refine j_iload_n F 3 dX12_most__38 rfl ?_
        refine j_goto F 44 dX12_most__39 (by decide) ?_
        refine j_istore_n F [(2, .int x.2.1), (0, .ref (gb γ + a0)), (1, .int a1), (3, .int x.2.1)] dX12_most__44 rfl (by decide) rfl ?_
        refine j_iinc F (-1) 3 [(3, .int (x.2.1 + (-1))), (2, .int x.2.1), (0, .ref (gb γ + a0)), (1, .int a1)] dX12_most__45 rfl (by decide) (by decide) rfl ?_
        refine j_goto F 14 dX12_most__48 (by decide) ?_
        refine j_lv [(0, .ref (gb γ + a0)), (1, .int a1), (2, .int x.2.1), (3, .int (x.2.1 + (-1)))] [2, 3, 1, 0] rfl ?_
        exact hk14 _ _ _ h
theorem s_X12_most__14 {γ : GE} {p : Program} {l : Launch} {e : Env} {s : State} {m : MethodId} {args : Array Value} {below : List Frame} {meth : Method} {c : Code} {S : SH} {X : (Int32 × Mem)} (F : FX γ p s m args meth c cX12_most_ RX12 4) (hr : meth.sig.returnType = (some .int)) (a0 : Nat) (a1 : Int32) (x14_2 : Int32) (x14_3 : Int32) (ν : Mem) (h : lpN (l_X12_most__14 S a0 a1) fu (x14_2, x14_3, ν) = some X) : JJ γ p l e rm_X12_most_ s m args below meth c 4 0 0 (QI below γ S X args s 0 0) S ν 14 [(0, .ref (gb γ + a0)), (1, .int a1), (2, .int x14_2), (3, .int x14_3)] [] :=
 lpN_sound (fun x => JJ γ p l e rm_X12_most_ s m args below meth c 4 0 0 (QI below γ S X args s 0 0) S x.2.2 14 [(0, .ref (gb γ + a0)), (1, .int a1), (2, .int x.1), (3, .int x.2.1)] []) (fun k14 hk14 x h => t_X12_most__14 F hr a0 a1 k14 (fun x14_2 x14_3 ν h => hk14 (x14_2, x14_3, ν) h) x h) fu (x14_2, x14_3, ν) h
def f_X12_most_ (S : SH) (a0 : Nat) (μ : Mem) : Option (Int32 × Mem) :=
  if isO S 12 a0 = true then
  (gR S 12 a0 9).bind fun v1 =>
  (aI S .int v1 3 μ).bind fun v2 =>
  lpN (l_X12_most__14 S  a0 v2) fu ((-5), 999, μ)
  else none
set_option maxRecDepth 100000 in
set_option maxHeartbeats 4000000 in
theorem c_X12_most_ {l : Launch} {γ : GE} {S : SH} {a0 : Nat} {μ : Mem} {X : (Int32 × Mem)} (h : f_X12_most_ S a0 μ = some X) : isO S 12 a0 = true ∧ Ct l γ yX12_most_ cX12_most_ 4 (some .int) rm_X12_most_ [.ref (gb γ + a0)] S μ S X.2 (some (.int X.1)) := by
  unfold f_X12_most_ at h
  obtain ⟨h0, h⟩ := if_some h
  refine ⟨h0, ?_⟩
  have hJ : ∀ (p : Program) (e : Env) (s : State) (m : MethodId) (args : Array Value) (below : List Frame) (meth : Method) (c : Code), FX γ p s m args meth c cX12_most_ RX12 4 → meth.sig.returnType = (some .int) → JJ γ p l e rm_X12_most_ s m args below meth c 4 0 0 (QI below γ S X args s 0 0) S μ 0 [(0, .ref (gb γ + a0))] [] := by
    intro p e s m args below meth c F hr
    refine j_aload_n F 0 dX12_most__0 rfl ?_
    refine j_gR F fl_RX12_36 rfl dX12_most__1 h (fun v1 h => ?_)
    refine j_iconst F 3 dX12_most__4 (by decide) ?_
    refine j_iald F dX12_most__5 h (fun v2 h => ?_)
    refine j_istore_n F [(1, .int v2), (0, .ref (gb γ + a0))] dX12_most__6 rfl (by decide) rfl ?_
    refine j_bipush F (-5) dX12_most__7 (by decide) ?_
    refine j_istore_n F [(2, .int (-5)), (1, .int v2), (0, .ref (gb γ + a0))] dX12_most__9 rfl (by decide) rfl ?_
    refine j_sipush F 999 dX12_most__10 (by decide) ?_
    refine j_istore_n F [(3, .int 999), (2, .int (-5)), (1, .int v2), (0, .ref (gb γ + a0))] dX12_most__13 rfl (by decide) rfl ?_
    refine j_lv [(0, .ref (gb γ + a0)), (1, .int v2), (2, .int (-5)), (3, .int 999)] [3, 2, 1, 0] rfl ?_
    exact s_X12_most__14 F hr _ _ _ _ _ h
  exact ct_of (by decide +kernel) (Nat.le_of_ble_eq_true rfl) (fun p e s m args below meth c F hr _ => hJ p e s m args below meth c F hr)
def rm_X12_mayAt : Room := { frames := 8, cells := 0, slots := 0, locals := 164 }
theorem dX12_mayAt_0 : decode cX12_mayAt 0 = .ok (.aload_n 0, 1) := by decide +kernel
theorem dX12_mayAt_1 : decode cX12_mayAt 1 = .ok (.getfield 36, 3) := by decide +kernel
theorem dX12_mayAt_4 : decode cX12_mayAt 4 = .ok (.iconst 0, 1) := by decide +kernel
theorem dX12_mayAt_5 : decode cX12_mayAt 5 = .ok (.iaload, 1) := by decide +kernel
theorem dX12_mayAt_6 : decode cX12_mayAt 6 = .ok (.istore_n 3, 1) := by decide +kernel
theorem dX12_mayAt_7 : decode cX12_mayAt 7 = .ok (.aload_n 0, 1) := by decide +kernel
theorem dX12_mayAt_8 : decode cX12_mayAt 8 = .ok (.getfield 36, 3) := by decide +kernel
theorem dX12_mayAt_11 : decode cX12_mayAt 11 = .ok (.iconst 1, 1) := by decide +kernel
theorem dX12_mayAt_12 : decode cX12_mayAt 12 = .ok (.iaload, 1) := by decide +kernel
theorem dX12_mayAt_13 : decode cX12_mayAt 13 = .ok (.istore 4, 2) := by decide +kernel
theorem dX12_mayAt_15 : decode cX12_mayAt 15 = .ok (.aload_n 0, 1) := by decide +kernel
theorem dX12_mayAt_16 : decode cX12_mayAt 16 = .ok (.getfield 36, 3) := by decide +kernel
theorem dX12_mayAt_19 : decode cX12_mayAt 19 = .ok (.iconst 0, 1) := by decide +kernel
theorem dX12_mayAt_20 : decode cX12_mayAt 20 = .ok (.iload_n 1, 1) := by decide +kernel
theorem dX12_mayAt_21 : decode cX12_mayAt 21 = .ok (.iastore, 1) := by decide +kernel
theorem dX12_mayAt_22 : decode cX12_mayAt 22 = .ok (.aload_n 0, 1) := by decide +kernel
theorem dX12_mayAt_23 : decode cX12_mayAt 23 = .ok (.getfield 36, 3) := by decide +kernel
theorem dX12_mayAt_26 : decode cX12_mayAt 26 = .ok (.iconst 1, 1) := by decide +kernel
theorem dX12_mayAt_27 : decode cX12_mayAt 27 = .ok (.iload_n 2, 1) := by decide +kernel
theorem dX12_mayAt_28 : decode cX12_mayAt 28 = .ok (.iastore, 1) := by decide +kernel
theorem dX12_mayAt_29 : decode cX12_mayAt 29 = .ok (.aload_n 0, 1) := by decide +kernel
theorem dX12_mayAt_30 : decode cX12_mayAt 30 = .ok (.invokevirtual 244, 3) := by decide +kernel
theorem dX12_mayAt_33 : decode cX12_mayAt 33 = .ok (.istore 5, 2) := by decide +kernel
theorem dX12_mayAt_35 : decode cX12_mayAt 35 = .ok (.aload_n 0, 1) := by decide +kernel
theorem dX12_mayAt_36 : decode cX12_mayAt 36 = .ok (.getfield 36, 3) := by decide +kernel
theorem dX12_mayAt_39 : decode cX12_mayAt 39 = .ok (.iconst 0, 1) := by decide +kernel
theorem dX12_mayAt_40 : decode cX12_mayAt 40 = .ok (.iload_n 3, 1) := by decide +kernel
theorem dX12_mayAt_41 : decode cX12_mayAt 41 = .ok (.iastore, 1) := by decide +kernel
theorem dX12_mayAt_42 : decode cX12_mayAt 42 = .ok (.aload_n 0, 1) := by decide +kernel
theorem dX12_mayAt_43 : decode cX12_mayAt 43 = .ok (.getfield 36, 3) := by decide +kernel
theorem dX12_mayAt_46 : decode cX12_mayAt 46 = .ok (.iconst 1, 1) := by decide +kernel
theorem dX12_mayAt_47 : decode cX12_mayAt 47 = .ok (.iload 4, 2) := by decide +kernel
theorem dX12_mayAt_49 : decode cX12_mayAt 49 = .ok (.iastore, 1) := by decide +kernel
theorem dX12_mayAt_50 : decode cX12_mayAt 50 = .ok (.iload 5, 2) := by decide +kernel
theorem dX12_mayAt_52 : decode cX12_mayAt 52 = .ok (.ireturn, 1) := by decide +kernel
def f_X12_mayAt (S : SH) (a0 : Nat) (a1 : Int32) (a2 : Int32) (μ : Mem) : Option (Int32 × Mem) :=
  if isO S 12 a0 = true then
  (gR S 12 a0 9).bind fun v1 =>
  (aI S .int v1 0 μ).bind fun v2 =>
  (gR S 12 a0 9).bind fun v3 =>
  (aI S .int v3 1 μ).bind fun v4 =>
  (gR S 12 a0 9).bind fun v5 =>
  (sI S v5 0 a1 μ).bind fun ν6 =>
  (gR S 12 a0 9).bind fun v7 =>
  (sI S v7 1 a2 ν6).bind fun ν8 =>
  (f_X12_may S a0 ν8).bind fun q9 =>
  (gR S 12 a0 9).bind fun v10 =>
  (sI S v10 0 v2 q9.2).bind fun ν11 =>
  (gR S 12 a0 9).bind fun v12 =>
  (sI S v12 1 v4 ν11).bind fun ν13 =>
  (oz q9.1).bind fun z14 => some (z14, ν13)
  else none
set_option maxRecDepth 100000 in
set_option maxHeartbeats 4000000 in
theorem c_X12_mayAt {l : Launch} {γ : GE} {S : SH} {a0 : Nat} {a1 : Int32} {a2 : Int32} {μ : Mem} {X : (Int32 × Mem)} (h : f_X12_mayAt S a0 a1 a2 μ = some X) : isO S 12 a0 = true ∧ Ct l γ yX12_mayAt cX12_mayAt 6 (some .boolean) rm_X12_mayAt [.ref (gb γ + a0), .int a1, .int a2] S μ S X.2 (some (.int X.1)) := by
  unfold f_X12_mayAt at h
  obtain ⟨h0, h⟩ := if_some h
  refine ⟨h0, ?_⟩
  have hJ : ∀ (p : Program) (e : Env) (s : State) (m : MethodId) (args : Array Value) (below : List Frame) (meth : Method) (c : Code), FX γ p s m args meth c cX12_mayAt RX12 6 → meth.sig.returnType = (some .boolean) → JJ γ p l e rm_X12_mayAt s m args below meth c 6 0 0 (QI below γ S X args s 0 0) S μ 0 [(0, .ref (gb γ + a0)), (1, .int a1), (2, .int a2)] [] := by
    intro p e s m args below meth c F hr
    refine j_aload_n F 0 dX12_mayAt_0 rfl ?_
    refine j_gR F fl_RX12_36 rfl dX12_mayAt_1 h (fun v1 h => ?_)
    refine j_iconst F 0 dX12_mayAt_4 (by decide) ?_
    refine j_iald F dX12_mayAt_5 h (fun v2 h => ?_)
    refine j_istore_n F [(3, .int v2), (0, .ref (gb γ + a0)), (1, .int a1), (2, .int a2)] dX12_mayAt_6 rfl (by decide) rfl ?_
    refine j_aload_n F 1 dX12_mayAt_7 rfl ?_
    refine j_gR F fl_RX12_36 rfl dX12_mayAt_8 h (fun v3 h => ?_)
    refine j_iconst F 1 dX12_mayAt_11 (by decide) ?_
    refine j_iald F dX12_mayAt_12 h (fun v4 h => ?_)
    refine j_istore F [(4, .int v4), (3, .int v2), (0, .ref (gb γ + a0)), (1, .int a1), (2, .int a2)] dX12_mayAt_13 (by decide) rfl ?_
    refine j_aload_n F 2 dX12_mayAt_15 rfl ?_
    refine j_gR F fl_RX12_36 rfl dX12_mayAt_16 h (fun v5 h => ?_)
    refine j_iconst F 0 dX12_mayAt_19 (by decide) ?_
    refine j_iload_n F 3 dX12_mayAt_20 rfl ?_
    refine j_iast F dX12_mayAt_21 h (fun ν6 h => ?_)
    refine j_aload_n F 2 dX12_mayAt_22 rfl ?_
    refine j_gR F fl_RX12_36 rfl dX12_mayAt_23 h (fun v7 h => ?_)
    refine j_iconst F 1 dX12_mayAt_26 (by decide) ?_
    refine j_iload_n F 4 dX12_mayAt_27 rfl ?_
    refine j_iast F dX12_mayAt_28 h (fun ν8 h => ?_)
    refine j_aload_n F 2 dX12_mayAt_29 rfl ?_
    refine j_cVI F mi_X12_may w_1308 (rest := []) h (fun _ g => c_X12_may g) rfl rfl (Nat.le_of_ble_eq_true rfl) ⟨Nat.le_of_ble_eq_true rfl, Nat.le_of_ble_eq_true rfl⟩ ⟨Nat.le_of_ble_eq_true rfl, Nat.le_of_ble_eq_true rfl⟩ dX12_mayAt_30 (fun q9 h => ?_)
    refine j_istore F [(5, .int q9.1), (4, .int v4), (3, .int v2), (0, .ref (gb γ + a0)), (1, .int a1), (2, .int a2)] dX12_mayAt_33 (by decide) rfl ?_
    refine j_aload_n F 3 dX12_mayAt_35 rfl ?_
    refine j_gR F fl_RX12_36 rfl dX12_mayAt_36 h (fun v10 h => ?_)
    refine j_iconst F 0 dX12_mayAt_39 (by decide) ?_
    refine j_iload_n F 2 dX12_mayAt_40 rfl ?_
    refine j_iast F dX12_mayAt_41 h (fun ν11 h => ?_)
    refine j_aload_n F 3 dX12_mayAt_42 rfl ?_
    refine j_gR F fl_RX12_36 rfl dX12_mayAt_43 h (fun v12 h => ?_)
    refine j_iconst F 1 dX12_mayAt_46 (by decide) ?_
    refine j_iload F 1 dX12_mayAt_47 rfl ?_
    refine j_iast F dX12_mayAt_49 h (fun ν13 h => ?_)
    refine j_iload F 0 dX12_mayAt_50 rfl ?_
    exact j_zretG F hr dX12_mayAt_52 h
  exact ct_of (by decide +kernel) (Nat.le_of_ble_eq_true rfl) (fun p e s m args below meth c F hr _ => hJ p e s m args below meth c F hr)
def rm_X12_where : Room := { frames := 9, cells := 0, slots := 0, locals := 189 }
theorem dX12_where_0 : decode cX12_where 0 = .ok (.iload_n 1, 1) := by decide +kernel
theorem dX12_where_1 : decode cX12_where 1 = .ok (.invokestatic 136, 3) := by decide +kernel
theorem dX12_where_4 : decode cX12_where 4 = .ok (.ifCond .ne 6, 3) := by decide +kernel
theorem dX12_where_7 : decode cX12_where 7 = .ok (.bipush (-2), 2) := by decide +kernel
theorem dX12_where_9 : decode cX12_where 9 = .ok (.ireturn, 1) := by decide +kernel
theorem dX12_where_10 : decode cX12_where 10 = .ok (.iconst 0, 1) := by decide +kernel
theorem dX12_where_11 : decode cX12_where 11 = .ok (.istore_n 2, 1) := by decide +kernel
theorem dX12_where_12 : decode cX12_where 12 = .ok (.iconst 0, 1) := by decide +kernel
theorem dX12_where_13 : decode cX12_where 13 = .ok (.istore_n 3, 1) := by decide +kernel
theorem dX12_where_14 : decode cX12_where 14 = .ok (.iload_n 3, 1) := by decide +kernel
theorem dX12_where_15 : decode cX12_where 15 = .ok (.bipush 20, 2) := by decide +kernel
theorem dX12_where_17 : decode cX12_where 17 = .ok (.if_icmp .ge 28, 3) := by decide +kernel
theorem dX12_where_20 : decode cX12_where 20 = .ok (.iload_n 2, 1) := by decide +kernel
theorem dX12_where_21 : decode cX12_where 21 = .ok (.aload_n 0, 1) := by decide +kernel
theorem dX12_where_22 : decode cX12_where 22 = .ok (.iload_n 3, 1) := by decide +kernel
theorem dX12_where_23 : decode cX12_where 23 = .ok (.iload_n 1, 1) := by decide +kernel
theorem dX12_where_24 : decode cX12_where 24 = .ok (.invokevirtual 247, 3) := by decide +kernel
theorem dX12_where_27 : decode cX12_where 27 = .ok (.ifCond .eq 9, 3) := by decide +kernel
theorem dX12_where_30 : decode cX12_where 30 = .ok (.iconst 1, 1) := by decide +kernel
theorem dX12_where_31 : decode cX12_where 31 = .ok (.iload_n 3, 1) := by decide +kernel
theorem dX12_where_32 : decode cX12_where 32 = .ok (.ishl, 1) := by decide +kernel
theorem dX12_where_33 : decode cX12_where 33 = .ok (.goto 4, 3) := by decide +kernel
theorem dX12_where_36 : decode cX12_where 36 = .ok (.iconst 0, 1) := by decide +kernel
theorem dX12_where_37 : decode cX12_where 37 = .ok (.ior, 1) := by decide +kernel
theorem dX12_where_38 : decode cX12_where 38 = .ok (.istore_n 2, 1) := by decide +kernel
theorem dX12_where_39 : decode cX12_where 39 = .ok (.iinc 3 1, 3) := by decide +kernel
theorem dX12_where_42 : decode cX12_where 42 = .ok (.goto (-28), 3) := by decide +kernel
theorem dX12_where_45 : decode cX12_where 45 = .ok (.iload_n 2, 1) := by decide +kernel
theorem dX12_where_46 : decode cX12_where 46 = .ok (.ireturn, 1) := by decide +kernel
def l_X12_where_14 (S : SH) (a0 : Nat) (a1 : Int32) (k14 : (Int32 × Int32 × Mem) → Option (Int32 × Mem)) (x : (Int32 × Int32 × Mem)) : Option (Int32 × Mem) :=
 (if 20 ≤ x.2.1 then
 some (x.1, x.2.2)
 else
 (f_X12_mayAt S a0 x.2.1 a1 x.2.2).bind fun q2 =>
 (if q2.1 = 0 then
 (some (x.1 ||| 0)).bind fun y3 =>
 k14 (y3, x.2.1 + 1, q2.2)
 else
 (some (x.1 ||| (1 <<< (x.2.1 &&& 31)))).bind fun y4 =>
 k14 (y4, x.2.1 + 1, q2.2)))
set_option maxRecDepth 100000 in
set_option maxHeartbeats 4000000 in
theorem t_X12_where_14 {γ : GE} {p : Program} {l : Launch} {e : Env} {s : State} {m : MethodId} {args : Array Value} {below : List Frame} {meth : Method} {c : Code} {S : SH} {X : (Int32 × Mem)} (F : FX γ p s m args meth c cX12_where RX12 4) (hr : meth.sig.returnType = (some .int)) (a0 : Nat) (a1 : Int32) (k14 : (Int32 × Int32 × Mem) → Option (Int32 × Mem)) (hk14 : ∀ (x14_2 : Int32) (x14_3 : Int32) (ν : Mem), k14 (x14_2, x14_3, ν) = some X → JJ γ p l e rm_X12_where s m args below meth c 4 0 0 (QI below γ S X args s 0 0) S ν 14 [(0, .ref (gb γ + a0)), (1, .int a1), (2, .int x14_2), (3, .int x14_3)] []) (x : (Int32 × Int32 × Mem)) (h : l_X12_where_14 S a0 a1 k14 x = some X) : JJ γ p l e rm_X12_where s m args below meth c 4 0 0 (QI below γ S X args s 0 0) S x.2.2 14 [(0, .ref (gb γ + a0)), (1, .int a1), (2, .int x.1), (3, .int x.2.1)] [] := by
  unfold l_X12_where_14 at h
  refine j_iload_n F 3 dX12_where_14 rfl ?_
  refine j_bipush F 20 dX12_where_15 (by decide) ?_
  refine j_icmpge F 45 dX12_where_17 (by decide) h (fun _ h => ?_) (fun _ h => ?_)
  · refine j_iload_n F 2 dX12_where_45 rfl ?_
    exact j_iret F hr dX12_where_46 h
  · refine j_iload_n F 2 dX12_where_20 rfl ?_
    refine j_aload_n F 0 dX12_where_21 rfl ?_
    refine j_iload_n F 3 dX12_where_22 rfl ?_
    refine j_iload_n F 1 dX12_where_23 rfl ?_
    refine j_cVI F mi_X12_mayAt w_1316 (rest := [.int x.1]) h (fun _ g => c_X12_mayAt g) rfl rfl (Nat.le_of_ble_eq_true rfl) ⟨Nat.le_of_ble_eq_true rfl, Nat.le_of_ble_eq_true rfl⟩ ⟨Nat.le_of_ble_eq_true rfl, Nat.le_of_ble_eq_true rfl⟩ dX12_where_24 (fun q2 h => ?_)
    refine j_ifeq F 36 dX12_where_27 (by decide) h (fun _ h => ?_) (fun _ h => ?_)
    · refine j_iconst F 0 dX12_where_36 (by decide) ?_
      refine j_ior F dX12_where_37 ?_
      refine j_nmI h (fun y3 h => ?_)
      refine j_istore_n F [(2, .int y3), (0, .ref (gb γ + a0)), (1, .int a1), (3, .int x.2.1)] dX12_where_38 rfl (by decide) rfl ?_
      refine j_iinc F 1 3 [(3, .int (x.2.1 + 1)), (2, .int y3), (0, .ref (gb γ + a0)), (1, .int a1)] dX12_where_39 rfl (by decide) (by decide) rfl ?_
      refine j_goto F 14 dX12_where_42 (by decide) ?_
      refine j_lv [(0, .ref (gb γ + a0)), (1, .int a1), (2, .int y3), (3, .int (x.2.1 + 1))] [2, 3, 1, 0] rfl ?_
      exact hk14 _ _ _ h
    · refine j_iconst F 1 dX12_where_30 (by decide) ?_
      refine j_iload_n F 3 dX12_where_31 rfl ?_
      refine j_ishl F dX12_where_32 ?_
      refine j_goto F 37 dX12_where_33 (by decide) ?_
      refine j_ior F dX12_where_37 ?_
      refine j_nmI h (fun y4 h => ?_)
      refine j_istore_n F [(2, .int y4), (0, .ref (gb γ + a0)), (1, .int a1), (3, .int x.2.1)] dX12_where_38 rfl (by decide) rfl ?_
      refine j_iinc F 1 3 [(3, .int (x.2.1 + 1)), (2, .int y4), (0, .ref (gb γ + a0)), (1, .int a1)] dX12_where_39 rfl (by decide) (by decide) rfl ?_
      refine j_goto F 14 dX12_where_42 (by decide) ?_
      refine j_lv [(0, .ref (gb γ + a0)), (1, .int a1), (2, .int y4), (3, .int (x.2.1 + 1))] [2, 3, 1, 0] rfl ?_
      exact hk14 _ _ _ h
theorem s_X12_where_14 {γ : GE} {p : Program} {l : Launch} {e : Env} {s : State} {m : MethodId} {args : Array Value} {below : List Frame} {meth : Method} {c : Code} {S : SH} {X : (Int32 × Mem)} (F : FX γ p s m args meth c cX12_where RX12 4) (hr : meth.sig.returnType = (some .int)) (a0 : Nat) (a1 : Int32) (x14_2 : Int32) (x14_3 : Int32) (ν : Mem) (h : lpN (l_X12_where_14 S a0 a1) fu (x14_2, x14_3, ν) = some X) : JJ γ p l e rm_X12_where s m args below meth c 4 0 0 (QI below γ S X args s 0 0) S ν 14 [(0, .ref (gb γ + a0)), (1, .int a1), (2, .int x14_2), (3, .int x14_3)] [] :=
 lpN_sound (fun x => JJ γ p l e rm_X12_where s m args below meth c 4 0 0 (QI below γ S X args s 0 0) S x.2.2 14 [(0, .ref (gb γ + a0)), (1, .int a1), (2, .int x.1), (3, .int x.2.1)] []) (fun k14 hk14 x h => t_X12_where_14 F hr a0 a1 k14 (fun x14_2 x14_3 ν h => hk14 (x14_2, x14_3, ν) h) x h) fu (x14_2, x14_3, ν) h
def f_X12_where (S : SH) (a0 : Nat) (a1 : Int32) (μ : Mem) : Option (Int32 × Mem) :=
  if isO S 12 a0 = true then
  (f_X12_isReach S a1 μ).bind fun q1 =>
  (if q1.1 = 0 then
  some ((-2), q1.2)
  else
  lpN (l_X12_where_14 S  a0 a1) fu (0, 0, q1.2))
  else none
set_option maxRecDepth 100000 in
set_option maxHeartbeats 4000000 in
theorem c_X12_where {l : Launch} {γ : GE} {S : SH} {a0 : Nat} {a1 : Int32} {μ : Mem} {X : (Int32 × Mem)} (h : f_X12_where S a0 a1 μ = some X) : isO S 12 a0 = true ∧ Ct l γ yX12_where cX12_where 4 (some .int) rm_X12_where [.ref (gb γ + a0), .int a1] S μ S X.2 (some (.int X.1)) := by
  unfold f_X12_where at h
  obtain ⟨h0, h⟩ := if_some h
  refine ⟨h0, ?_⟩
  have hJ : ∀ (p : Program) (e : Env) (s : State) (m : MethodId) (args : Array Value) (below : List Frame) (meth : Method) (c : Code), FX γ p s m args meth c cX12_where RX12 4 → meth.sig.returnType = (some .int) → JJ γ p l e rm_X12_where s m args below meth c 4 0 0 (QI below γ S X args s 0 0) S μ 0 [(0, .ref (gb γ + a0)), (1, .int a1)] [] := by
    intro p e s m args below meth c F hr
    refine j_iload_n F 1 dX12_where_0 rfl ?_
    refine j_cSI F mi_X12_isReach w_1160 (rest := []) h (fun _ g => c_X12_isReach g) rfl rfl (Nat.le_of_ble_eq_true rfl) ⟨Nat.le_of_ble_eq_true rfl, Nat.le_of_ble_eq_true rfl⟩ ⟨Nat.le_of_ble_eq_true rfl, Nat.le_of_ble_eq_true rfl⟩ dX12_where_1 (fun q1 h => ?_)
    refine j_ifne F 10 dX12_where_4 (by decide) h (fun _ h => ?_) (fun _ h => ?_)
    · refine j_iconst F 0 dX12_where_10 (by decide) ?_
      refine j_istore_n F [(2, .int 0), (0, .ref (gb γ + a0)), (1, .int a1)] dX12_where_11 rfl (by decide) rfl ?_
      refine j_iconst F 0 dX12_where_12 (by decide) ?_
      refine j_istore_n F [(3, .int 0), (2, .int 0), (0, .ref (gb γ + a0)), (1, .int a1)] dX12_where_13 rfl (by decide) rfl ?_
      refine j_lv [(0, .ref (gb γ + a0)), (1, .int a1), (2, .int 0), (3, .int 0)] [2, 3, 1, 0] rfl ?_
      exact s_X12_where_14 F hr _ _ _ _ _ h
    · refine j_bipush F (-2) dX12_where_7 (by decide) ?_
      exact j_iret F hr dX12_where_9 h
  exact ct_of (by decide +kernel) (Nat.le_of_ble_eq_true rfl) (fun p e s m args below meth c F hr _ => hJ p e s m args below meth c F hr)
def rm_X12_farthest : Room := { frames := 9, cells := 0, slots := 0, locals := 189 }
theorem dX12_farthest_0 : decode cX12_farthest 0 = .ok (.iload_n 1, 1) := by decide +kernel
theorem dX12_farthest_1 : decode cX12_farthest 1 = .ok (.invokestatic 162, 3) := by decide +kernel
theorem dX12_farthest_4 : decode cX12_farthest 4 = .ok (.ifCond .ne 5, 3) := by decide +kernel
theorem dX12_farthest_7 : decode cX12_farthest 7 = .ok (.iconst (-1), 1) := by decide +kernel
theorem dX12_farthest_8 : decode cX12_farthest 8 = .ok (.ireturn, 1) := by decide +kernel
theorem dX12_farthest_9 : decode cX12_farthest 9 = .ok (.bipush 60, 2) := by decide +kernel
theorem dX12_farthest_11 : decode cX12_farthest 11 = .ok (.istore_n 2, 1) := by decide +kernel
theorem dX12_farthest_12 : decode cX12_farthest 12 = .ok (.iload_n 2, 1) := by decide +kernel
theorem dX12_farthest_13 : decode cX12_farthest 13 = .ok (.ifCond .lt 20, 3) := by decide +kernel
theorem dX12_farthest_16 : decode cX12_farthest 16 = .ok (.aload_n 0, 1) := by decide +kernel
theorem dX12_farthest_17 : decode cX12_farthest 17 = .ok (.iload_n 1, 1) := by decide +kernel
theorem dX12_farthest_18 : decode cX12_farthest 18 = .ok (.iload_n 2, 1) := by decide +kernel
theorem dX12_farthest_19 : decode cX12_farthest 19 = .ok (.invokevirtual 247, 3) := by decide +kernel
theorem dX12_farthest_22 : decode cX12_farthest 22 = .ok (.ifCond .eq 5, 3) := by decide +kernel
theorem dX12_farthest_25 : decode cX12_farthest 25 = .ok (.iload_n 2, 1) := by decide +kernel
theorem dX12_farthest_26 : decode cX12_farthest 26 = .ok (.ireturn, 1) := by decide +kernel
theorem dX12_farthest_27 : decode cX12_farthest 27 = .ok (.iinc 2 (-1), 3) := by decide +kernel
theorem dX12_farthest_30 : decode cX12_farthest 30 = .ok (.goto (-18), 3) := by decide +kernel
theorem dX12_farthest_33 : decode cX12_farthest 33 = .ok (.bipush (-5), 2) := by decide +kernel
theorem dX12_farthest_35 : decode cX12_farthest 35 = .ok (.ireturn, 1) := by decide +kernel
def l_X12_farthest_12 (S : SH) (a0 : Nat) (a1 : Int32) (k12 : (Int32 × Mem) → Option (Int32 × Mem)) (x : (Int32 × Mem)) : Option (Int32 × Mem) :=
 (if x.1 < 0 then
 some ((-5), x.2)
 else
 (f_X12_mayAt S a0 a1 x.1 x.2).bind fun q2 =>
 (if q2.1 = 0 then
 k12 (x.1 + (-1), q2.2)
 else
 some (x.1, q2.2)))
set_option maxRecDepth 100000 in
set_option maxHeartbeats 4000000 in
theorem t_X12_farthest_12 {γ : GE} {p : Program} {l : Launch} {e : Env} {s : State} {m : MethodId} {args : Array Value} {below : List Frame} {meth : Method} {c : Code} {S : SH} {X : (Int32 × Mem)} (F : FX γ p s m args meth c cX12_farthest RX12 3) (hr : meth.sig.returnType = (some .int)) (a0 : Nat) (a1 : Int32) (k12 : (Int32 × Mem) → Option (Int32 × Mem)) (hk12 : ∀ (x12_2 : Int32) (ν : Mem), k12 (x12_2, ν) = some X → JJ γ p l e rm_X12_farthest s m args below meth c 3 0 0 (QI below γ S X args s 0 0) S ν 12 [(0, .ref (gb γ + a0)), (1, .int a1), (2, .int x12_2)] []) (x : (Int32 × Mem)) (h : l_X12_farthest_12 S a0 a1 k12 x = some X) : JJ γ p l e rm_X12_farthest s m args below meth c 3 0 0 (QI below γ S X args s 0 0) S x.2 12 [(0, .ref (gb γ + a0)), (1, .int a1), (2, .int x.1)] [] := by
  unfold l_X12_farthest_12 at h
  refine j_iload_n F 2 dX12_farthest_12 rfl ?_
  refine j_iflt F 33 dX12_farthest_13 (by decide) h (fun _ h => ?_) (fun _ h => ?_)
  · refine j_bipush F (-5) dX12_farthest_33 (by decide) ?_
    exact j_iret F hr dX12_farthest_35 h
  · refine j_aload_n F 0 dX12_farthest_16 rfl ?_
    refine j_iload_n F 1 dX12_farthest_17 rfl ?_
    refine j_iload_n F 2 dX12_farthest_18 rfl ?_
    refine j_cVI F mi_X12_mayAt w_1316 (rest := []) h (fun _ g => c_X12_mayAt g) rfl rfl (Nat.le_of_ble_eq_true rfl) ⟨Nat.le_of_ble_eq_true rfl, Nat.le_of_ble_eq_true rfl⟩ ⟨Nat.le_of_ble_eq_true rfl, Nat.le_of_ble_eq_true rfl⟩ dX12_farthest_19 (fun q2 h => ?_)
    refine j_ifeq F 27 dX12_farthest_22 (by decide) h (fun _ h => ?_) (fun _ h => ?_)
    · refine j_iinc F (-1) 2 [(2, .int (x.1 + (-1))), (0, .ref (gb γ + a0)), (1, .int a1)] dX12_farthest_27 rfl (by decide) (by decide) rfl ?_
      refine j_goto F 12 dX12_farthest_30 (by decide) ?_
      refine j_lv [(0, .ref (gb γ + a0)), (1, .int a1), (2, .int (x.1 + (-1)))] [1, 2, 0] rfl ?_
      exact hk12 _ _ h
    · refine j_iload_n F 2 dX12_farthest_25 rfl ?_
      exact j_iret F hr dX12_farthest_26 h
theorem s_X12_farthest_12 {γ : GE} {p : Program} {l : Launch} {e : Env} {s : State} {m : MethodId} {args : Array Value} {below : List Frame} {meth : Method} {c : Code} {S : SH} {X : (Int32 × Mem)} (F : FX γ p s m args meth c cX12_farthest RX12 3) (hr : meth.sig.returnType = (some .int)) (a0 : Nat) (a1 : Int32) (x12_2 : Int32) (ν : Mem) (h : lpN (l_X12_farthest_12 S a0 a1) fu (x12_2, ν) = some X) : JJ γ p l e rm_X12_farthest s m args below meth c 3 0 0 (QI below γ S X args s 0 0) S ν 12 [(0, .ref (gb γ + a0)), (1, .int a1), (2, .int x12_2)] [] :=
 lpN_sound (fun x => JJ γ p l e rm_X12_farthest s m args below meth c 3 0 0 (QI below γ S X args s 0 0) S x.2 12 [(0, .ref (gb γ + a0)), (1, .int a1), (2, .int x.1)] []) (fun k12 hk12 x h => t_X12_farthest_12 F hr a0 a1 k12 (fun x12_2 ν h => hk12 (x12_2, ν) h) x h) fu (x12_2, ν) h
def f_X12_farthest (S : SH) (a0 : Nat) (a1 : Int32) (μ : Mem) : Option (Int32 × Mem) :=
  if isO S 12 a0 = true then
  (f_X12_isDirection S a1 μ).bind fun q1 =>
  (if q1.1 = 0 then
  some ((-1), q1.2)
  else
  lpN (l_X12_farthest_12 S  a0 a1) fu (60, q1.2))
  else none
set_option maxRecDepth 100000 in
set_option maxHeartbeats 4000000 in
theorem c_X12_farthest {l : Launch} {γ : GE} {S : SH} {a0 : Nat} {a1 : Int32} {μ : Mem} {X : (Int32 × Mem)} (h : f_X12_farthest S a0 a1 μ = some X) : isO S 12 a0 = true ∧ Ct l γ yX12_farthest cX12_farthest 3 (some .int) rm_X12_farthest [.ref (gb γ + a0), .int a1] S μ S X.2 (some (.int X.1)) := by
  unfold f_X12_farthest at h
  obtain ⟨h0, h⟩ := if_some h
  refine ⟨h0, ?_⟩
  have hJ : ∀ (p : Program) (e : Env) (s : State) (m : MethodId) (args : Array Value) (below : List Frame) (meth : Method) (c : Code), FX γ p s m args meth c cX12_farthest RX12 3 → meth.sig.returnType = (some .int) → JJ γ p l e rm_X12_farthest s m args below meth c 3 0 0 (QI below γ S X args s 0 0) S μ 0 [(0, .ref (gb γ + a0)), (1, .int a1)] [] := by
    intro p e s m args below meth c F hr
    refine j_iload_n F 1 dX12_farthest_0 rfl ?_
    refine j_cSI F mi_X12_isDirection w_1191 (rest := []) h (fun _ g => c_X12_isDirection g) rfl rfl (Nat.le_of_ble_eq_true rfl) ⟨Nat.le_of_ble_eq_true rfl, Nat.le_of_ble_eq_true rfl⟩ ⟨Nat.le_of_ble_eq_true rfl, Nat.le_of_ble_eq_true rfl⟩ dX12_farthest_1 (fun q1 h => ?_)
    refine j_ifne F 9 dX12_farthest_4 (by decide) h (fun _ h => ?_) (fun _ h => ?_)
    · refine j_bipush F 60 dX12_farthest_9 (by decide) ?_
      refine j_istore_n F [(2, .int 60), (0, .ref (gb γ + a0)), (1, .int a1)] dX12_farthest_11 rfl (by decide) rfl ?_
      refine j_lv [(0, .ref (gb γ + a0)), (1, .int a1), (2, .int 60)] [1, 2, 0] rfl ?_
      exact s_X12_farthest_12 F hr _ _ _ _ h
    · refine j_iconst F (-1) dX12_farthest_7 (by decide) ?_
      exact j_iret F hr dX12_farthest_8 h
  exact ct_of (by decide +kernel) (Nat.le_of_ble_eq_true rfl) (fun p e s m args below meth c F hr _ => hJ p e s m args below meth c F hr)
def rm_X12_comesTo : Room := { frames := 9, cells := 0, slots := 0, locals := 189 }
theorem dX12_comesTo_0 : decode cX12_comesTo 0 = .ok (.bipush 61, 2) := by decide +kernel
theorem dX12_comesTo_2 : decode cX12_comesTo 2 = .ok (.iload_n 1, 1) := by decide +kernel
theorem dX12_comesTo_3 : decode cX12_comesTo 3 = .ok (.imul, 1) := by decide +kernel
theorem dX12_comesTo_4 : decode cX12_comesTo 4 = .ok (.iload_n 2, 1) := by decide +kernel
theorem dX12_comesTo_5 : decode cX12_comesTo 5 = .ok (.iadd, 1) := by decide +kernel
theorem dX12_comesTo_6 : decode cX12_comesTo 6 = .ok (.istore 4, 2) := by decide +kernel
theorem dX12_comesTo_8 : decode cX12_comesTo 8 = .ok (.iload_n 2, 1) := by decide +kernel
theorem dX12_comesTo_9 : decode cX12_comesTo 9 = .ok (.invokestatic 136, 3) := by decide +kernel
theorem dX12_comesTo_12 : decode cX12_comesTo 12 = .ok (.ifCond .eq 14, 3) := by decide +kernel
theorem dX12_comesTo_15 : decode cX12_comesTo 15 = .ok (.aload_n 0, 1) := by decide +kernel
theorem dX12_comesTo_16 : decode cX12_comesTo 16 = .ok (.getfield 55, 3) := by decide +kernel
theorem dX12_comesTo_19 : decode cX12_comesTo 19 = .ok (.iload 4, 2) := by decide +kernel
theorem dX12_comesTo_21 : decode cX12_comesTo 21 = .ok (.iaload, 1) := by decide +kernel
theorem dX12_comesTo_22 : decode cX12_comesTo 22 = .ok (.iconst (-1), 1) := by decide +kernel
theorem dX12_comesTo_23 : decode cX12_comesTo 23 = .ok (.if_icmp .eq 4, 3) := by decide +kernel
theorem dX12_comesTo_26 : decode cX12_comesTo 26 = .ok (.return_, 1) := by decide +kernel
theorem dX12_comesTo_27 : decode cX12_comesTo 27 = .ok (.aload_n 0, 1) := by decide +kernel
theorem dX12_comesTo_28 : decode cX12_comesTo 28 = .ok (.getfield 55, 3) := by decide +kernel
theorem dX12_comesTo_31 : decode cX12_comesTo 31 = .ok (.iload 4, 2) := by decide +kernel
theorem dX12_comesTo_33 : decode cX12_comesTo 33 = .ok (.aload_n 0, 1) := by decide +kernel
theorem dX12_comesTo_34 : decode cX12_comesTo 34 = .ok (.iload_n 1, 1) := by decide +kernel
theorem dX12_comesTo_35 : decode cX12_comesTo 35 = .ok (.iload_n 2, 1) := by decide +kernel
theorem dX12_comesTo_36 : decode cX12_comesTo 36 = .ok (.invokevirtual 247, 3) := by decide +kernel
theorem dX12_comesTo_39 : decode cX12_comesTo 39 = .ok (.ifCond .eq 7, 3) := by decide +kernel
theorem dX12_comesTo_42 : decode cX12_comesTo 42 = .ok (.iload_n 3, 1) := by decide +kernel
theorem dX12_comesTo_43 : decode cX12_comesTo 43 = .ok (.goto 5, 3) := by decide +kernel
theorem dX12_comesTo_46 : decode cX12_comesTo 46 = .ok (.bipush (-2), 2) := by decide +kernel
theorem dX12_comesTo_48 : decode cX12_comesTo 48 = .ok (.iastore, 1) := by decide +kernel
theorem dX12_comesTo_49 : decode cX12_comesTo 49 = .ok (.aload_n 0, 1) := by decide +kernel
theorem dX12_comesTo_50 : decode cX12_comesTo 50 = .ok (.getfield 55, 3) := by decide +kernel
theorem dX12_comesTo_53 : decode cX12_comesTo 53 = .ok (.iload 4, 2) := by decide +kernel
theorem dX12_comesTo_55 : decode cX12_comesTo 55 = .ok (.iaload, 1) := by decide +kernel
theorem dX12_comesTo_56 : decode cX12_comesTo 56 = .ok (.ifCond .lt 24, 3) := by decide +kernel
theorem dX12_comesTo_59 : decode cX12_comesTo 59 = .ok (.aload_n 0, 1) := by decide +kernel
theorem dX12_comesTo_60 : decode cX12_comesTo 60 = .ok (.getfield 58, 3) := by decide +kernel
theorem dX12_comesTo_63 : decode cX12_comesTo 63 = .ok (.aload_n 0, 1) := by decide +kernel
theorem dX12_comesTo_64 : decode cX12_comesTo 64 = .ok (.getfield 250, 3) := by decide +kernel
theorem dX12_comesTo_67 : decode cX12_comesTo 67 = .ok (.iload 4, 2) := by decide +kernel
theorem dX12_comesTo_69 : decode cX12_comesTo 69 = .ok (.iastore, 1) := by decide +kernel
theorem dX12_comesTo_70 : decode cX12_comesTo 70 = .ok (.aload_n 0, 1) := by decide +kernel
theorem dX12_comesTo_71 : decode cX12_comesTo 71 = .ok (.dup, 1) := by decide +kernel
theorem dX12_comesTo_72 : decode cX12_comesTo 72 = .ok (.getfield 250, 3) := by decide +kernel
theorem dX12_comesTo_75 : decode cX12_comesTo 75 = .ok (.iconst 1, 1) := by decide +kernel
theorem dX12_comesTo_76 : decode cX12_comesTo 76 = .ok (.iadd, 1) := by decide +kernel
theorem dX12_comesTo_77 : decode cX12_comesTo 77 = .ok (.putfield 250, 3) := by decide +kernel
theorem dX12_comesTo_80 : decode cX12_comesTo 80 = .ok (.return_, 1) := by decide +kernel
def b_X12_comesTo_48 (S : SH) (a0 : Nat) (a4 : Int32) (t0 : Int32) (t1 : Int32) (t2 : Nat) (μ : Mem) : Option (Unit × Mem) :=
 (sI S t2 t1 t0 μ).bind fun ν7 =>
 (gR S 12 a0 19).bind fun v8 =>
 (aI S .int v8 a4 ν7).bind fun v9 =>
 (if v9 < 0 then
 some ((), ν7)
 else
 (gR S 12 a0 20).bind fun v10 =>
 (gI S 12 a0 21 ν7).bind fun v11 =>
 (sI S v10 v11 a4 ν7).bind fun ν12 =>
 (gI S 12 a0 21 ν12).bind fun v13 =>
 (pI S 12 a0 21 (v13 + 1) ν12).bind fun ν14 =>
 some ((), ν14))
set_option maxRecDepth 100000 in
set_option maxHeartbeats 4000000 in
theorem s_X12_comesTo_48 {γ : GE} {p : Program} {l : Launch} {e : Env} {s : State} {m : MethodId} {args : Array Value} {below : List Frame} {meth : Method} {c : Code} {S : SH} {X : (Unit × Mem)} (F : FX γ p s m args meth c cX12_comesTo RX12 5) (hr : meth.sig.returnType = (none)) (a0 : Nat) (a4 : Int32)   (t0 : Int32) (t1 : Int32) (t2 : Nat) (μ : Mem) (h : b_X12_comesTo_48 S a0 a4 t0 t1 t2 μ = some X) : JJ γ p l e rm_X12_comesTo s m args below meth c 5 0 0 (QV below γ S X args s 0 0) S μ 48 [(0, .ref (gb γ + a0)), (4, .int a4)] [.int t0, .int t1, .ref (gb γ + t2)] := by
  unfold b_X12_comesTo_48 at h
  refine j_iast F dX12_comesTo_48 h (fun ν7 h => ?_)
  refine j_aload_n F 0 dX12_comesTo_49 rfl ?_
  refine j_gR F fl_RX12_55 rfl dX12_comesTo_50 h (fun v8 h => ?_)
  refine j_iload F 1 dX12_comesTo_53 rfl ?_
  refine j_iald F dX12_comesTo_55 h (fun v9 h => ?_)
  refine j_iflt F 80 dX12_comesTo_56 (by decide) h (fun _ h => ?_) (fun _ h => ?_)
  · exact j_vret F hr dX12_comesTo_80 h
  · refine j_aload_n F 0 dX12_comesTo_59 rfl ?_
    refine j_gR F fl_RX12_58 rfl dX12_comesTo_60 h (fun v10 h => ?_)
    refine j_aload_n F 0 dX12_comesTo_63 rfl ?_
    refine j_gI F fl_RX12_250.l rfl dX12_comesTo_64 h (fun v11 h => ?_)
    refine j_iload F 1 dX12_comesTo_67 rfl ?_
    refine j_iast F dX12_comesTo_69 h (fun ν12 h => ?_)
    refine j_aload_n F 0 dX12_comesTo_70 rfl ?_
    refine j_dup F dX12_comesTo_71 rfl ?_
    refine j_gI F fl_RX12_250.l rfl dX12_comesTo_72 h (fun v13 h => ?_)
    refine j_iconst F 1 dX12_comesTo_75 (by decide) ?_
    refine j_iadd F dX12_comesTo_76 ?_
    refine j_pI F fl_RX12_250 rfl dX12_comesTo_77 h (fun ν14 h => ?_)
    exact j_vret F hr dX12_comesTo_80 h
def f_X12_comesTo (S : SH) (a0 : Nat) (a1 : Int32) (a2 : Int32) (a3 : Int32) (μ : Mem) : Option (Unit × Mem) :=
  if isO S 12 a0 = true then
  (some ((61 * a1) + a2)).bind fun y1 =>
  (f_X12_isReach S a2 μ).bind fun q2 =>
  (if q2.1 = 0 then
  some ((), q2.2)
  else
  (gR S 12 a0 19).bind fun v3 =>
  (aI S .int v3 y1 q2.2).bind fun v4 =>
  (if v4 = (-1) then
  (gR S 12 a0 19).bind fun v5 =>
  (f_X12_mayAt S a0 a1 a2 q2.2).bind fun q6 =>
  (if q6.1 = 0 then
  b_X12_comesTo_48 S a0 y1 (-2) y1 v5 q6.2
  else
  b_X12_comesTo_48 S a0 y1 a3 y1 v5 q6.2)
  else
  some ((), q2.2)))
  else none
set_option maxRecDepth 100000 in
set_option maxHeartbeats 4000000 in
theorem c_X12_comesTo {l : Launch} {γ : GE} {S : SH} {a0 : Nat} {a1 : Int32} {a2 : Int32} {a3 : Int32} {μ : Mem} {X : (Unit × Mem)} (h : f_X12_comesTo S a0 a1 a2 a3 μ = some X) : isO S 12 a0 = true ∧ Ct l γ yX12_comesTo cX12_comesTo 5 (none) rm_X12_comesTo [.ref (gb γ + a0), .int a1, .int a2, .int a3] S μ S X.2 none := by
  unfold f_X12_comesTo at h
  obtain ⟨h0, h⟩ := if_some h
  refine ⟨h0, ?_⟩
  have hJ : ∀ (p : Program) (e : Env) (s : State) (m : MethodId) (args : Array Value) (below : List Frame) (meth : Method) (c : Code), FX γ p s m args meth c cX12_comesTo RX12 5 → meth.sig.returnType = (none) → JJ γ p l e rm_X12_comesTo s m args below meth c 5 0 0 (QV below γ S X args s 0 0) S μ 0 [(0, .ref (gb γ + a0)), (1, .int a1), (2, .int a2), (3, .int a3)] [] := by
    intro p e s m args below meth c F hr
    refine j_bipush F 61 dX12_comesTo_0 (by decide) ?_
    refine j_iload_n F 1 dX12_comesTo_2 rfl ?_
    refine j_imul F dX12_comesTo_3 ?_
    refine j_iload_n F 2 dX12_comesTo_4 rfl ?_
    refine j_iadd F dX12_comesTo_5 ?_
    refine j_nmI h (fun y1 h => ?_)
    refine j_istore F [(4, .int y1), (0, .ref (gb γ + a0)), (1, .int a1), (2, .int a2), (3, .int a3)] dX12_comesTo_6 (by decide) rfl ?_
    refine j_iload_n F 3 dX12_comesTo_8 rfl ?_
    refine j_cSI F mi_X12_isReach w_1160 (rest := []) h (fun _ g => c_X12_isReach g) rfl rfl (Nat.le_of_ble_eq_true rfl) ⟨Nat.le_of_ble_eq_true rfl, Nat.le_of_ble_eq_true rfl⟩ ⟨Nat.le_of_ble_eq_true rfl, Nat.le_of_ble_eq_true rfl⟩ dX12_comesTo_9 (fun q2 h => ?_)
    refine j_ifeq F 26 dX12_comesTo_12 (by decide) h (fun _ h => ?_) (fun _ h => ?_)
    · exact j_vret F hr dX12_comesTo_26 h
    · refine j_aload_n F 1 dX12_comesTo_15 rfl ?_
      refine j_gR F fl_RX12_55 rfl dX12_comesTo_16 h (fun v3 h => ?_)
      refine j_iload F 0 dX12_comesTo_19 rfl ?_
      refine j_iald F dX12_comesTo_21 h (fun v4 h => ?_)
      refine j_iconst F (-1) dX12_comesTo_22 (by decide) ?_
      refine j_icmpeq F 27 dX12_comesTo_23 (by decide) h (fun _ h => ?_) (fun _ h => ?_)
      · refine j_aload_n F 1 dX12_comesTo_27 rfl ?_
        refine j_gR F fl_RX12_55 rfl dX12_comesTo_28 h (fun v5 h => ?_)
        refine j_iload F 0 dX12_comesTo_31 rfl ?_
        refine j_aload_n F 1 dX12_comesTo_33 rfl ?_
        refine j_iload_n F 2 dX12_comesTo_34 rfl ?_
        refine j_iload_n F 3 dX12_comesTo_35 rfl ?_
        refine j_cVI F mi_X12_mayAt w_1316 (rest := [.int y1, .ref (gb γ + v5)]) h (fun _ g => c_X12_mayAt g) rfl rfl (Nat.le_of_ble_eq_true rfl) ⟨Nat.le_of_ble_eq_true rfl, Nat.le_of_ble_eq_true rfl⟩ ⟨Nat.le_of_ble_eq_true rfl, Nat.le_of_ble_eq_true rfl⟩ dX12_comesTo_36 (fun q6 h => ?_)
        refine j_ifeq F 46 dX12_comesTo_39 (by decide) h (fun _ h => ?_) (fun _ h => ?_)
        · refine j_bipush F (-2) dX12_comesTo_46 (by decide) ?_
          refine j_lv [(0, .ref (gb γ + a0)), (4, .int y1)] [1, 0] rfl ?_
          exact s_X12_comesTo_48 F hr _ _ _ _ _ _ h
        · refine j_iload_n F 4 dX12_comesTo_42 rfl ?_
          refine j_goto F 48 dX12_comesTo_43 (by decide) ?_
          refine j_lv [(0, .ref (gb γ + a0)), (4, .int y1)] [1, 0] rfl ?_
          exact s_X12_comesTo_48 F hr _ _ _ _ _ _ h
      · exact j_vret F hr dX12_comesTo_26 h
  exact ct_of (by decide +kernel) (Nat.le_of_ble_eq_true rfl) (fun p e s m args below meth c F hr _ => hJ p e s m args below meth c F hr)
def rm_X12_way : Room := { frames := 10, cells := 0, slots := 0, locals := 213 }
theorem dX12_way_0 : decode cX12_way 0 = .ok (.iload_n 1, 1) := by decide +kernel
theorem dX12_way_1 : decode cX12_way 1 = .ok (.invokestatic 162, 3) := by decide +kernel
theorem dX12_way_4 : decode cX12_way 4 = .ok (.ifCond .ne 5, 3) := by decide +kernel
theorem dX12_way_7 : decode cX12_way 7 = .ok (.iconst (-1), 1) := by decide +kernel
theorem dX12_way_8 : decode cX12_way 8 = .ok (.ireturn, 1) := by decide +kernel
theorem dX12_way_9 : decode cX12_way 9 = .ok (.iload_n 2, 1) := by decide +kernel
theorem dX12_way_10 : decode cX12_way 10 = .ok (.invokestatic 136, 3) := by decide +kernel
theorem dX12_way_13 : decode cX12_way 13 = .ok (.ifCond .ne 6, 3) := by decide +kernel
theorem dX12_way_16 : decode cX12_way 16 = .ok (.bipush (-2), 2) := by decide +kernel
theorem dX12_way_18 : decode cX12_way 18 = .ok (.ireturn, 1) := by decide +kernel
theorem dX12_way_19 : decode cX12_way 19 = .ok (.iconst 0, 1) := by decide +kernel
theorem dX12_way_20 : decode cX12_way 20 = .ok (.istore_n 3, 1) := by decide +kernel
theorem dX12_way_21 : decode cX12_way 21 = .ok (.iload_n 3, 1) := by decide +kernel
theorem dX12_way_22 : decode cX12_way 22 = .ok (.sipush 1220, 3) := by decide +kernel
theorem dX12_way_25 : decode cX12_way 25 = .ok (.if_icmp .ge 16, 3) := by decide +kernel
theorem dX12_way_28 : decode cX12_way 28 = .ok (.aload_n 0, 1) := by decide +kernel
theorem dX12_way_29 : decode cX12_way 29 = .ok (.getfield 55, 3) := by decide +kernel
theorem dX12_way_32 : decode cX12_way 32 = .ok (.iload_n 3, 1) := by decide +kernel
theorem dX12_way_33 : decode cX12_way 33 = .ok (.iconst (-1), 1) := by decide +kernel
theorem dX12_way_34 : decode cX12_way 34 = .ok (.iastore, 1) := by decide +kernel
theorem dX12_way_35 : decode cX12_way 35 = .ok (.iinc 3 1, 3) := by decide +kernel
theorem dX12_way_38 : decode cX12_way 38 = .ok (.goto (-17), 3) := by decide +kernel
theorem dX12_way_41 : decode cX12_way 41 = .ok (.aload_n 0, 1) := by decide +kernel
theorem dX12_way_42 : decode cX12_way 42 = .ok (.iconst 0, 1) := by decide +kernel
theorem dX12_way_43 : decode cX12_way 43 = .ok (.putfield 250, 3) := by decide +kernel
theorem dX12_way_46 : decode cX12_way 46 = .ok (.aload_n 0, 1) := by decide +kernel
theorem dX12_way_47 : decode cX12_way 47 = .ok (.aload_n 0, 1) := by decide +kernel
theorem dX12_way_48 : decode cX12_way 48 = .ok (.getfield 36, 3) := by decide +kernel
theorem dX12_way_51 : decode cX12_way 51 = .ok (.iconst 0, 1) := by decide +kernel
theorem dX12_way_52 : decode cX12_way 52 = .ok (.iaload, 1) := by decide +kernel
theorem dX12_way_53 : decode cX12_way 53 = .ok (.aload_n 0, 1) := by decide +kernel
theorem dX12_way_54 : decode cX12_way 54 = .ok (.getfield 36, 3) := by decide +kernel
theorem dX12_way_57 : decode cX12_way 57 = .ok (.iconst 1, 1) := by decide +kernel
theorem dX12_way_58 : decode cX12_way 58 = .ok (.iaload, 1) := by decide +kernel
theorem dX12_way_59 : decode cX12_way 59 = .ok (.iconst 0, 1) := by decide +kernel
theorem dX12_way_60 : decode cX12_way 60 = .ok (.invokevirtual 253, 3) := by decide +kernel
theorem dX12_way_63 : decode cX12_way 63 = .ok (.iconst 0, 1) := by decide +kernel
theorem dX12_way_64 : decode cX12_way 64 = .ok (.istore_n 3, 1) := by decide +kernel
theorem dX12_way_65 : decode cX12_way 65 = .ok (.iload_n 3, 1) := by decide +kernel
theorem dX12_way_66 : decode cX12_way 66 = .ok (.aload_n 0, 1) := by decide +kernel
theorem dX12_way_67 : decode cX12_way 67 = .ok (.getfield 250, 3) := by decide +kernel
theorem dX12_way_70 : decode cX12_way 70 = .ok (.if_icmp .ge 134, 3) := by decide +kernel
theorem dX12_way_73 : decode cX12_way 73 = .ok (.aload_n 0, 1) := by decide +kernel
theorem dX12_way_74 : decode cX12_way 74 = .ok (.getfield 58, 3) := by decide +kernel
theorem dX12_way_77 : decode cX12_way 77 = .ok (.iload_n 3, 1) := by decide +kernel
theorem dX12_way_78 : decode cX12_way 78 = .ok (.iaload, 1) := by decide +kernel
theorem dX12_way_79 : decode cX12_way 79 = .ok (.istore 4, 2) := by decide +kernel
theorem dX12_way_81 : decode cX12_way 81 = .ok (.iload 4, 2) := by decide +kernel
theorem dX12_way_83 : decode cX12_way 83 = .ok (.bipush 61, 2) := by decide +kernel
theorem dX12_way_85 : decode cX12_way 85 = .ok (.idiv, 1) := by decide +kernel
theorem dX12_way_86 : decode cX12_way 86 = .ok (.istore 5, 2) := by decide +kernel
theorem dX12_way_88 : decode cX12_way 88 = .ok (.iload 4, 2) := by decide +kernel
theorem dX12_way_90 : decode cX12_way 90 = .ok (.bipush 61, 2) := by decide +kernel
theorem dX12_way_92 : decode cX12_way 92 = .ok (.irem, 1) := by decide +kernel
theorem dX12_way_93 : decode cX12_way 93 = .ok (.istore 6, 2) := by decide +kernel
theorem dX12_way_95 : decode cX12_way 95 = .ok (.iload 5, 2) := by decide +kernel
theorem dX12_way_97 : decode cX12_way 97 = .ok (.iload_n 1, 1) := by decide +kernel
theorem dX12_way_98 : decode cX12_way 98 = .ok (.if_icmp .ne 17, 3) := by decide +kernel
theorem dX12_way_101 : decode cX12_way 101 = .ok (.iload 6, 2) := by decide +kernel
theorem dX12_way_103 : decode cX12_way 103 = .ok (.iload_n 2, 1) := by decide +kernel
theorem dX12_way_104 : decode cX12_way 104 = .ok (.if_icmp .ne 11, 3) := by decide +kernel
theorem dX12_way_107 : decode cX12_way 107 = .ok (.aload_n 0, 1) := by decide +kernel
theorem dX12_way_108 : decode cX12_way 108 = .ok (.getfield 55, 3) := by decide +kernel
theorem dX12_way_111 : decode cX12_way 111 = .ok (.iload 4, 2) := by decide +kernel
theorem dX12_way_113 : decode cX12_way 113 = .ok (.iaload, 1) := by decide +kernel
theorem dX12_way_114 : decode cX12_way 114 = .ok (.ireturn, 1) := by decide +kernel
theorem dX12_way_115 : decode cX12_way 115 = .ok (.aload_n 0, 1) := by decide +kernel
theorem dX12_way_116 : decode cX12_way 116 = .ok (.iload 5, 2) := by decide +kernel
theorem dX12_way_118 : decode cX12_way 118 = .ok (.iconst 1, 1) := by decide +kernel
theorem dX12_way_119 : decode cX12_way 119 = .ok (.iadd, 1) := by decide +kernel
theorem dX12_way_120 : decode cX12_way 120 = .ok (.bipush 20, 2) := by decide +kernel
theorem dX12_way_122 : decode cX12_way 122 = .ok (.irem, 1) := by decide +kernel
theorem dX12_way_123 : decode cX12_way 123 = .ok (.iload 6, 2) := by decide +kernel
theorem dX12_way_125 : decode cX12_way 125 = .ok (.aload_n 0, 1) := by decide +kernel
theorem dX12_way_126 : decode cX12_way 126 = .ok (.getfield 55, 3) := by decide +kernel
theorem dX12_way_129 : decode cX12_way 129 = .ok (.iload 4, 2) := by decide +kernel
theorem dX12_way_131 : decode cX12_way 131 = .ok (.iaload, 1) := by decide +kernel
theorem dX12_way_132 : decode cX12_way 132 = .ok (.iconst 1, 1) := by decide +kernel
theorem dX12_way_133 : decode cX12_way 133 = .ok (.iadd, 1) := by decide +kernel
theorem dX12_way_134 : decode cX12_way 134 = .ok (.invokevirtual 253, 3) := by decide +kernel
theorem dX12_way_137 : decode cX12_way 137 = .ok (.aload_n 0, 1) := by decide +kernel
theorem dX12_way_138 : decode cX12_way 138 = .ok (.iload 5, 2) := by decide +kernel
theorem dX12_way_140 : decode cX12_way 140 = .ok (.bipush 19, 2) := by decide +kernel
theorem dX12_way_142 : decode cX12_way 142 = .ok (.iadd, 1) := by decide +kernel
theorem dX12_way_143 : decode cX12_way 143 = .ok (.bipush 20, 2) := by decide +kernel
theorem dX12_way_145 : decode cX12_way 145 = .ok (.irem, 1) := by decide +kernel
theorem dX12_way_146 : decode cX12_way 146 = .ok (.iload 6, 2) := by decide +kernel
theorem dX12_way_148 : decode cX12_way 148 = .ok (.aload_n 0, 1) := by decide +kernel
theorem dX12_way_149 : decode cX12_way 149 = .ok (.getfield 55, 3) := by decide +kernel
theorem dX12_way_152 : decode cX12_way 152 = .ok (.iload 4, 2) := by decide +kernel
theorem dX12_way_154 : decode cX12_way 154 = .ok (.iaload, 1) := by decide +kernel
theorem dX12_way_155 : decode cX12_way 155 = .ok (.iconst 1, 1) := by decide +kernel
theorem dX12_way_156 : decode cX12_way 156 = .ok (.iadd, 1) := by decide +kernel
theorem dX12_way_157 : decode cX12_way 157 = .ok (.invokevirtual 253, 3) := by decide +kernel
theorem dX12_way_160 : decode cX12_way 160 = .ok (.aload_n 0, 1) := by decide +kernel
theorem dX12_way_161 : decode cX12_way 161 = .ok (.iload 5, 2) := by decide +kernel
theorem dX12_way_163 : decode cX12_way 163 = .ok (.iload 6, 2) := by decide +kernel
theorem dX12_way_165 : decode cX12_way 165 = .ok (.iconst 1, 1) := by decide +kernel
theorem dX12_way_166 : decode cX12_way 166 = .ok (.iadd, 1) := by decide +kernel
theorem dX12_way_167 : decode cX12_way 167 = .ok (.aload_n 0, 1) := by decide +kernel
theorem dX12_way_168 : decode cX12_way 168 = .ok (.getfield 55, 3) := by decide +kernel
theorem dX12_way_171 : decode cX12_way 171 = .ok (.iload 4, 2) := by decide +kernel
theorem dX12_way_173 : decode cX12_way 173 = .ok (.iaload, 1) := by decide +kernel
theorem dX12_way_174 : decode cX12_way 174 = .ok (.iconst 1, 1) := by decide +kernel
theorem dX12_way_175 : decode cX12_way 175 = .ok (.iadd, 1) := by decide +kernel
theorem dX12_way_176 : decode cX12_way 176 = .ok (.invokevirtual 253, 3) := by decide +kernel
theorem dX12_way_179 : decode cX12_way 179 = .ok (.aload_n 0, 1) := by decide +kernel
theorem dX12_way_180 : decode cX12_way 180 = .ok (.iload 5, 2) := by decide +kernel
theorem dX12_way_182 : decode cX12_way 182 = .ok (.iload 6, 2) := by decide +kernel
theorem dX12_way_184 : decode cX12_way 184 = .ok (.iconst 1, 1) := by decide +kernel
theorem dX12_way_185 : decode cX12_way 185 = .ok (.isub, 1) := by decide +kernel
theorem dX12_way_186 : decode cX12_way 186 = .ok (.aload_n 0, 1) := by decide +kernel
theorem dX12_way_187 : decode cX12_way 187 = .ok (.getfield 55, 3) := by decide +kernel
theorem dX12_way_190 : decode cX12_way 190 = .ok (.iload 4, 2) := by decide +kernel
theorem dX12_way_192 : decode cX12_way 192 = .ok (.iaload, 1) := by decide +kernel
theorem dX12_way_193 : decode cX12_way 193 = .ok (.iconst 1, 1) := by decide +kernel
theorem dX12_way_194 : decode cX12_way 194 = .ok (.iadd, 1) := by decide +kernel
theorem dX12_way_195 : decode cX12_way 195 = .ok (.invokevirtual 253, 3) := by decide +kernel
theorem dX12_way_198 : decode cX12_way 198 = .ok (.iinc 3 1, 3) := by decide +kernel
theorem dX12_way_201 : decode cX12_way 201 = .ok (.goto (-136), 3) := by decide +kernel
theorem dX12_way_204 : decode cX12_way 204 = .ok (.bipush (-5), 2) := by decide +kernel
theorem dX12_way_206 : decode cX12_way 206 = .ok (.ireturn, 1) := by decide +kernel
def b_X12_way_115 (S : SH) (k65 : (Int32 × Mem) → Option (Int32 × Mem)) (a0 : Nat) (a1 : Int32) (a2 : Int32) (a3 : Int32) (a4 : Int32) (a5 : Int32) (a6 : Int32) (μ : Mem) : Option (Int32 × Mem) :=
 (gR S 12 a0 19).bind fun v14 =>
 (aI S .int v14 a4 μ).bind fun v15 =>
 (f_X12_comesTo S a0 ((a5 + 1) - (a5 + 1) / 20 * 20) a6 (v15 + 1) μ).bind fun q16 =>
 (gR S 12 a0 19).bind fun v17 =>
 (aI S .int v17 a4 q16.2).bind fun v18 =>
 (f_X12_comesTo S a0 ((a5 + 19) - (a5 + 19) / 20 * 20) a6 (v18 + 1) q16.2).bind fun q19 =>
 (gR S 12 a0 19).bind fun v20 =>
 (aI S .int v20 a4 q19.2).bind fun v21 =>
 (f_X12_comesTo S a0 a5 (a6 + 1) (v21 + 1) q19.2).bind fun q22 =>
 (gR S 12 a0 19).bind fun v23 =>
 (aI S .int v23 a4 q22.2).bind fun v24 =>
 (f_X12_comesTo S a0 a5 (a6 - 1) (v24 + 1) q22.2).bind fun q25 =>
 k65 (a3 + 1, q25.2)
set_option maxRecDepth 100000 in
set_option maxHeartbeats 4000000 in
theorem s_X12_way_115 {γ : GE} {p : Program} {l : Launch} {e : Env} {s : State} {m : MethodId} {args : Array Value} {below : List Frame} {meth : Method} {c : Code} {S : SH} {X : (Int32 × Mem)} (F : FX γ p s m args meth c cX12_way RX12 7) (hr : meth.sig.returnType = (some .int)) (a0 : Nat) (a1 : Int32) (a2 : Int32) (a3 : Int32) (a4 : Int32) (a5 : Int32) (a6 : Int32)  (k65 : (Int32 × Mem) → Option (Int32 × Mem)) (hk65 : ∀ (x65_3 : Int32) (ν : Mem), k65 (x65_3, ν) = some X → JJ γ p l e rm_X12_way s m args below meth c 7 0 0 (QI below γ S X args s 0 0) S ν 65 [(0, .ref (gb γ + a0)), (1, .int a1), (2, .int a2), (3, .int x65_3)] [])  (μ : Mem) (h : b_X12_way_115 S k65 a0 a1 a2 a3 a4 a5 a6 μ = some X) : JJ γ p l e rm_X12_way s m args below meth c 7 0 0 (QI below γ S X args s 0 0) S μ 115 [(0, .ref (gb γ + a0)), (1, .int a1), (2, .int a2), (3, .int a3), (4, .int a4), (5, .int a5), (6, .int a6)] [] := by
  unfold b_X12_way_115 at h
  refine j_aload_n F 0 dX12_way_115 rfl ?_
  refine j_iload F 5 dX12_way_116 rfl ?_
  refine j_iconst F 1 dX12_way_118 (by decide) ?_
  refine j_iadd F dX12_way_119 ?_
  refine j_bipush F 20 dX12_way_120 (by decide) ?_
  refine j_iremc F dX12_way_122 (by decide) ?_
  refine j_iload F 6 dX12_way_123 rfl ?_
  refine j_aload_n F 0 dX12_way_125 rfl ?_
  refine j_gR F fl_RX12_55 rfl dX12_way_126 h (fun v14 h => ?_)
  refine j_iload F 4 dX12_way_129 rfl ?_
  refine j_iald F dX12_way_131 h (fun v15 h => ?_)
  refine j_iconst F 1 dX12_way_132 (by decide) ?_
  refine j_iadd F dX12_way_133 ?_
  refine j_cVV F mi_X12_comesTo w_1328 (rest := []) h (fun _ g => c_X12_comesTo g) rfl rfl (Nat.le_of_ble_eq_true rfl) ⟨Nat.le_of_ble_eq_true rfl, Nat.le_of_ble_eq_true rfl⟩ ⟨Nat.le_of_ble_eq_true rfl, Nat.le_of_ble_eq_true rfl⟩ dX12_way_134 (fun q16 h => ?_)
  refine j_aload_n F 0 dX12_way_137 rfl ?_
  refine j_iload F 5 dX12_way_138 rfl ?_
  refine j_bipush F 19 dX12_way_140 (by decide) ?_
  refine j_iadd F dX12_way_142 ?_
  refine j_bipush F 20 dX12_way_143 (by decide) ?_
  refine j_iremc F dX12_way_145 (by decide) ?_
  refine j_iload F 6 dX12_way_146 rfl ?_
  refine j_aload_n F 0 dX12_way_148 rfl ?_
  refine j_gR F fl_RX12_55 rfl dX12_way_149 h (fun v17 h => ?_)
  refine j_iload F 4 dX12_way_152 rfl ?_
  refine j_iald F dX12_way_154 h (fun v18 h => ?_)
  refine j_iconst F 1 dX12_way_155 (by decide) ?_
  refine j_iadd F dX12_way_156 ?_
  refine j_cVV F mi_X12_comesTo w_1328 (rest := []) h (fun _ g => c_X12_comesTo g) rfl rfl (Nat.le_of_ble_eq_true rfl) ⟨Nat.le_of_ble_eq_true rfl, Nat.le_of_ble_eq_true rfl⟩ ⟨Nat.le_of_ble_eq_true rfl, Nat.le_of_ble_eq_true rfl⟩ dX12_way_157 (fun q19 h => ?_)
  refine j_aload_n F 0 dX12_way_160 rfl ?_
  refine j_iload F 5 dX12_way_161 rfl ?_
  refine j_iload F 6 dX12_way_163 rfl ?_
  refine j_iconst F 1 dX12_way_165 (by decide) ?_
  refine j_iadd F dX12_way_166 ?_
  refine j_aload_n F 0 dX12_way_167 rfl ?_
  refine j_gR F fl_RX12_55 rfl dX12_way_168 h (fun v20 h => ?_)
  refine j_iload F 4 dX12_way_171 rfl ?_
  refine j_iald F dX12_way_173 h (fun v21 h => ?_)
  refine j_iconst F 1 dX12_way_174 (by decide) ?_
  refine j_iadd F dX12_way_175 ?_
  refine j_cVV F mi_X12_comesTo w_1328 (rest := []) h (fun _ g => c_X12_comesTo g) rfl rfl (Nat.le_of_ble_eq_true rfl) ⟨Nat.le_of_ble_eq_true rfl, Nat.le_of_ble_eq_true rfl⟩ ⟨Nat.le_of_ble_eq_true rfl, Nat.le_of_ble_eq_true rfl⟩ dX12_way_176 (fun q22 h => ?_)
  refine j_aload_n F 0 dX12_way_179 rfl ?_
  refine j_iload F 5 dX12_way_180 rfl ?_
  refine j_iload F 6 dX12_way_182 rfl ?_
  refine j_iconst F 1 dX12_way_184 (by decide) ?_
  refine j_isub F dX12_way_185 ?_
  refine j_aload_n F 0 dX12_way_186 rfl ?_
  refine j_gR F fl_RX12_55 rfl dX12_way_187 h (fun v23 h => ?_)
  refine j_iload F 4 dX12_way_190 rfl ?_
  refine j_iald F dX12_way_192 h (fun v24 h => ?_)
  refine j_iconst F 1 dX12_way_193 (by decide) ?_
  refine j_iadd F dX12_way_194 ?_
  refine j_cVV F mi_X12_comesTo w_1328 (rest := []) h (fun _ g => c_X12_comesTo g) rfl rfl (Nat.le_of_ble_eq_true rfl) ⟨Nat.le_of_ble_eq_true rfl, Nat.le_of_ble_eq_true rfl⟩ ⟨Nat.le_of_ble_eq_true rfl, Nat.le_of_ble_eq_true rfl⟩ dX12_way_195 (fun q25 h => ?_)
  refine j_iinc F 1 3 [(3, .int (a3 + 1)), (0, .ref (gb γ + a0)), (1, .int a1), (2, .int a2), (4, .int a4), (5, .int a5), (6, .int a6)] dX12_way_198 rfl (by decide) (by decide) rfl ?_
  refine j_goto F 65 dX12_way_201 (by decide) ?_
  refine j_lv [(0, .ref (gb γ + a0)), (1, .int a1), (2, .int a2), (3, .int (a3 + 1))] [1, 2, 3, 0] rfl ?_
  exact hk65 _ _ h
def l_X12_way_65 (S : SH) (a0 : Nat) (a1 : Int32) (a2 : Int32) (k65 : (Int32 × Mem) → Option (Int32 × Mem)) (x : (Int32 × Mem)) : Option (Int32 × Mem) :=
 (gI S 12 a0 21 x.2).bind fun v9 =>
 (if v9 ≤ x.1 then
 some ((-5), x.2)
 else
 (gR S 12 a0 20).bind fun v10 =>
 (aI S .int v10 x.1 x.2).bind fun v11 =>
 (some (v11 / 61)).bind fun y12 =>
 (some (v11 - v11 / 61 * 61)).bind fun y13 =>
 (if y12 = a1 then
 (if y13 = a2 then
 (gR S 12 a0 19).bind fun v26 =>
 (aI S .int v26 v11 x.2).bind fun v27 =>
 some (v27, x.2)
 else
 b_X12_way_115 S k65 a0 a1 a2 x.1 v11 y12 y13 x.2)
 else
 b_X12_way_115 S k65 a0 a1 a2 x.1 v11 y12 y13 x.2))
set_option maxRecDepth 100000 in
set_option maxHeartbeats 4000000 in
theorem t_X12_way_65 {γ : GE} {p : Program} {l : Launch} {e : Env} {s : State} {m : MethodId} {args : Array Value} {below : List Frame} {meth : Method} {c : Code} {S : SH} {X : (Int32 × Mem)} (F : FX γ p s m args meth c cX12_way RX12 7) (hr : meth.sig.returnType = (some .int)) (a0 : Nat) (a1 : Int32) (a2 : Int32) (k65 : (Int32 × Mem) → Option (Int32 × Mem)) (hk65 : ∀ (x65_3 : Int32) (ν : Mem), k65 (x65_3, ν) = some X → JJ γ p l e rm_X12_way s m args below meth c 7 0 0 (QI below γ S X args s 0 0) S ν 65 [(0, .ref (gb γ + a0)), (1, .int a1), (2, .int a2), (3, .int x65_3)] []) (x : (Int32 × Mem)) (h : l_X12_way_65 S a0 a1 a2 k65 x = some X) : JJ γ p l e rm_X12_way s m args below meth c 7 0 0 (QI below γ S X args s 0 0) S x.2 65 [(0, .ref (gb γ + a0)), (1, .int a1), (2, .int a2), (3, .int x.1)] [] := by
  unfold l_X12_way_65 at h
  refine j_iload_n F 3 dX12_way_65 rfl ?_
  refine j_aload_n F 0 dX12_way_66 rfl ?_
  refine j_gI F fl_RX12_250.l rfl dX12_way_67 h (fun v9 h => ?_)
  refine j_icmpge F 204 dX12_way_70 (by decide) h (fun _ h => ?_) (fun _ h => ?_)
  · refine j_bipush F (-5) dX12_way_204 (by decide) ?_
    exact j_iret F hr dX12_way_206 h
  · refine j_aload_n F 0 dX12_way_73 rfl ?_
    refine j_gR F fl_RX12_58 rfl dX12_way_74 h (fun v10 h => ?_)
    refine j_iload_n F 3 dX12_way_77 rfl ?_
    refine j_iald F dX12_way_78 h (fun v11 h => ?_)
    refine j_istore F [(4, .int v11), (0, .ref (gb γ + a0)), (1, .int a1), (2, .int a2), (3, .int x.1)] dX12_way_79 (by decide) rfl ?_
    refine j_iload F 0 dX12_way_81 rfl ?_
    refine j_bipush F 61 dX12_way_83 (by decide) ?_
    refine j_idivc F dX12_way_85 (by decide) ?_
    refine j_nmI h (fun y12 h => ?_)
    refine j_istore F [(5, .int y12), (4, .int v11), (0, .ref (gb γ + a0)), (1, .int a1), (2, .int a2), (3, .int x.1)] dX12_way_86 (by decide) rfl ?_
    refine j_iload F 1 dX12_way_88 rfl ?_
    refine j_bipush F 61 dX12_way_90 (by decide) ?_
    refine j_iremc F dX12_way_92 (by decide) ?_
    refine j_nmI h (fun y13 h => ?_)
    refine j_istore F [(6, .int y13), (5, .int y12), (4, .int v11), (0, .ref (gb γ + a0)), (1, .int a1), (2, .int a2), (3, .int x.1)] dX12_way_93 (by decide) rfl ?_
    refine j_iload F 1 dX12_way_95 rfl ?_
    refine j_iload_n F 4 dX12_way_97 rfl ?_
    refine j_icmpne F 115 dX12_way_98 (by decide) h (fun _ h => ?_) (fun _ h => ?_)
    · refine j_lv [(0, .ref (gb γ + a0)), (1, .int a1), (2, .int a2), (3, .int x.1), (4, .int v11), (5, .int y12), (6, .int y13)] [3, 4, 5, 6, 2, 1, 0] rfl ?_
      exact s_X12_way_115 F hr _ _ _ _ _ _ _ _ hk65 _ h
    · refine j_iload F 0 dX12_way_101 rfl ?_
      refine j_iload_n F 5 dX12_way_103 rfl ?_
      refine j_icmpne F 115 dX12_way_104 (by decide) h (fun _ h => ?_) (fun _ h => ?_)
      · refine j_lv [(0, .ref (gb γ + a0)), (1, .int a1), (2, .int a2), (3, .int x.1), (4, .int v11), (5, .int y12), (6, .int y13)] [3, 4, 5, 6, 2, 1, 0] rfl ?_
        exact s_X12_way_115 F hr _ _ _ _ _ _ _ _ hk65 _ h
      · refine j_aload_n F 3 dX12_way_107 rfl ?_
        refine j_gR F fl_RX12_55 rfl dX12_way_108 h (fun v26 h => ?_)
        refine j_iload F 2 dX12_way_111 rfl ?_
        refine j_iald F dX12_way_113 h (fun v27 h => ?_)
        exact j_iret F hr dX12_way_114 h
theorem s_X12_way_65 {γ : GE} {p : Program} {l : Launch} {e : Env} {s : State} {m : MethodId} {args : Array Value} {below : List Frame} {meth : Method} {c : Code} {S : SH} {X : (Int32 × Mem)} (F : FX γ p s m args meth c cX12_way RX12 7) (hr : meth.sig.returnType = (some .int)) (a0 : Nat) (a1 : Int32) (a2 : Int32) (x65_3 : Int32) (ν : Mem) (h : lpN (l_X12_way_65 S a0 a1 a2) fu (x65_3, ν) = some X) : JJ γ p l e rm_X12_way s m args below meth c 7 0 0 (QI below γ S X args s 0 0) S ν 65 [(0, .ref (gb γ + a0)), (1, .int a1), (2, .int a2), (3, .int x65_3)] [] :=
 lpN_sound (fun x => JJ γ p l e rm_X12_way s m args below meth c 7 0 0 (QI below γ S X args s 0 0) S x.2 65 [(0, .ref (gb γ + a0)), (1, .int a1), (2, .int a2), (3, .int x.1)] []) (fun k65 hk65 x h => t_X12_way_65 F hr a0 a1 a2 k65 (fun x65_3 ν h => hk65 (x65_3, ν) h) x h) fu (x65_3, ν) h
def b_X12_way_41 (S : SH) (a0 : Nat) (a1 : Int32) (a2 : Int32) (μ : Mem) : Option (Int32 × Mem) :=
 (pI S 12 a0 21 0 μ).bind fun ν3 =>
 (gR S 12 a0 9).bind fun v4 =>
 (aI S .int v4 0 ν3).bind fun v5 =>
 (gR S 12 a0 9).bind fun v6 =>
 (aI S .int v6 1 ν3).bind fun v7 =>
 (f_X12_comesTo S a0 v5 v7 0 ν3).bind fun q8 =>
 lpN (l_X12_way_65 S a0 a1 a2) fu (0, q8.2)
set_option maxRecDepth 100000 in
set_option maxHeartbeats 4000000 in
theorem s_X12_way_41 {γ : GE} {p : Program} {l : Launch} {e : Env} {s : State} {m : MethodId} {args : Array Value} {below : List Frame} {meth : Method} {c : Code} {S : SH} {X : (Int32 × Mem)} (F : FX γ p s m args meth c cX12_way RX12 7) (hr : meth.sig.returnType = (some .int)) (a0 : Nat) (a1 : Int32) (a2 : Int32)    (μ : Mem) (h : b_X12_way_41 S a0 a1 a2 μ = some X) : JJ γ p l e rm_X12_way s m args below meth c 7 0 0 (QI below γ S X args s 0 0) S μ 41 [(0, .ref (gb γ + a0)), (1, .int a1), (2, .int a2)] [] := by
  unfold b_X12_way_41 at h
  refine j_aload_n F 0 dX12_way_41 rfl ?_
  refine j_iconst F 0 dX12_way_42 (by decide) ?_
  refine j_pI F fl_RX12_250 rfl dX12_way_43 h (fun ν3 h => ?_)
  refine j_aload_n F 0 dX12_way_46 rfl ?_
  refine j_aload_n F 0 dX12_way_47 rfl ?_
  refine j_gR F fl_RX12_36 rfl dX12_way_48 h (fun v4 h => ?_)
  refine j_iconst F 0 dX12_way_51 (by decide) ?_
  refine j_iald F dX12_way_52 h (fun v5 h => ?_)
  refine j_aload_n F 0 dX12_way_53 rfl ?_
  refine j_gR F fl_RX12_36 rfl dX12_way_54 h (fun v6 h => ?_)
  refine j_iconst F 1 dX12_way_57 (by decide) ?_
  refine j_iald F dX12_way_58 h (fun v7 h => ?_)
  refine j_iconst F 0 dX12_way_59 (by decide) ?_
  refine j_cVV F mi_X12_comesTo w_1328 (rest := []) h (fun _ g => c_X12_comesTo g) rfl rfl (Nat.le_of_ble_eq_true rfl) ⟨Nat.le_of_ble_eq_true rfl, Nat.le_of_ble_eq_true rfl⟩ ⟨Nat.le_of_ble_eq_true rfl, Nat.le_of_ble_eq_true rfl⟩ dX12_way_60 (fun q8 h => ?_)
  refine j_iconst F 0 dX12_way_63 (by decide) ?_
  refine j_istore_n F [(3, .int 0), (0, .ref (gb γ + a0)), (1, .int a1), (2, .int a2)] dX12_way_64 rfl (by decide) rfl ?_
  refine j_lv [(0, .ref (gb γ + a0)), (1, .int a1), (2, .int a2), (3, .int 0)] [1, 2, 3, 0] rfl ?_
  exact s_X12_way_65 F hr _ _ _ _ _ h
def l_X12_way_21 (S : SH) (a0 : Nat) (a1 : Int32) (a2 : Int32) (k21 : (Int32 × Mem) → Option (Int32 × Mem)) (x : (Int32 × Mem)) : Option (Int32 × Mem) :=
 (if 1220 ≤ x.1 then
 b_X12_way_41 S a0 a1 a2 x.2
 else
 (gR S 12 a0 19).bind fun v28 =>
 (sI S v28 x.1 (-1) x.2).bind fun ν29 =>
 k21 (x.1 + 1, ν29))
set_option maxRecDepth 100000 in
set_option maxHeartbeats 4000000 in
theorem t_X12_way_21 {γ : GE} {p : Program} {l : Launch} {e : Env} {s : State} {m : MethodId} {args : Array Value} {below : List Frame} {meth : Method} {c : Code} {S : SH} {X : (Int32 × Mem)} (F : FX γ p s m args meth c cX12_way RX12 7) (hr : meth.sig.returnType = (some .int)) (a0 : Nat) (a1 : Int32) (a2 : Int32) (k21 : (Int32 × Mem) → Option (Int32 × Mem)) (hk21 : ∀ (x21_3 : Int32) (ν : Mem), k21 (x21_3, ν) = some X → JJ γ p l e rm_X12_way s m args below meth c 7 0 0 (QI below γ S X args s 0 0) S ν 21 [(0, .ref (gb γ + a0)), (1, .int a1), (2, .int a2), (3, .int x21_3)] []) (x : (Int32 × Mem)) (h : l_X12_way_21 S a0 a1 a2 k21 x = some X) : JJ γ p l e rm_X12_way s m args below meth c 7 0 0 (QI below γ S X args s 0 0) S x.2 21 [(0, .ref (gb γ + a0)), (1, .int a1), (2, .int a2), (3, .int x.1)] [] := by
  unfold l_X12_way_21 at h
  refine j_iload_n F 3 dX12_way_21 rfl ?_
  refine j_sipush F 1220 dX12_way_22 (by decide) ?_
  refine j_icmpge F 41 dX12_way_25 (by decide) h (fun _ h => ?_) (fun _ h => ?_)
  · refine j_lv [(0, .ref (gb γ + a0)), (1, .int a1), (2, .int a2)] [0, 1, 2] rfl ?_
    exact s_X12_way_41 F hr _ _ _ _ h
  · refine j_aload_n F 0 dX12_way_28 rfl ?_
    refine j_gR F fl_RX12_55 rfl dX12_way_29 h (fun v28 h => ?_)
    refine j_iload_n F 3 dX12_way_32 rfl ?_
    refine j_iconst F (-1) dX12_way_33 (by decide) ?_
    refine j_iast F dX12_way_34 h (fun ν29 h => ?_)
    refine j_iinc F 1 3 [(3, .int (x.1 + 1)), (0, .ref (gb γ + a0)), (1, .int a1), (2, .int a2)] dX12_way_35 rfl (by decide) (by decide) rfl ?_
    refine j_goto F 21 dX12_way_38 (by decide) ?_
    refine j_lv [(0, .ref (gb γ + a0)), (1, .int a1), (2, .int a2), (3, .int (x.1 + 1))] [1, 2, 3, 0] rfl ?_
    exact hk21 _ _ h
theorem s_X12_way_21 {γ : GE} {p : Program} {l : Launch} {e : Env} {s : State} {m : MethodId} {args : Array Value} {below : List Frame} {meth : Method} {c : Code} {S : SH} {X : (Int32 × Mem)} (F : FX γ p s m args meth c cX12_way RX12 7) (hr : meth.sig.returnType = (some .int)) (a0 : Nat) (a1 : Int32) (a2 : Int32) (x21_3 : Int32) (ν : Mem) (h : lpN (l_X12_way_21 S a0 a1 a2) fu (x21_3, ν) = some X) : JJ γ p l e rm_X12_way s m args below meth c 7 0 0 (QI below γ S X args s 0 0) S ν 21 [(0, .ref (gb γ + a0)), (1, .int a1), (2, .int a2), (3, .int x21_3)] [] :=
 lpN_sound (fun x => JJ γ p l e rm_X12_way s m args below meth c 7 0 0 (QI below γ S X args s 0 0) S x.2 21 [(0, .ref (gb γ + a0)), (1, .int a1), (2, .int a2), (3, .int x.1)] []) (fun k21 hk21 x h => t_X12_way_21 F hr a0 a1 a2 k21 (fun x21_3 ν h => hk21 (x21_3, ν) h) x h) fu (x21_3, ν) h
def f_X12_way (S : SH) (a0 : Nat) (a1 : Int32) (a2 : Int32) (μ : Mem) : Option (Int32 × Mem) :=
  if isO S 12 a0 = true then
  (f_X12_isDirection S a1 μ).bind fun q1 =>
  (if q1.1 = 0 then
  some ((-1), q1.2)
  else
  (f_X12_isReach S a2 q1.2).bind fun q2 =>
  (if q2.1 = 0 then
  some ((-2), q2.2)
  else
  lpN (l_X12_way_21 S  a0 a1 a2) fu (0, q2.2)))
  else none
set_option maxRecDepth 100000 in
set_option maxHeartbeats 4000000 in
theorem c_X12_way {l : Launch} {γ : GE} {S : SH} {a0 : Nat} {a1 : Int32} {a2 : Int32} {μ : Mem} {X : (Int32 × Mem)} (h : f_X12_way S a0 a1 a2 μ = some X) : isO S 12 a0 = true ∧ Ct l γ yX12_way cX12_way 7 (some .int) rm_X12_way [.ref (gb γ + a0), .int a1, .int a2] S μ S X.2 (some (.int X.1)) := by
  unfold f_X12_way at h
  obtain ⟨h0, h⟩ := if_some h
  refine ⟨h0, ?_⟩
  have hJ : ∀ (p : Program) (e : Env) (s : State) (m : MethodId) (args : Array Value) (below : List Frame) (meth : Method) (c : Code), FX γ p s m args meth c cX12_way RX12 7 → meth.sig.returnType = (some .int) → JJ γ p l e rm_X12_way s m args below meth c 7 0 0 (QI below γ S X args s 0 0) S μ 0 [(0, .ref (gb γ + a0)), (1, .int a1), (2, .int a2)] [] := by
    intro p e s m args below meth c F hr
    refine j_iload_n F 1 dX12_way_0 rfl ?_
    refine j_cSI F mi_X12_isDirection w_1191 (rest := []) h (fun _ g => c_X12_isDirection g) rfl rfl (Nat.le_of_ble_eq_true rfl) ⟨Nat.le_of_ble_eq_true rfl, Nat.le_of_ble_eq_true rfl⟩ ⟨Nat.le_of_ble_eq_true rfl, Nat.le_of_ble_eq_true rfl⟩ dX12_way_1 (fun q1 h => ?_)
    refine j_ifne F 9 dX12_way_4 (by decide) h (fun _ h => ?_) (fun _ h => ?_)
    · refine j_iload_n F 2 dX12_way_9 rfl ?_
      refine j_cSI F mi_X12_isReach w_1160 (rest := []) h (fun _ g => c_X12_isReach g) rfl rfl (Nat.le_of_ble_eq_true rfl) ⟨Nat.le_of_ble_eq_true rfl, Nat.le_of_ble_eq_true rfl⟩ ⟨Nat.le_of_ble_eq_true rfl, Nat.le_of_ble_eq_true rfl⟩ dX12_way_10 (fun q2 h => ?_)
      refine j_ifne F 19 dX12_way_13 (by decide) h (fun _ h => ?_) (fun _ h => ?_)
      · refine j_iconst F 0 dX12_way_19 (by decide) ?_
        refine j_istore_n F [(3, .int 0), (0, .ref (gb γ + a0)), (1, .int a1), (2, .int a2)] dX12_way_20 rfl (by decide) rfl ?_
        refine j_lv [(0, .ref (gb γ + a0)), (1, .int a1), (2, .int a2), (3, .int 0)] [1, 2, 3, 0] rfl ?_
        exact s_X12_way_21 F hr _ _ _ _ _ h
      · refine j_bipush F (-2) dX12_way_16 (by decide) ?_
        exact j_iret F hr dX12_way_18 h
    · refine j_iconst F (-1) dX12_way_7 (by decide) ?_
      exact j_iret F hr dX12_way_8 h
  exact ct_of (by decide +kernel) (Nat.le_of_ble_eq_true rfl) (fun p e s m args below meth c F hr _ => hJ p e s m args below meth c F hr)
def rm_X12_ballast : Room := { frames := 8, cells := 0, slots := 0, locals := 164 }
theorem dX12_ballast_0 : decode cX12_ballast 0 = .ok (.aload_n 0, 1) := by decide +kernel
theorem dX12_ballast_1 : decode cX12_ballast 1 = .ok (.iload_n 1, 1) := by decide +kernel
theorem dX12_ballast_2 : decode cX12_ballast 2 = .ok (.invokevirtual 118, 3) := by decide +kernel
theorem dX12_ballast_5 : decode cX12_ballast 5 = .ok (.ifCond .ne 5, 3) := by decide +kernel
theorem dX12_ballast_8 : decode cX12_ballast 8 = .ok (.iconst (-1), 1) := by decide +kernel
theorem dX12_ballast_9 : decode cX12_ballast 9 = .ok (.ireturn, 1) := by decide +kernel
theorem dX12_ballast_10 : decode cX12_ballast 10 = .ok (.aload_n 0, 1) := by decide +kernel
theorem dX12_ballast_11 : decode cX12_ballast 11 = .ok (.getfield 15, 3) := by decide +kernel
theorem dX12_ballast_14 : decode cX12_ballast 14 = .ok (.iload_n 1, 1) := by decide +kernel
theorem dX12_ballast_15 : decode cX12_ballast 15 = .ok (.iaload, 1) := by decide +kernel
theorem dX12_ballast_16 : decode cX12_ballast 16 = .ok (.istore_n 2, 1) := by decide +kernel
theorem dX12_ballast_17 : decode cX12_ballast 17 = .ok (.bipush (-5), 2) := by decide +kernel
theorem dX12_ballast_19 : decode cX12_ballast 19 = .ok (.istore_n 3, 1) := by decide +kernel
theorem dX12_ballast_20 : decode cX12_ballast 20 = .ok (.iconst 1, 1) := by decide +kernel
theorem dX12_ballast_21 : decode cX12_ballast 21 = .ok (.istore 4, 2) := by decide +kernel
theorem dX12_ballast_23 : decode cX12_ballast 23 = .ok (.iload 4, 2) := by decide +kernel
theorem dX12_ballast_25 : decode cX12_ballast 25 = .ok (.sipush 1000, 3) := by decide +kernel
theorem dX12_ballast_28 : decode cX12_ballast 28 = .ok (.if_icmp .ge 38, 3) := by decide +kernel
theorem dX12_ballast_31 : decode cX12_ballast 31 = .ok (.iload_n 3, 1) := by decide +kernel
theorem dX12_ballast_32 : decode cX12_ballast 32 = .ok (.bipush (-5), 2) := by decide +kernel
theorem dX12_ballast_34 : decode cX12_ballast 34 = .ok (.if_icmp .ne 32, 3) := by decide +kernel
theorem dX12_ballast_37 : decode cX12_ballast 37 = .ok (.aload_n 0, 1) := by decide +kernel
theorem dX12_ballast_38 : decode cX12_ballast 38 = .ok (.getfield 15, 3) := by decide +kernel
theorem dX12_ballast_41 : decode cX12_ballast 41 = .ok (.iload_n 1, 1) := by decide +kernel
theorem dX12_ballast_42 : decode cX12_ballast 42 = .ok (.iload 4, 2) := by decide +kernel
theorem dX12_ballast_44 : decode cX12_ballast 44 = .ok (.iastore, 1) := by decide +kernel
theorem dX12_ballast_45 : decode cX12_ballast 45 = .ok (.aload_n 0, 1) := by decide +kernel
theorem dX12_ballast_46 : decode cX12_ballast 46 = .ok (.invokevirtual 244, 3) := by decide +kernel
theorem dX12_ballast_49 : decode cX12_ballast 49 = .ok (.ifCond .eq 8, 3) := by decide +kernel
theorem dX12_ballast_52 : decode cX12_ballast 52 = .ok (.iload 4, 2) := by decide +kernel
theorem dX12_ballast_54 : decode cX12_ballast 54 = .ok (.goto 5, 3) := by decide +kernel
theorem dX12_ballast_57 : decode cX12_ballast 57 = .ok (.bipush (-5), 2) := by decide +kernel
theorem dX12_ballast_59 : decode cX12_ballast 59 = .ok (.istore_n 3, 1) := by decide +kernel
theorem dX12_ballast_60 : decode cX12_ballast 60 = .ok (.iinc 4 1, 3) := by decide +kernel
theorem dX12_ballast_63 : decode cX12_ballast 63 = .ok (.goto (-40), 3) := by decide +kernel
theorem dX12_ballast_66 : decode cX12_ballast 66 = .ok (.aload_n 0, 1) := by decide +kernel
theorem dX12_ballast_67 : decode cX12_ballast 67 = .ok (.getfield 15, 3) := by decide +kernel
theorem dX12_ballast_70 : decode cX12_ballast 70 = .ok (.iload_n 1, 1) := by decide +kernel
theorem dX12_ballast_71 : decode cX12_ballast 71 = .ok (.iload_n 2, 1) := by decide +kernel
theorem dX12_ballast_72 : decode cX12_ballast 72 = .ok (.iastore, 1) := by decide +kernel
theorem dX12_ballast_73 : decode cX12_ballast 73 = .ok (.iload_n 3, 1) := by decide +kernel
theorem dX12_ballast_74 : decode cX12_ballast 74 = .ok (.ireturn, 1) := by decide +kernel
def l_X12_ballast_23 (S : SH) (a0 : Nat) (a1 : Int32) (a2 : Int32) (k23 : (Int32 × Int32 × Mem) → Option (Int32 × Mem)) (x : (Int32 × Int32 × Mem)) : Option (Int32 × Mem) :=
 (if 1000 ≤ x.2.1 then
 (gR S 12 a0 2).bind fun v4 =>
 (sI S v4 a1 a2 x.2.2).bind fun ν5 =>
 some (x.1, ν5)
 else
 (if x.1 = (-5) then
 (gR S 12 a0 2).bind fun v8 =>
 (sI S v8 a1 x.2.1 x.2.2).bind fun ν9 =>
 (f_X12_may S a0 ν9).bind fun q10 =>
 (if q10.1 = 0 then
 k23 ((-5), x.2.1 + 1, q10.2)
 else
 k23 (x.2.1, x.2.1 + 1, q10.2))
 else
 (gR S 12 a0 2).bind fun v6 =>
 (sI S v6 a1 a2 x.2.2).bind fun ν7 =>
 some (x.1, ν7)))
set_option maxRecDepth 100000 in
set_option maxHeartbeats 4000000 in
theorem t_X12_ballast_23 {γ : GE} {p : Program} {l : Launch} {e : Env} {s : State} {m : MethodId} {args : Array Value} {below : List Frame} {meth : Method} {c : Code} {S : SH} {X : (Int32 × Mem)} (F : FX γ p s m args meth c cX12_ballast RX12 5) (hr : meth.sig.returnType = (some .int)) (a0 : Nat) (a1 : Int32) (a2 : Int32) (k23 : (Int32 × Int32 × Mem) → Option (Int32 × Mem)) (hk23 : ∀ (x23_3 : Int32) (x23_4 : Int32) (ν : Mem), k23 (x23_3, x23_4, ν) = some X → JJ γ p l e rm_X12_ballast s m args below meth c 5 0 0 (QI below γ S X args s 0 0) S ν 23 [(0, .ref (gb γ + a0)), (1, .int a1), (2, .int a2), (3, .int x23_3), (4, .int x23_4)] []) (x : (Int32 × Int32 × Mem)) (h : l_X12_ballast_23 S a0 a1 a2 k23 x = some X) : JJ γ p l e rm_X12_ballast s m args below meth c 5 0 0 (QI below γ S X args s 0 0) S x.2.2 23 [(0, .ref (gb γ + a0)), (1, .int a1), (2, .int a2), (3, .int x.1), (4, .int x.2.1)] [] := by
  unfold l_X12_ballast_23 at h
  refine j_iload F 4 dX12_ballast_23 rfl ?_
  refine j_sipush F 1000 dX12_ballast_25 (by decide) ?_
  refine j_icmpge F 66 dX12_ballast_28 (by decide) h (fun _ h => ?_) (fun _ h => ?_)
  · refine j_aload_n F 0 dX12_ballast_66 rfl ?_
    refine j_gR F fl_RX12_15 rfl dX12_ballast_67 h (fun v4 h => ?_)
    refine j_iload_n F 1 dX12_ballast_70 rfl ?_
    refine j_iload_n F 2 dX12_ballast_71 rfl ?_
    refine j_iast F dX12_ballast_72 h (fun ν5 h => ?_)
    refine j_iload_n F 3 dX12_ballast_73 rfl ?_
    exact j_iret F hr dX12_ballast_74 h
  · refine j_iload_n F 3 dX12_ballast_31 rfl ?_
    refine j_bipush F (-5) dX12_ballast_32 (by decide) ?_
    refine j_icmpne F 66 dX12_ballast_34 (by decide) h (fun _ h => ?_) (fun _ h => ?_)
    · refine j_aload_n F 0 dX12_ballast_66 rfl ?_
      refine j_gR F fl_RX12_15 rfl dX12_ballast_67 h (fun v6 h => ?_)
      refine j_iload_n F 1 dX12_ballast_70 rfl ?_
      refine j_iload_n F 2 dX12_ballast_71 rfl ?_
      refine j_iast F dX12_ballast_72 h (fun ν7 h => ?_)
      refine j_iload_n F 3 dX12_ballast_73 rfl ?_
      exact j_iret F hr dX12_ballast_74 h
    · refine j_aload_n F 0 dX12_ballast_37 rfl ?_
      refine j_gR F fl_RX12_15 rfl dX12_ballast_38 h (fun v8 h => ?_)
      refine j_iload_n F 1 dX12_ballast_41 rfl ?_
      refine j_iload F 4 dX12_ballast_42 rfl ?_
      refine j_iast F dX12_ballast_44 h (fun ν9 h => ?_)
      refine j_aload_n F 0 dX12_ballast_45 rfl ?_
      refine j_cVI F mi_X12_may w_1308 (rest := []) h (fun _ g => c_X12_may g) rfl rfl (Nat.le_of_ble_eq_true rfl) ⟨Nat.le_of_ble_eq_true rfl, Nat.le_of_ble_eq_true rfl⟩ ⟨Nat.le_of_ble_eq_true rfl, Nat.le_of_ble_eq_true rfl⟩ dX12_ballast_46 (fun q10 h => ?_)
      refine j_ifeq F 57 dX12_ballast_49 (by decide) h (fun _ h => ?_) (fun _ h => ?_)
      · refine j_bipush F (-5) dX12_ballast_57 (by decide) ?_
        refine j_istore_n F [(3, .int (-5)), (0, .ref (gb γ + a0)), (1, .int a1), (2, .int a2), (4, .int x.2.1)] dX12_ballast_59 rfl (by decide) rfl ?_
        refine j_iinc F 1 4 [(4, .int (x.2.1 + 1)), (3, .int (-5)), (0, .ref (gb γ + a0)), (1, .int a1), (2, .int a2)] dX12_ballast_60 rfl (by decide) (by decide) rfl ?_
        refine j_goto F 23 dX12_ballast_63 (by decide) ?_
        refine j_lv [(0, .ref (gb γ + a0)), (1, .int a1), (2, .int a2), (3, .int (-5)), (4, .int (x.2.1 + 1))] [2, 3, 4, 1, 0] rfl ?_
        exact hk23 _ _ _ h
      · refine j_iload F 4 dX12_ballast_52 rfl ?_
        refine j_goto F 59 dX12_ballast_54 (by decide) ?_
        refine j_istore_n F [(3, .int x.2.1), (0, .ref (gb γ + a0)), (1, .int a1), (2, .int a2), (4, .int x.2.1)] dX12_ballast_59 rfl (by decide) rfl ?_
        refine j_iinc F 1 4 [(4, .int (x.2.1 + 1)), (3, .int x.2.1), (0, .ref (gb γ + a0)), (1, .int a1), (2, .int a2)] dX12_ballast_60 rfl (by decide) (by decide) rfl ?_
        refine j_goto F 23 dX12_ballast_63 (by decide) ?_
        refine j_lv [(0, .ref (gb γ + a0)), (1, .int a1), (2, .int a2), (3, .int x.2.1), (4, .int (x.2.1 + 1))] [2, 3, 4, 1, 0] rfl ?_
        exact hk23 _ _ _ h
theorem s_X12_ballast_23 {γ : GE} {p : Program} {l : Launch} {e : Env} {s : State} {m : MethodId} {args : Array Value} {below : List Frame} {meth : Method} {c : Code} {S : SH} {X : (Int32 × Mem)} (F : FX γ p s m args meth c cX12_ballast RX12 5) (hr : meth.sig.returnType = (some .int)) (a0 : Nat) (a1 : Int32) (a2 : Int32) (x23_3 : Int32) (x23_4 : Int32) (ν : Mem) (h : lpN (l_X12_ballast_23 S a0 a1 a2) fu (x23_3, x23_4, ν) = some X) : JJ γ p l e rm_X12_ballast s m args below meth c 5 0 0 (QI below γ S X args s 0 0) S ν 23 [(0, .ref (gb γ + a0)), (1, .int a1), (2, .int a2), (3, .int x23_3), (4, .int x23_4)] [] :=
 lpN_sound (fun x => JJ γ p l e rm_X12_ballast s m args below meth c 5 0 0 (QI below γ S X args s 0 0) S x.2.2 23 [(0, .ref (gb γ + a0)), (1, .int a1), (2, .int a2), (3, .int x.1), (4, .int x.2.1)] []) (fun k23 hk23 x h => t_X12_ballast_23 F hr a0 a1 a2 k23 (fun x23_3 x23_4 ν h => hk23 (x23_3, x23_4, ν) h) x h) fu (x23_3, x23_4, ν) h
def f_X12_ballast (S : SH) (a0 : Nat) (a1 : Int32) (μ : Mem) : Option (Int32 × Mem) :=
  if isO S 12 a0 = true then
  (f_X12_isPartOf S a0 a1 μ).bind fun q1 =>
  (if q1.1 = 0 then
  some ((-1), q1.2)
  else
  (gR S 12 a0 2).bind fun v2 =>
  (aI S .int v2 a1 q1.2).bind fun v3 =>
  lpN (l_X12_ballast_23 S  a0 a1 v3) fu ((-5), 1, q1.2))
  else none
set_option maxRecDepth 100000 in
set_option maxHeartbeats 4000000 in
theorem c_X12_ballast {l : Launch} {γ : GE} {S : SH} {a0 : Nat} {a1 : Int32} {μ : Mem} {X : (Int32 × Mem)} (h : f_X12_ballast S a0 a1 μ = some X) : isO S 12 a0 = true ∧ Ct l γ yX12_ballast cX12_ballast 5 (some .int) rm_X12_ballast [.ref (gb γ + a0), .int a1] S μ S X.2 (some (.int X.1)) := by
  unfold f_X12_ballast at h
  obtain ⟨h0, h⟩ := if_some h
  refine ⟨h0, ?_⟩
  have hJ : ∀ (p : Program) (e : Env) (s : State) (m : MethodId) (args : Array Value) (below : List Frame) (meth : Method) (c : Code), FX γ p s m args meth c cX12_ballast RX12 5 → meth.sig.returnType = (some .int) → JJ γ p l e rm_X12_ballast s m args below meth c 5 0 0 (QI below γ S X args s 0 0) S μ 0 [(0, .ref (gb γ + a0)), (1, .int a1)] [] := by
    intro p e s m args below meth c F hr
    refine j_aload_n F 0 dX12_ballast_0 rfl ?_
    refine j_iload_n F 1 dX12_ballast_1 rfl ?_
    refine j_cVI F mi_X12_isPartOf w_1127 (rest := []) h (fun _ g => c_X12_isPartOf g) rfl rfl (Nat.le_of_ble_eq_true rfl) ⟨Nat.le_of_ble_eq_true rfl, Nat.le_of_ble_eq_true rfl⟩ ⟨Nat.le_of_ble_eq_true rfl, Nat.le_of_ble_eq_true rfl⟩ dX12_ballast_2 (fun q1 h => ?_)
    refine j_ifne F 10 dX12_ballast_5 (by decide) h (fun _ h => ?_) (fun _ h => ?_)
    · refine j_aload_n F 0 dX12_ballast_10 rfl ?_
      refine j_gR F fl_RX12_15 rfl dX12_ballast_11 h (fun v2 h => ?_)
      refine j_iload_n F 1 dX12_ballast_14 rfl ?_
      refine j_iald F dX12_ballast_15 h (fun v3 h => ?_)
      refine j_istore_n F [(2, .int v3), (0, .ref (gb γ + a0)), (1, .int a1)] dX12_ballast_16 rfl (by decide) rfl ?_
      refine j_bipush F (-5) dX12_ballast_17 (by decide) ?_
      refine j_istore_n F [(3, .int (-5)), (2, .int v3), (0, .ref (gb γ + a0)), (1, .int a1)] dX12_ballast_19 rfl (by decide) rfl ?_
      refine j_iconst F 1 dX12_ballast_20 (by decide) ?_
      refine j_istore F [(4, .int 1), (3, .int (-5)), (2, .int v3), (0, .ref (gb γ + a0)), (1, .int a1)] dX12_ballast_21 (by decide) rfl ?_
      refine j_lv [(0, .ref (gb γ + a0)), (1, .int a1), (2, .int v3), (3, .int (-5)), (4, .int 1)] [3, 4, 2, 1, 0] rfl ?_
      exact s_X12_ballast_23 F hr _ _ _ _ _ _ h
    · refine j_iconst F (-1) dX12_ballast_8 (by decide) ?_
      exact j_iret F hr dX12_ballast_9 h
  exact ct_of (by decide +kernel) (Nat.le_of_ble_eq_true rfl) (fun p e s m args below meth c F hr _ => hJ p e s m args below meth c F hr)
def rm_X12_feed : Room := { frames := 1, cells := 0, slots := 0, locals := 22 }
theorem dX12_feed_0 : decode cX12_feed 0 = .ok (.iload_n 1, 1) := by decide +kernel
theorem dX12_feed_1 : decode cX12_feed 1 = .ok (.iconst 1, 1) := by decide +kernel
theorem dX12_feed_2 : decode cX12_feed 2 = .ok (.bipush 127, 2) := by decide +kernel
theorem dX12_feed_4 : decode cX12_feed 4 = .ok (.invokestatic 95, 3) := by decide +kernel
theorem dX12_feed_7 : decode cX12_feed 7 = .ok (.ifCond .ne 6, 3) := by decide +kernel
theorem dX12_feed_10 : decode cX12_feed 10 = .ok (.bipush (-2), 2) := by decide +kernel
theorem dX12_feed_12 : decode cX12_feed 12 = .ok (.ireturn, 1) := by decide +kernel
theorem dX12_feed_13 : decode cX12_feed 13 = .ok (.aload_n 0, 1) := by decide +kernel
theorem dX12_feed_14 : decode cX12_feed 14 = .ok (.getfield 256, 3) := by decide +kernel
theorem dX12_feed_17 : decode cX12_feed 17 = .ok (.bipush 100, 2) := by decide +kernel
theorem dX12_feed_19 : decode cX12_feed 19 = .ok (.if_icmp .ne 6, 3) := by decide +kernel
theorem dX12_feed_22 : decode cX12_feed 22 = .ok (.bipush (-4), 2) := by decide +kernel
theorem dX12_feed_24 : decode cX12_feed 24 = .ok (.ireturn, 1) := by decide +kernel
theorem dX12_feed_25 : decode cX12_feed 25 = .ok (.aload_n 0, 1) := by decide +kernel
theorem dX12_feed_26 : decode cX12_feed 26 = .ok (.getfield 61, 3) := by decide +kernel
theorem dX12_feed_29 : decode cX12_feed 29 = .ok (.aload_n 0, 1) := by decide +kernel
theorem dX12_feed_30 : decode cX12_feed 30 = .ok (.getfield 256, 3) := by decide +kernel
theorem dX12_feed_33 : decode cX12_feed 33 = .ok (.iload_n 1, 1) := by decide +kernel
theorem dX12_feed_34 : decode cX12_feed 34 = .ok (.iastore, 1) := by decide +kernel
theorem dX12_feed_35 : decode cX12_feed 35 = .ok (.aload_n 0, 1) := by decide +kernel
theorem dX12_feed_36 : decode cX12_feed 36 = .ok (.dup, 1) := by decide +kernel
theorem dX12_feed_37 : decode cX12_feed 37 = .ok (.getfield 256, 3) := by decide +kernel
theorem dX12_feed_40 : decode cX12_feed 40 = .ok (.iconst 1, 1) := by decide +kernel
theorem dX12_feed_41 : decode cX12_feed 41 = .ok (.iadd, 1) := by decide +kernel
theorem dX12_feed_42 : decode cX12_feed 42 = .ok (.putfield 256, 3) := by decide +kernel
theorem dX12_feed_45 : decode cX12_feed 45 = .ok (.aload_n 0, 1) := by decide +kernel
theorem dX12_feed_46 : decode cX12_feed 46 = .ok (.getfield 256, 3) := by decide +kernel
theorem dX12_feed_49 : decode cX12_feed 49 = .ok (.ireturn, 1) := by decide +kernel
def f_X12_feed (S : SH) (a0 : Nat) (a1 : Int32) (μ : Mem) : Option (Int32 × Mem) :=
  if isO S 12 a0 = true then
  (f_X12_in S a1 1 127 μ).bind fun q1 =>
  (if q1.1 = 0 then
  some ((-2), q1.2)
  else
  (gI S 12 a0 23 q1.2).bind fun v2 =>
  (if v2 = 100 then
  some ((-4), q1.2)
  else
  (gR S 12 a0 22).bind fun v3 =>
  (gI S 12 a0 23 q1.2).bind fun v4 =>
  (sI S v3 v4 a1 q1.2).bind fun ν5 =>
  (gI S 12 a0 23 ν5).bind fun v6 =>
  (pI S 12 a0 23 (v6 + 1) ν5).bind fun ν7 =>
  (gI S 12 a0 23 ν7).bind fun v8 =>
  some (v8, ν7)))
  else none
set_option maxRecDepth 100000 in
set_option maxHeartbeats 4000000 in
theorem c_X12_feed {l : Launch} {γ : GE} {S : SH} {a0 : Nat} {a1 : Int32} {μ : Mem} {X : (Int32 × Mem)} (h : f_X12_feed S a0 a1 μ = some X) : isO S 12 a0 = true ∧ Ct l γ yX12_feed cX12_feed 2 (some .int) rm_X12_feed [.ref (gb γ + a0), .int a1] S μ S X.2 (some (.int X.1)) := by
  unfold f_X12_feed at h
  obtain ⟨h0, h⟩ := if_some h
  refine ⟨h0, ?_⟩
  have hJ : ∀ (p : Program) (e : Env) (s : State) (m : MethodId) (args : Array Value) (below : List Frame) (meth : Method) (c : Code), FX γ p s m args meth c cX12_feed RX12 2 → meth.sig.returnType = (some .int) → JJ γ p l e rm_X12_feed s m args below meth c 2 0 0 (QI below γ S X args s 0 0) S μ 0 [(0, .ref (gb γ + a0)), (1, .int a1)] [] := by
    intro p e s m args below meth c F hr
    refine j_iload_n F 1 dX12_feed_0 rfl ?_
    refine j_iconst F 1 dX12_feed_1 (by decide) ?_
    refine j_bipush F 127 dX12_feed_2 (by decide) ?_
    refine j_cSI F mi_X12_in w_1104 (rest := []) h (fun _ g => c_X12_in g) rfl rfl (Nat.le_of_ble_eq_true rfl) ⟨Nat.le_of_ble_eq_true rfl, Nat.le_of_ble_eq_true rfl⟩ ⟨Nat.le_of_ble_eq_true rfl, Nat.le_of_ble_eq_true rfl⟩ dX12_feed_4 (fun q1 h => ?_)
    refine j_ifne F 13 dX12_feed_7 (by decide) h (fun _ h => ?_) (fun _ h => ?_)
    · refine j_aload_n F 0 dX12_feed_13 rfl ?_
      refine j_gI F fl_RX12_256.l rfl dX12_feed_14 h (fun v2 h => ?_)
      refine j_bipush F 100 dX12_feed_17 (by decide) ?_
      refine j_icmpne F 25 dX12_feed_19 (by decide) h (fun _ h => ?_) (fun _ h => ?_)
      · refine j_aload_n F 0 dX12_feed_25 rfl ?_
        refine j_gR F fl_RX12_61 rfl dX12_feed_26 h (fun v3 h => ?_)
        refine j_aload_n F 0 dX12_feed_29 rfl ?_
        refine j_gI F fl_RX12_256.l rfl dX12_feed_30 h (fun v4 h => ?_)
        refine j_iload_n F 1 dX12_feed_33 rfl ?_
        refine j_iast F dX12_feed_34 h (fun ν5 h => ?_)
        refine j_aload_n F 0 dX12_feed_35 rfl ?_
        refine j_dup F dX12_feed_36 rfl ?_
        refine j_gI F fl_RX12_256.l rfl dX12_feed_37 h (fun v6 h => ?_)
        refine j_iconst F 1 dX12_feed_40 (by decide) ?_
        refine j_iadd F dX12_feed_41 ?_
        refine j_pI F fl_RX12_256 rfl dX12_feed_42 h (fun ν7 h => ?_)
        refine j_aload_n F 0 dX12_feed_45 rfl ?_
        refine j_gI F fl_RX12_256.l rfl dX12_feed_46 h (fun v8 h => ?_)
        exact j_iret F hr dX12_feed_49 h
      · refine j_bipush F (-4) dX12_feed_22 (by decide) ?_
        exact j_iret F hr dX12_feed_24 h
    · refine j_bipush F (-2) dX12_feed_10 (by decide) ?_
      exact j_iret F hr dX12_feed_12 h
  exact ct_of (by decide +kernel) (Nat.le_of_ble_eq_true rfl) (fun p e s m args below meth c F hr _ => hJ p e s m args below meth c F hr)
def rm_X12_clear : Room := { frames := 0, cells := 0, slots := 0, locals := 0 }
theorem dX12_clear_0 : decode cX12_clear 0 = .ok (.aload_n 0, 1) := by decide +kernel
theorem dX12_clear_1 : decode cX12_clear 1 = .ok (.getfield 256, 3) := by decide +kernel
theorem dX12_clear_4 : decode cX12_clear 4 = .ok (.istore_n 1, 1) := by decide +kernel
theorem dX12_clear_5 : decode cX12_clear 5 = .ok (.aload_n 0, 1) := by decide +kernel
theorem dX12_clear_6 : decode cX12_clear 6 = .ok (.iconst 0, 1) := by decide +kernel
theorem dX12_clear_7 : decode cX12_clear 7 = .ok (.putfield 256, 3) := by decide +kernel
theorem dX12_clear_10 : decode cX12_clear 10 = .ok (.iload_n 1, 1) := by decide +kernel
theorem dX12_clear_11 : decode cX12_clear 11 = .ok (.ireturn, 1) := by decide +kernel
def f_X12_clear (S : SH) (a0 : Nat) (μ : Mem) : Option (Int32 × Mem) :=
  if isO S 12 a0 = true then
  (gI S 12 a0 23 μ).bind fun v1 =>
  (pI S 12 a0 23 0 μ).bind fun ν2 =>
  some (v1, ν2)
  else none
set_option maxRecDepth 100000 in
set_option maxHeartbeats 4000000 in
theorem c_X12_clear {l : Launch} {γ : GE} {S : SH} {a0 : Nat} {μ : Mem} {X : (Int32 × Mem)} (h : f_X12_clear S a0 μ = some X) : isO S 12 a0 = true ∧ Ct l γ yX12_clear cX12_clear 2 (some .int) rm_X12_clear [.ref (gb γ + a0)] S μ S X.2 (some (.int X.1)) := by
  unfold f_X12_clear at h
  obtain ⟨h0, h⟩ := if_some h
  refine ⟨h0, ?_⟩
  have hJ : ∀ (p : Program) (e : Env) (s : State) (m : MethodId) (args : Array Value) (below : List Frame) (meth : Method) (c : Code), FX γ p s m args meth c cX12_clear RX12 2 → meth.sig.returnType = (some .int) → JJ γ p l e rm_X12_clear s m args below meth c 2 0 0 (QI below γ S X args s 0 0) S μ 0 [(0, .ref (gb γ + a0))] [] := by
    intro p e s m args below meth c F hr
    refine j_aload_n F 0 dX12_clear_0 rfl ?_
    refine j_gI F fl_RX12_256.l rfl dX12_clear_1 h (fun v1 h => ?_)
    refine j_istore_n F [(1, .int v1), (0, .ref (gb γ + a0))] dX12_clear_4 rfl (by decide) rfl ?_
    refine j_aload_n F 1 dX12_clear_5 rfl ?_
    refine j_iconst F 0 dX12_clear_6 (by decide) ?_
    refine j_pI F fl_RX12_256 rfl dX12_clear_7 h (fun ν2 h => ?_)
    refine j_iload_n F 0 dX12_clear_10 rfl ?_
    exact j_iret F hr dX12_clear_11 h
  exact ct_of (by decide +kernel) (Nat.le_of_ble_eq_true rfl) (fun p e s m args below meth c F hr _ => hJ p e s m args below meth c F hr)
def rm_X12_here : Room := { frames := 0, cells := 0, slots := 0, locals := 0 }
theorem dX12_here_0 : decode cX12_here 0 = .ok (.aload_n 0, 1) := by decide +kernel
theorem dX12_here_1 : decode cX12_here 1 = .ok (.getfield 259, 3) := by decide +kernel
theorem dX12_here_4 : decode cX12_here 4 = .ok (.aload_n 0, 1) := by decide +kernel
theorem dX12_here_5 : decode cX12_here 5 = .ok (.getfield 256, 3) := by decide +kernel
theorem dX12_here_8 : decode cX12_here 8 = .ok (.if_icmp .ge 15, 3) := by decide +kernel
theorem dX12_here_11 : decode cX12_here 11 = .ok (.aload_n 0, 1) := by decide +kernel
theorem dX12_here_12 : decode cX12_here 12 = .ok (.getfield 61, 3) := by decide +kernel
theorem dX12_here_15 : decode cX12_here 15 = .ok (.aload_n 0, 1) := by decide +kernel
theorem dX12_here_16 : decode cX12_here 16 = .ok (.getfield 259, 3) := by decide +kernel
theorem dX12_here_19 : decode cX12_here 19 = .ok (.iaload, 1) := by decide +kernel
theorem dX12_here_20 : decode cX12_here 20 = .ok (.goto 4, 3) := by decide +kernel
theorem dX12_here_23 : decode cX12_here 23 = .ok (.iconst (-1), 1) := by decide +kernel
theorem dX12_here_24 : decode cX12_here 24 = .ok (.ireturn, 1) := by decide +kernel
def f_X12_here (S : SH) (a0 : Nat) (μ : Mem) : Option (Int32 × Mem) :=
  if isO S 12 a0 = true then
  (gI S 12 a0 29 μ).bind fun v1 =>
  (gI S 12 a0 23 μ).bind fun v2 =>
  (if v2 ≤ v1 then
  some ((-1), μ)
  else
  (gR S 12 a0 22).bind fun v3 =>
  (gI S 12 a0 29 μ).bind fun v4 =>
  (aI S .int v3 v4 μ).bind fun v5 =>
  some (v5, μ))
  else none
set_option maxRecDepth 100000 in
set_option maxHeartbeats 4000000 in
theorem c_X12_here {l : Launch} {γ : GE} {S : SH} {a0 : Nat} {μ : Mem} {X : (Int32 × Mem)} (h : f_X12_here S a0 μ = some X) : isO S 12 a0 = true ∧ Ct l γ yX12_here cX12_here 1 (some .int) rm_X12_here [.ref (gb γ + a0)] S μ S X.2 (some (.int X.1)) := by
  unfold f_X12_here at h
  obtain ⟨h0, h⟩ := if_some h
  refine ⟨h0, ?_⟩
  have hJ : ∀ (p : Program) (e : Env) (s : State) (m : MethodId) (args : Array Value) (below : List Frame) (meth : Method) (c : Code), FX γ p s m args meth c cX12_here RX12 1 → meth.sig.returnType = (some .int) → JJ γ p l e rm_X12_here s m args below meth c 1 0 0 (QI below γ S X args s 0 0) S μ 0 [(0, .ref (gb γ + a0))] [] := by
    intro p e s m args below meth c F hr
    refine j_aload_n F 0 dX12_here_0 rfl ?_
    refine j_gI F fl_RX12_259.l rfl dX12_here_1 h (fun v1 h => ?_)
    refine j_aload_n F 0 dX12_here_4 rfl ?_
    refine j_gI F fl_RX12_256.l rfl dX12_here_5 h (fun v2 h => ?_)
    refine j_icmpge F 23 dX12_here_8 (by decide) h (fun _ h => ?_) (fun _ h => ?_)
    · refine j_iconst F (-1) dX12_here_23 (by decide) ?_
      exact j_iret F hr dX12_here_24 h
    · refine j_aload_n F 0 dX12_here_11 rfl ?_
      refine j_gR F fl_RX12_61 rfl dX12_here_12 h (fun v3 h => ?_)
      refine j_aload_n F 0 dX12_here_15 rfl ?_
      refine j_gI F fl_RX12_259.l rfl dX12_here_16 h (fun v4 h => ?_)
      refine j_iald F dX12_here_19 h (fun v5 h => ?_)
      refine j_goto F 24 dX12_here_20 (by decide) ?_
      exact j_iret F hr dX12_here_24 h
  exact ct_of (by decide +kernel) (Nat.le_of_ble_eq_true rfl) (fun p e s m args below meth c F hr _ => hJ p e s m args below meth c F hr)
def rm_X12_word : Room := { frames := 0, cells := 0, slots := 0, locals := 0 }
theorem dX12_word_0 : decode cX12_word 0 = .ok (.iload_n 0, 1) := by decide +kernel
theorem dX12_word_1 : decode cX12_word 1 = .ok (.tableswitch 47 0 3 #[31, 35, 39, 43], 31) := by decide +kernel
theorem dX12_word_32 : decode cX12_word 32 = .ok (.ldc_w 262, 3) := by decide +kernel
theorem dX12_word_35 : decode cX12_word 35 = .ok (.areturn, 1) := by decide +kernel
theorem dX12_word_36 : decode cX12_word 36 = .ok (.ldc_w 264, 3) := by decide +kernel
theorem dX12_word_39 : decode cX12_word 39 = .ok (.areturn, 1) := by decide +kernel
theorem dX12_word_40 : decode cX12_word 40 = .ok (.ldc_w 266, 3) := by decide +kernel
theorem dX12_word_43 : decode cX12_word 43 = .ok (.areturn, 1) := by decide +kernel
theorem dX12_word_44 : decode cX12_word 44 = .ok (.ldc_w 268, 3) := by decide +kernel
theorem dX12_word_47 : decode cX12_word 47 = .ok (.areturn, 1) := by decide +kernel
theorem dX12_word_48 : decode cX12_word 48 = .ok (.ldc_w 270, 3) := by decide +kernel
theorem dX12_word_51 : decode cX12_word 51 = .ok (.areturn, 1) := by decide +kernel
def f_X12_word (S : SH) (a0 : Int32) (μ : Mem) : Option (Nat × Mem) :=
  (if a0 = 0 then
  some (5, μ)
  else if a0 = 1 then
  some (6, μ)
  else if a0 = 2 then
  some (7, μ)
  else if a0 = 3 then
  some (8, μ)
  else 
  some (9, μ))
set_option maxRecDepth 100000 in
set_option maxHeartbeats 4000000 in
theorem c_X12_word {l : Launch} {γ : GE} {S : SH} {a0 : Int32} {μ : Mem} {X : (Nat × Mem)} (h : f_X12_word S a0 μ = some X) : Ct l γ yX12_word cX12_word 1 (some (.object "java/lang/String")) rm_X12_word [.int a0] S μ S X.2 (some (.ref (gK γ X.1))) := by
  unfold f_X12_word at h
  have hJ : ∀ (p : Program) (e : Env) (s : State) (m : MethodId) (args : Array Value) (below : List Frame) (meth : Method) (c : Code), FX γ p s m args meth c cX12_word RX12 1 → meth.sig.returnType = (some (.object "java/lang/String")) → JJ γ p l e rm_X12_word s m args below meth c 1 0 0 (QT below γ S X args s 0 0) S μ 0 [(0, .int a0)] [] := by
    intro p e s m args below meth c F hr
    refine j_iload_n F 0 dX12_word_0 rfl ?_
    by_cases e0 : a0 = 0
    · rw [if_pos e0] at h
      refine j_tin F (off := 31) 32 dX12_word_1 (by rw [e0]; decide) (by rw [e0]; decide) (by rw [e0]; rfl) (by decide) ?_
      refine j_ldcSw F 5 (by decide) rfl rfl dX12_word_32 ?_
      exact j_tret F hr dX12_word_35 h
    rw [if_neg e0] at h
    by_cases e1 : a0 = 1
    · rw [if_pos e1] at h
      refine j_tin F (off := 35) 36 dX12_word_1 (by rw [e1]; decide) (by rw [e1]; decide) (by rw [e1]; rfl) (by decide) ?_
      refine j_ldcSw F 6 (by decide) rfl rfl dX12_word_36 ?_
      exact j_tret F hr dX12_word_39 h
    rw [if_neg e1] at h
    by_cases e2 : a0 = 2
    · rw [if_pos e2] at h
      refine j_tin F (off := 39) 40 dX12_word_1 (by rw [e2]; decide) (by rw [e2]; decide) (by rw [e2]; rfl) (by decide) ?_
      refine j_ldcSw F 7 (by decide) rfl rfl dX12_word_40 ?_
      exact j_tret F hr dX12_word_43 h
    rw [if_neg e2] at h
    by_cases e3 : a0 = 3
    · rw [if_pos e3] at h
      refine j_tin F (off := 43) 44 dX12_word_1 (by rw [e3]; decide) (by rw [e3]; decide) (by rw [e3]; rfl) (by decide) ?_
      refine j_ldcSw F 8 (by decide) rfl rfl dX12_word_44 ?_
      exact j_tret F hr dX12_word_47 h
    rw [if_neg e3] at h
    have g0 : (a0).toInt ≠ (0 : Int) := fun q => e0 (Int32.toInt_inj.mp (q.trans (by decide)))
    have g1 : (a0).toInt ≠ (1 : Int) := fun q => e1 (Int32.toInt_inj.mp (q.trans (by decide)))
    have g2 : (a0).toInt ≠ (2 : Int) := fun q => e2 (Int32.toInt_inj.mp (q.trans (by decide)))
    have g3 : (a0).toInt ≠ (3 : Int) := fun q => e3 (Int32.toInt_inj.mp (q.trans (by decide)))
    refine j_tout F 48 dX12_word_1 (by omega) (by decide) ?_
    refine j_ldcSw F 9 (by decide) rfl rfl dX12_word_48 ?_
    exact j_tret F hr dX12_word_51 h
  exact ct_of (by decide +kernel) (Nat.le_of_ble_eq_true rfl) (fun p e s m args below meth c F hr _ => hJ p e s m args below meth c F hr)
