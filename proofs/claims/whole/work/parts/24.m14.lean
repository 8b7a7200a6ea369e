def rm_X12_isWord : Room := { frames := 4, cells := 0, slots := 0, locals := 140 }
theorem dX12_isWord_0 : decode cX12_isWord 0 = .ok (.aload_n 0, 1) := by decide +kernel
theorem dX12_isWord_1 : decode cX12_isWord 1 = .ok (.getfield 259, 3) := by decide +kernel
theorem dX12_isWord_4 : decode cX12_isWord 4 = .ok (.iload_n 1, 1) := by decide +kernel
theorem dX12_isWord_5 : decode cX12_isWord 5 = .ok (.isub, 1) := by decide +kernel
theorem dX12_isWord_6 : decode cX12_isWord 6 = .ok (.aload_n 2, 1) := by decide +kernel
theorem dX12_isWord_7 : decode cX12_isWord 7 = .ok (.invokevirtual 272, 3) := by decide +kernel
theorem dX12_isWord_10 : decode cX12_isWord 10 = .ok (.if_icmp .eq 5, 3) := by decide +kernel
theorem dX12_isWord_13 : decode cX12_isWord 13 = .ok (.iconst 0, 1) := by decide +kernel
theorem dX12_isWord_14 : decode cX12_isWord 14 = .ok (.ireturn, 1) := by decide +kernel
theorem dX12_isWord_15 : decode cX12_isWord 15 = .ok (.iconst 0, 1) := by decide +kernel
theorem dX12_isWord_16 : decode cX12_isWord 16 = .ok (.istore_n 3, 1) := by decide +kernel
theorem dX12_isWord_17 : decode cX12_isWord 17 = .ok (.iload_n 3, 1) := by decide +kernel
theorem dX12_isWord_18 : decode cX12_isWord 18 = .ok (.aload_n 2, 1) := by decide +kernel
theorem dX12_isWord_19 : decode cX12_isWord 19 = .ok (.invokevirtual 272, 3) := by decide +kernel
theorem dX12_isWord_22 : decode cX12_isWord 22 = .ok (.if_icmp .ge 27, 3) := by decide +kernel
theorem dX12_isWord_25 : decode cX12_isWord 25 = .ok (.aload_n 0, 1) := by decide +kernel
theorem dX12_isWord_26 : decode cX12_isWord 26 = .ok (.getfield 61, 3) := by decide +kernel
theorem dX12_isWord_29 : decode cX12_isWord 29 = .ok (.iload_n 1, 1) := by decide +kernel
theorem dX12_isWord_30 : decode cX12_isWord 30 = .ok (.iload_n 3, 1) := by decide +kernel
theorem dX12_isWord_31 : decode cX12_isWord 31 = .ok (.iadd, 1) := by decide +kernel
theorem dX12_isWord_32 : decode cX12_isWord 32 = .ok (.iaload, 1) := by decide +kernel
theorem dX12_isWord_33 : decode cX12_isWord 33 = .ok (.aload_n 2, 1) := by decide +kernel
theorem dX12_isWord_34 : decode cX12_isWord 34 = .ok (.iload_n 3, 1) := by decide +kernel
theorem dX12_isWord_35 : decode cX12_isWord 35 = .ok (.invokevirtual 277, 3) := by decide +kernel
theorem dX12_isWord_38 : decode cX12_isWord 38 = .ok (.if_icmp .eq 5, 3) := by decide +kernel
theorem dX12_isWord_41 : decode cX12_isWord 41 = .ok (.iconst 0, 1) := by decide +kernel
theorem dX12_isWord_42 : decode cX12_isWord 42 = .ok (.ireturn, 1) := by decide +kernel
theorem dX12_isWord_43 : decode cX12_isWord 43 = .ok (.iinc 3 1, 3) := by decide +kernel
theorem dX12_isWord_46 : decode cX12_isWord 46 = .ok (.goto (-29), 3) := by decide +kernel
theorem dX12_isWord_49 : decode cX12_isWord 49 = .ok (.iconst 1, 1) := by decide +kernel
theorem dX12_isWord_50 : decode cX12_isWord 50 = .ok (.ireturn, 1) := by decide +kernel
def l_X12_isWord_17 (S : SH) (a0 : Nat) (a1 : Int32) (a2 : Nat) (k17 : (Int32 × Mem) → Option (Int32 × Mem)) (x : (Int32 × Mem)) : Option (Int32 × Mem) :=
 (tLen a2).bind fun v3 =>
 (if v3 ≤ x.1 then
 some (1, x.2)
 else
 (gR S 12 a0 22).bind fun v4 =>
 (aI S .int v4 (a1 + x.1) x.2).bind fun v5 =>
 (tAt a2 x.1).bind fun v6 =>
 (if v5 = v6 then
 k17 (x.1 + 1, x.2)
 else
 some (0, x.2)))
set_option maxRecDepth 100000 in
set_option maxHeartbeats 4000000 in
theorem t_X12_isWord_17 {γ : GE} {p : Program} {l : Launch} {e : Env} {s : State} {m : MethodId} {args : Array Value} {below : List Frame} {meth : Method} {c : Code} {S : SH} {X : (Int32 × Mem)} (F : FX γ p s m args meth c cX12_isWord RX12 4) (hr : meth.sig.returnType = (some .boolean)) (a0 : Nat) (a1 : Int32) (a2 : Nat) (k17 : (Int32 × Mem) → Option (Int32 × Mem)) (hk17 : ∀ (x17_3 : Int32) (ν : Mem), k17 (x17_3, ν) = some X → JJ γ p l e rm_X12_isWord s m args below meth c 4 0 0 (QI below γ S X args s 0 0) S ν 17 [(0, .ref (gb γ + a0)), (1, .int a1), (2, .ref (gK γ a2)), (3, .int x17_3)] []) (x : (Int32 × Mem)) (h : l_X12_isWord_17 S a0 a1 a2 k17 x = some X) : JJ γ p l e rm_X12_isWord s m args below meth c 4 0 0 (QI below γ S X args s 0 0) S x.2 17 [(0, .ref (gb γ + a0)), (1, .int a1), (2, .ref (gK γ a2)), (3, .int x.1)] [] := by
  unfold l_X12_isWord_17 at h
  refine j_iload_n F 3 dX12_isWord_17 rfl ?_
  refine j_aload_n F 2 dX12_isWord_18 rfl ?_
  refine j_slen F w_1372 (rest := [.int x.1]) (Nat.le_of_ble_eq_true rfl) ⟨Nat.le_of_ble_eq_true rfl, Nat.le_of_ble_eq_true rfl⟩ ⟨Nat.le_of_ble_eq_true rfl, Nat.le_of_ble_eq_true rfl⟩ dX12_isWord_19 h (fun v3 h => ?_)
  refine j_icmpge F 49 dX12_isWord_22 (by decide) h (fun _ h => ?_) (fun _ h => ?_)
  · refine j_iconst F 1 dX12_isWord_49 (by decide) ?_
    exact j_zret F hr (Or.inr rfl) dX12_isWord_50 h
  · refine j_aload_n F 0 dX12_isWord_25 rfl ?_
    refine j_gR F fl_RX12_61 rfl dX12_isWord_26 h (fun v4 h => ?_)
    refine j_iload_n F 1 dX12_isWord_29 rfl ?_
    refine j_iload_n F 3 dX12_isWord_30 rfl ?_
    refine j_iadd F dX12_isWord_31 ?_
    refine j_iald F dX12_isWord_32 h (fun v5 h => ?_)
    refine j_aload_n F 2 dX12_isWord_33 rfl ?_
    refine j_iload_n F 3 dX12_isWord_34 rfl ?_
    refine j_sat F w_1373 (rest := [.int v5]) (Nat.le_of_ble_eq_true rfl) ⟨Nat.le_of_ble_eq_true rfl, Nat.le_of_ble_eq_true rfl⟩ ⟨Nat.le_of_ble_eq_true rfl, Nat.le_of_ble_eq_true rfl⟩ dX12_isWord_35 h (fun v6 h => ?_)
    refine j_icmpeq F 43 dX12_isWord_38 (by decide) h (fun _ h => ?_) (fun _ h => ?_)
    · refine j_iinc F 1 3 [(3, .int (x.1 + 1)), (0, .ref (gb γ + a0)), (1, .int a1), (2, .ref (gK γ a2))] dX12_isWord_43 rfl (by decide) (by decide) rfl ?_
      refine j_goto F 17 dX12_isWord_46 (by decide) ?_
      refine j_lv [(0, .ref (gb γ + a0)), (1, .int a1), (2, .ref (gK γ a2)), (3, .int (x.1 + 1))] [1, 2, 3, 0] rfl ?_
      exact hk17 _ _ h
    · refine j_iconst F 0 dX12_isWord_41 (by decide) ?_
      exact j_zret F hr (Or.inl rfl) dX12_isWord_42 h
theorem s_X12_isWord_17 {γ : GE} {p : Program} {l : Launch} {e : Env} {s : State} {m : MethodId} {args : Array Value} {below : List Frame} {meth : Method} {c : Code} {S : SH} {X : (Int32 × Mem)} (F : FX γ p s m args meth c cX12_isWord RX12 4) (hr : meth.sig.returnType = (some .boolean)) (a0 : Nat) (a1 : Int32) (a2 : Nat) (x17_3 : Int32) (ν : Mem) (h : lpN (l_X12_isWord_17 S a0 a1 a2) fu (x17_3, ν) = some X) : JJ γ p l e rm_X12_isWord s m args below meth c 4 0 0 (QI below γ S X args s 0 0) S ν 17 [(0, .ref (gb γ + a0)), (1, .int a1), (2, .ref (gK γ a2)), (3, .int x17_3)] [] :=
 lpN_sound (fun x => JJ γ p l e rm_X12_isWord s m args below meth c 4 0 0 (QI below γ S X args s 0 0) S x.2 17 [(0, .ref (gb γ + a0)), (1, .int a1), (2, .ref (gK γ a2)), (3, .int x.1)] []) (fun k17 hk17 x h => t_X12_isWord_17 F hr a0 a1 a2 k17 (fun x17_3 ν h => hk17 (x17_3, ν) h) x h) fu (x17_3, ν) h
def f_X12_isWord (S : SH) (a0 : Nat) (a1 : Int32) (a2 : Nat) (μ : Mem) : Option (Int32 × Mem) :=
  if isO S 12 a0 = true then
  (gI S 12 a0 29 μ).bind fun v1 =>
  (tLen a2).bind fun v2 =>
  (if (v1 - a1) = v2 then
  lpN (l_X12_isWord_17 S  a0 a1 a2) fu (0, μ)
  else
  some (0, μ))
  else none
set_option maxRecDepth 100000 in
set_option maxHeartbeats 4000000 in
theorem c_X12_isWord {l : Launch} {γ : GE} {S : SH} {a0 : Nat} {a1 : Int32} {a2 : Nat} {μ : Mem} {X : (Int32 × Mem)} (h : f_X12_isWord S a0 a1 a2 μ = some X) : isO S 12 a0 = true ∧ Ct l γ yX12_isWord cX12_isWord 4 (some .boolean) rm_X12_isWord [.ref (gb γ + a0), .int a1, .ref (gK γ a2)] S μ S X.2 (some (.int X.1)) := by
  unfold f_X12_isWord at h
  obtain ⟨h0, h⟩ := if_some h
  refine ⟨h0, ?_⟩
  have hJ : ∀ (p : Program) (e : Env) (s : State) (m : MethodId) (args : Array Value) (below : List Frame) (meth : Method) (c : Code), FX γ p s m args meth c cX12_isWord RX12 4 → meth.sig.returnType = (some .boolean) → JJ γ p l e rm_X12_isWord s m args below meth c 4 0 0 (QI below γ S X args s 0 0) S μ 0 [(0, .ref (gb γ + a0)), (1, .int a1), (2, .ref (gK γ a2))] [] := by
    intro p e s m args below meth c F hr
    refine j_aload_n F 0 dX12_isWord_0 rfl ?_
    refine j_gI F fl_RX12_259.l rfl dX12_isWord_1 h (fun v1 h => ?_)
    refine j_iload_n F 1 dX12_isWord_4 rfl ?_
    refine j_isub F dX12_isWord_5 ?_
    refine j_aload_n F 2 dX12_isWord_6 rfl ?_
    refine j_slen F w_1372 (rest := [.int (v1 - a1)]) (Nat.le_of_ble_eq_true rfl) ⟨Nat.le_of_ble_eq_true rfl, Nat.le_of_ble_eq_true rfl⟩ ⟨Nat.le_of_ble_eq_true rfl, Nat.le_of_ble_eq_true rfl⟩ dX12_isWord_7 h (fun v2 h => ?_)
    refine j_icmpeq F 15 dX12_isWord_10 (by decide) h (fun _ h => ?_) (fun _ h => ?_)
    · refine j_iconst F 0 dX12_isWord_15 (by decide) ?_
      refine j_istore_n F [(3, .int 0), (0, .ref (gb γ + a0)), (1, .int a1), (2, .ref (gK γ a2))] dX12_isWord_16 rfl (by decide) rfl ?_
      refine j_lv [(0, .ref (gb γ + a0)), (1, .int a1), (2, .ref (gK γ a2)), (3, .int 0)] [1, 2, 3, 0] rfl ?_
      exact s_X12_isWord_17 F hr _ _ _ _ _ h
    · refine j_iconst F 0 dX12_isWord_13 (by decide) ?_
      exact j_zret F hr (Or.inl rfl) dX12_isWord_14 h
  exact ct_of (by decide +kernel) (Nat.le_of_ble_eq_true rfl) (fun p e s m args below meth c F hr _ => hJ p e s m args below meth c F hr)
def rm_X12_whatOf : Room := { frames := 0, cells := 0, slots := 0, locals := 0 }
theorem dX12_whatOf_0 : decode cX12_whatOf 0 = .ok (.iload_n 0, 1) := by decide +kernel
theorem dX12_whatOf_1 : decode cX12_whatOf 1 = .ok (.ifCond .eq 8, 3) := by decide +kernel
theorem dX12_whatOf_4 : decode cX12_whatOf 4 = .ok (.iload_n 0, 1) := by decide +kernel
theorem dX12_whatOf_5 : decode cX12_whatOf 5 = .ok (.iconst 3, 1) := by decide +kernel
theorem dX12_whatOf_6 : decode cX12_whatOf 6 = .ok (.if_icmp .ne 7, 3) := by decide +kernel
theorem dX12_whatOf_9 : decode cX12_whatOf 9 = .ok (.iconst 3, 1) := by decide +kernel
theorem dX12_whatOf_10 : decode cX12_whatOf 10 = .ok (.goto 23, 3) := by decide +kernel
theorem dX12_whatOf_13 : decode cX12_whatOf 13 = .ok (.iload_n 0, 1) := by decide +kernel
theorem dX12_whatOf_14 : decode cX12_whatOf 14 = .ok (.iconst 1, 1) := by decide +kernel
theorem dX12_whatOf_15 : decode cX12_whatOf 15 = .ok (.if_icmp .ne 7, 3) := by decide +kernel
theorem dX12_whatOf_18 : decode cX12_whatOf 18 = .ok (.iconst 0, 1) := by decide +kernel
theorem dX12_whatOf_19 : decode cX12_whatOf 19 = .ok (.goto 14, 3) := by decide +kernel
theorem dX12_whatOf_22 : decode cX12_whatOf 22 = .ok (.iload_n 0, 1) := by decide +kernel
theorem dX12_whatOf_23 : decode cX12_whatOf 23 = .ok (.iconst 2, 1) := by decide +kernel
theorem dX12_whatOf_24 : decode cX12_whatOf 24 = .ok (.if_icmp .ne 7, 3) := by decide +kernel
theorem dX12_whatOf_27 : decode cX12_whatOf 27 = .ok (.iconst 1, 1) := by decide +kernel
theorem dX12_whatOf_28 : decode cX12_whatOf 28 = .ok (.goto 5, 3) := by decide +kernel
theorem dX12_whatOf_31 : decode cX12_whatOf 31 = .ok (.bipush 6, 2) := by decide +kernel
theorem dX12_whatOf_33 : decode cX12_whatOf 33 = .ok (.ireturn, 1) := by decide +kernel
def f_X12_whatOf (S : SH) (a0 : Int32) (μ : Mem) : Option (Int32 × Mem) :=
  (if a0 = 0 then
  some (3, μ)
  else
  (if a0 = 3 then
  some (3, μ)
  else
  (if a0 = 1 then
  some (0, μ)
  else
  (if a0 = 2 then
  some (1, μ)
  else
  some (6, μ)))))
set_option maxRecDepth 100000 in
set_option maxHeartbeats 4000000 in
theorem c_X12_whatOf {l : Launch} {γ : GE} {S : SH} {a0 : Int32} {μ : Mem} {X : (Int32 × Mem)} (h : f_X12_whatOf S a0 μ = some X) : Ct l γ yX12_whatOf cX12_whatOf 1 (some .int) rm_X12_whatOf [.int a0] S μ S X.2 (some (.int X.1)) := by
  unfold f_X12_whatOf at h
  have hJ : ∀ (p : Program) (e : Env) (s : State) (m : MethodId) (args : Array Value) (below : List Frame) (meth : Method) (c : Code), FX γ p s m args meth c cX12_whatOf RX12 1 → meth.sig.returnType = (some .int) → JJ γ p l e rm_X12_whatOf s m args below meth c 1 0 0 (QI below γ S X args s 0 0) S μ 0 [(0, .int a0)] [] := by
    intro p e s m args below meth c F hr
    refine j_iload_n F 0 dX12_whatOf_0 rfl ?_
    refine j_ifeq F 9 dX12_whatOf_1 (by decide) h (fun _ h => ?_) (fun _ h => ?_)
    · refine j_iconst F 3 dX12_whatOf_9 (by decide) ?_
      refine j_goto F 33 dX12_whatOf_10 (by decide) ?_
      exact j_iret F hr dX12_whatOf_33 h
    · refine j_iload_n F 0 dX12_whatOf_4 rfl ?_
      refine j_iconst F 3 dX12_whatOf_5 (by decide) ?_
      refine j_icmpne F 13 dX12_whatOf_6 (by decide) h (fun _ h => ?_) (fun _ h => ?_)
      · refine j_iload_n F 0 dX12_whatOf_13 rfl ?_
        refine j_iconst F 1 dX12_whatOf_14 (by decide) ?_
        refine j_icmpne F 22 dX12_whatOf_15 (by decide) h (fun _ h => ?_) (fun _ h => ?_)
        · refine j_iload_n F 0 dX12_whatOf_22 rfl ?_
          refine j_iconst F 2 dX12_whatOf_23 (by decide) ?_
          refine j_icmpne F 31 dX12_whatOf_24 (by decide) h (fun _ h => ?_) (fun _ h => ?_)
          · refine j_bipush F 6 dX12_whatOf_31 (by decide) ?_
            exact j_iret F hr dX12_whatOf_33 h
          · refine j_iconst F 1 dX12_whatOf_27 (by decide) ?_
            refine j_goto F 33 dX12_whatOf_28 (by decide) ?_
            exact j_iret F hr dX12_whatOf_33 h
        · refine j_iconst F 0 dX12_whatOf_18 (by decide) ?_
          refine j_goto F 33 dX12_whatOf_19 (by decide) ?_
          exact j_iret F hr dX12_whatOf_33 h
      · refine j_iconst F 3 dX12_whatOf_9 (by decide) ?_
        refine j_goto F 33 dX12_whatOf_10 (by decide) ?_
        exact j_iret F hr dX12_whatOf_33 h
  exact ct_of (by decide +kernel) (Nat.le_of_ble_eq_true rfl) (fun p e s m args below meth c F hr _ => hJ p e s m args below meth c F hr)
def rm_X12_readStep : Room := { frames := 5, cells := 0, slots := 0, locals := 163 }
theorem dX12_readStep_0 : decode cX12_readStep 0 = .ok (.aload_n 0, 1) := by decide +kernel
theorem dX12_readStep_1 : decode cX12_readStep 1 = .ok (.getfield 259, 3) := by decide +kernel
theorem dX12_readStep_4 : decode cX12_readStep 4 = .ok (.istore_n 2, 1) := by decide +kernel
theorem dX12_readStep_5 : decode cX12_readStep 5 = .ok (.aload_n 0, 1) := by decide +kernel
theorem dX12_readStep_6 : decode cX12_readStep 6 = .ok (.invokevirtual 281, 3) := by decide +kernel
theorem dX12_readStep_9 : decode cX12_readStep 9 = .ok (.bipush 97, 2) := by decide +kernel
theorem dX12_readStep_11 : decode cX12_readStep 11 = .ok (.bipush 122, 2) := by decide +kernel
theorem dX12_readStep_13 : decode cX12_readStep 13 = .ok (.invokestatic 95, 3) := by decide +kernel
theorem dX12_readStep_16 : decode cX12_readStep 16 = .ok (.ifCond .eq 16, 3) := by decide +kernel
theorem dX12_readStep_19 : decode cX12_readStep 19 = .ok (.aload_n 0, 1) := by decide +kernel
theorem dX12_readStep_20 : decode cX12_readStep 20 = .ok (.dup, 1) := by decide +kernel
theorem dX12_readStep_21 : decode cX12_readStep 21 = .ok (.getfield 259, 3) := by decide +kernel
theorem dX12_readStep_24 : decode cX12_readStep 24 = .ok (.iconst 1, 1) := by decide +kernel
theorem dX12_readStep_25 : decode cX12_readStep 25 = .ok (.iadd, 1) := by decide +kernel
theorem dX12_readStep_26 : decode cX12_readStep 26 = .ok (.putfield 259, 3) := by decide +kernel
theorem dX12_readStep_29 : decode cX12_readStep 29 = .ok (.goto (-24), 3) := by decide +kernel
theorem dX12_readStep_32 : decode cX12_readStep 32 = .ok (.iconst (-1), 1) := by decide +kernel
theorem dX12_readStep_33 : decode cX12_readStep 33 = .ok (.istore_n 3, 1) := by decide +kernel
theorem dX12_readStep_34 : decode cX12_readStep 34 = .ok (.iconst 0, 1) := by decide +kernel
theorem dX12_readStep_35 : decode cX12_readStep 35 = .ok (.istore 4, 2) := by decide +kernel
theorem dX12_readStep_37 : decode cX12_readStep 37 = .ok (.iload 4, 2) := by decide +kernel
theorem dX12_readStep_39 : decode cX12_readStep 39 = .ok (.iconst 5, 1) := by decide +kernel
theorem dX12_readStep_40 : decode cX12_readStep 40 = .ok (.if_icmp .ge 29, 3) := by decide +kernel
theorem dX12_readStep_43 : decode cX12_readStep 43 = .ok (.aload_n 0, 1) := by decide +kernel
theorem dX12_readStep_44 : decode cX12_readStep 44 = .ok (.iload_n 2, 1) := by decide +kernel
theorem dX12_readStep_45 : decode cX12_readStep 45 = .ok (.iload 4, 2) := by decide +kernel
theorem dX12_readStep_47 : decode cX12_readStep 47 = .ok (.invokestatic 284, 3) := by decide +kernel
theorem dX12_readStep_50 : decode cX12_readStep 50 = .ok (.invokevirtual 288, 3) := by decide +kernel
theorem dX12_readStep_53 : decode cX12_readStep 53 = .ok (.ifCond .eq 8, 3) := by decide +kernel
theorem dX12_readStep_56 : decode cX12_readStep 56 = .ok (.iload 4, 2) := by decide +kernel
theorem dX12_readStep_58 : decode cX12_readStep 58 = .ok (.goto 4, 3) := by decide +kernel
theorem dX12_readStep_61 : decode cX12_readStep 61 = .ok (.iload_n 3, 1) := by decide +kernel
theorem dX12_readStep_62 : decode cX12_readStep 62 = .ok (.istore_n 3, 1) := by decide +kernel
theorem dX12_readStep_63 : decode cX12_readStep 63 = .ok (.iinc 4 1, 3) := by decide +kernel
theorem dX12_readStep_66 : decode cX12_readStep 66 = .ok (.goto (-29), 3) := by decide +kernel
theorem dX12_readStep_69 : decode cX12_readStep 69 = .ok (.iload_n 3, 1) := by decide +kernel
theorem dX12_readStep_70 : decode cX12_readStep 70 = .ok (.ifCond .ge 5, 3) := by decide +kernel
theorem dX12_readStep_73 : decode cX12_readStep 73 = .ok (.iload_n 2, 1) := by decide +kernel
theorem dX12_readStep_74 : decode cX12_readStep 74 = .ok (.ireturn, 1) := by decide +kernel
theorem dX12_readStep_75 : decode cX12_readStep 75 = .ok (.aload_n 0, 1) := by decide +kernel
theorem dX12_readStep_76 : decode cX12_readStep 76 = .ok (.getfield 70, 3) := by decide +kernel
theorem dX12_readStep_79 : decode cX12_readStep 79 = .ok (.iload_n 1, 1) := by decide +kernel
theorem dX12_readStep_80 : decode cX12_readStep 80 = .ok (.iload_n 3, 1) := by decide +kernel
theorem dX12_readStep_81 : decode cX12_readStep 81 = .ok (.iastore, 1) := by decide +kernel
theorem dX12_readStep_82 : decode cX12_readStep 82 = .ok (.aload_n 0, 1) := by decide +kernel
theorem dX12_readStep_83 : decode cX12_readStep 83 = .ok (.getfield 73, 3) := by decide +kernel
theorem dX12_readStep_86 : decode cX12_readStep 86 = .ok (.iload_n 1, 1) := by decide +kernel
theorem dX12_readStep_87 : decode cX12_readStep 87 = .ok (.iconst 0, 1) := by decide +kernel
theorem dX12_readStep_88 : decode cX12_readStep 88 = .ok (.iastore, 1) := by decide +kernel
theorem dX12_readStep_89 : decode cX12_readStep 89 = .ok (.iload_n 3, 1) := by decide +kernel
theorem dX12_readStep_90 : decode cX12_readStep 90 = .ok (.iconst 3, 1) := by decide +kernel
theorem dX12_readStep_91 : decode cX12_readStep 91 = .ok (.if_icmp .ne 5, 3) := by decide +kernel
theorem dX12_readStep_94 : decode cX12_readStep 94 = .ok (.iconst (-1), 1) := by decide +kernel
theorem dX12_readStep_95 : decode cX12_readStep 95 = .ok (.ireturn, 1) := by decide +kernel
theorem dX12_readStep_96 : decode cX12_readStep 96 = .ok (.aload_n 0, 1) := by decide +kernel
theorem dX12_readStep_97 : decode cX12_readStep 97 = .ok (.invokevirtual 281, 3) := by decide +kernel
theorem dX12_readStep_100 : decode cX12_readStep 100 = .ok (.bipush 32, 2) := by decide +kernel
theorem dX12_readStep_102 : decode cX12_readStep 102 = .ok (.if_icmp .eq 8, 3) := by decide +kernel
theorem dX12_readStep_105 : decode cX12_readStep 105 = .ok (.aload_n 0, 1) := by decide +kernel
theorem dX12_readStep_106 : decode cX12_readStep 106 = .ok (.getfield 259, 3) := by decide +kernel
theorem dX12_readStep_109 : decode cX12_readStep 109 = .ok (.ireturn, 1) := by decide +kernel
theorem dX12_readStep_110 : decode cX12_readStep 110 = .ok (.aload_n 0, 1) := by decide +kernel
theorem dX12_readStep_111 : decode cX12_readStep 111 = .ok (.dup, 1) := by decide +kernel
theorem dX12_readStep_112 : decode cX12_readStep 112 = .ok (.getfield 259, 3) := by decide +kernel
theorem dX12_readStep_115 : decode cX12_readStep 115 = .ok (.iconst 1, 1) := by decide +kernel
theorem dX12_readStep_116 : decode cX12_readStep 116 = .ok (.iadd, 1) := by decide +kernel
theorem dX12_readStep_117 : decode cX12_readStep 117 = .ok (.putfield 259, 3) := by decide +kernel
theorem dX12_readStep_120 : decode cX12_readStep 120 = .ok (.aload_n 0, 1) := by decide +kernel
theorem dX12_readStep_121 : decode cX12_readStep 121 = .ok (.getfield 259, 3) := by decide +kernel
theorem dX12_readStep_124 : decode cX12_readStep 124 = .ok (.istore 4, 2) := by decide +kernel
theorem dX12_readStep_126 : decode cX12_readStep 126 = .ok (.iconst 0, 1) := by decide +kernel
theorem dX12_readStep_127 : decode cX12_readStep 127 = .ok (.istore 5, 2) := by decide +kernel
theorem dX12_readStep_129 : decode cX12_readStep 129 = .ok (.aload_n 0, 1) := by decide +kernel
theorem dX12_readStep_130 : decode cX12_readStep 130 = .ok (.getfield 259, 3) := by decide +kernel
theorem dX12_readStep_133 : decode cX12_readStep 133 = .ok (.iload 4, 2) := by decide +kernel
theorem dX12_readStep_135 : decode cX12_readStep 135 = .ok (.iconst 4, 1) := by decide +kernel
theorem dX12_readStep_136 : decode cX12_readStep 136 = .ok (.iadd, 1) := by decide +kernel
theorem dX12_readStep_137 : decode cX12_readStep 137 = .ok (.if_icmp .ge 45, 3) := by decide +kernel
theorem dX12_readStep_140 : decode cX12_readStep 140 = .ok (.aload_n 0, 1) := by decide +kernel
theorem dX12_readStep_141 : decode cX12_readStep 141 = .ok (.invokevirtual 281, 3) := by decide +kernel
theorem dX12_readStep_144 : decode cX12_readStep 144 = .ok (.bipush 48, 2) := by decide +kernel
theorem dX12_readStep_146 : decode cX12_readStep 146 = .ok (.bipush 57, 2) := by decide +kernel
theorem dX12_readStep_148 : decode cX12_readStep 148 = .ok (.invokestatic 95, 3) := by decide +kernel
theorem dX12_readStep_151 : decode cX12_readStep 151 = .ok (.ifCond .eq 31, 3) := by decide +kernel
theorem dX12_readStep_154 : decode cX12_readStep 154 = .ok (.bipush 10, 2) := by decide +kernel
theorem dX12_readStep_156 : decode cX12_readStep 156 = .ok (.iload 5, 2) := by decide +kernel
theorem dX12_readStep_158 : decode cX12_readStep 158 = .ok (.imul, 1) := by decide +kernel
theorem dX12_readStep_159 : decode cX12_readStep 159 = .ok (.aload_n 0, 1) := by decide +kernel
theorem dX12_readStep_160 : decode cX12_readStep 160 = .ok (.invokevirtual 281, 3) := by decide +kernel
theorem dX12_readStep_163 : decode cX12_readStep 163 = .ok (.iadd, 1) := by decide +kernel
theorem dX12_readStep_164 : decode cX12_readStep 164 = .ok (.bipush 48, 2) := by decide +kernel
theorem dX12_readStep_166 : decode cX12_readStep 166 = .ok (.isub, 1) := by decide +kernel
theorem dX12_readStep_167 : decode cX12_readStep 167 = .ok (.istore 5, 2) := by decide +kernel
theorem dX12_readStep_169 : decode cX12_readStep 169 = .ok (.aload_n 0, 1) := by decide +kernel
theorem dX12_readStep_170 : decode cX12_readStep 170 = .ok (.dup, 1) := by decide +kernel
theorem dX12_readStep_171 : decode cX12_readStep 171 = .ok (.getfield 259, 3) := by decide +kernel
theorem dX12_readStep_174 : decode cX12_readStep 174 = .ok (.iconst 1, 1) := by decide +kernel
theorem dX12_readStep_175 : decode cX12_readStep 175 = .ok (.iadd, 1) := by decide +kernel
theorem dX12_readStep_176 : decode cX12_readStep 176 = .ok (.putfield 259, 3) := by decide +kernel
theorem dX12_readStep_179 : decode cX12_readStep 179 = .ok (.goto (-50), 3) := by decide +kernel
theorem dX12_readStep_182 : decode cX12_readStep 182 = .ok (.aload_n 0, 1) := by decide +kernel
theorem dX12_readStep_183 : decode cX12_readStep 183 = .ok (.getfield 259, 3) := by decide +kernel
theorem dX12_readStep_186 : decode cX12_readStep 186 = .ok (.iload 4, 2) := by decide +kernel
theorem dX12_readStep_188 : decode cX12_readStep 188 = .ok (.if_icmp .ne 8, 3) := by decide +kernel
theorem dX12_readStep_191 : decode cX12_readStep 191 = .ok (.aload_n 0, 1) := by decide +kernel
theorem dX12_readStep_192 : decode cX12_readStep 192 = .ok (.getfield 259, 3) := by decide +kernel
theorem dX12_readStep_195 : decode cX12_readStep 195 = .ok (.ireturn, 1) := by decide +kernel
theorem dX12_readStep_196 : decode cX12_readStep 196 = .ok (.aload_n 0, 1) := by decide +kernel
theorem dX12_readStep_197 : decode cX12_readStep 197 = .ok (.getfield 73, 3) := by decide +kernel
theorem dX12_readStep_200 : decode cX12_readStep 200 = .ok (.iload_n 1, 1) := by decide +kernel
theorem dX12_readStep_201 : decode cX12_readStep 201 = .ok (.iload 5, 2) := by decide +kernel
theorem dX12_readStep_203 : decode cX12_readStep 203 = .ok (.iastore, 1) := by decide +kernel
theorem dX12_readStep_204 : decode cX12_readStep 204 = .ok (.iload_n 3, 1) := by decide +kernel
theorem dX12_readStep_205 : decode cX12_readStep 205 = .ok (.invokestatic 292, 3) := by decide +kernel
theorem dX12_readStep_208 : decode cX12_readStep 208 = .ok (.iload 5, 2) := by decide +kernel
theorem dX12_readStep_210 : decode cX12_readStep 210 = .ok (.invokestatic 127, 3) := by decide +kernel
theorem dX12_readStep_213 : decode cX12_readStep 213 = .ok (.ifCond .eq 7, 3) := by decide +kernel
theorem dX12_readStep_216 : decode cX12_readStep 216 = .ok (.iconst (-1), 1) := by decide +kernel
theorem dX12_readStep_217 : decode cX12_readStep 217 = .ok (.goto 5, 3) := by decide +kernel
theorem dX12_readStep_220 : decode cX12_readStep 220 = .ok (.iload 4, 2) := by decide +kernel
theorem dX12_readStep_222 : decode cX12_readStep 222 = .ok (.ireturn, 1) := by decide +kernel
def b_X12_readStep_182 (S : SH) (a0 : Nat) (a1 : Int32) (a3 : Int32) (a4 : Int32) (a5 : Int32) (μ : Mem) : Option (Int32 × Mem) :=
 (gI S 12 a0 29 μ).bind fun v13 =>
 (if v13 = a4 then
 (gI S 12 a0 29 μ).bind fun v18 =>
 some (v18, μ)
 else
 (gR S 12 a0 28).bind fun v14 =>
 (sI S v14 a1 a5 μ).bind fun ν15 =>
 (f_X12_whatOf S a3 ν15).bind fun q16 =>
 (f_X12_isFor S q16.1 a5 q16.2).bind fun q17 =>
 (if q17.1 = 0 then
 some (a4, q17.2)
 else
 some ((-1), q17.2)))
set_option maxRecDepth 100000 in
set_option maxHeartbeats 4000000 in
theorem s_X12_readStep_182 {γ : GE} {p : Program} {l : Launch} {e : Env} {s : State} {m : MethodId} {args : Array Value} {below : List Frame} {meth : Method} {c : Code} {S : SH} {X : (Int32 × Mem)} (F : FX γ p s m args meth c cX12_readStep RX12 6) (hr : meth.sig.returnType = (some .int)) (a0 : Nat) (a1 : Int32) (a3 : Int32) (a4 : Int32) (a5 : Int32)    (μ : Mem) (h : b_X12_readStep_182 S a0 a1 a3 a4 a5 μ = some X) : JJ γ p l e rm_X12_readStep s m args below meth c 6 0 0 (QI below γ S X args s 0 0) S μ 182 [(0, .ref (gb γ + a0)), (1, .int a1), (3, .int a3), (4, .int a4), (5, .int a5)] [] := by
  unfold b_X12_readStep_182 at h
  refine j_aload_n F 0 dX12_readStep_182 rfl ?_
  refine j_gI F fl_RX12_259.l rfl dX12_readStep_183 h (fun v13 h => ?_)
  refine j_iload F 3 dX12_readStep_186 rfl ?_
  refine j_icmpne F 196 dX12_readStep_188 (by decide) h (fun _ h => ?_) (fun _ h => ?_)
  · refine j_aload_n F 0 dX12_readStep_196 rfl ?_
    refine j_gR F fl_RX12_73 rfl dX12_readStep_197 h (fun v14 h => ?_)
    refine j_iload_n F 1 dX12_readStep_200 rfl ?_
    refine j_iload F 4 dX12_readStep_201 rfl ?_
    refine j_iast F dX12_readStep_203 h (fun ν15 h => ?_)
    refine j_iload_n F 2 dX12_readStep_204 rfl ?_
    refine j_cSI F mi_X12_whatOf w_1374 (rest := []) h (fun _ g => c_X12_whatOf g) rfl rfl (Nat.le_of_ble_eq_true rfl) ⟨Nat.le_of_ble_eq_true rfl, Nat.le_of_ble_eq_true rfl⟩ ⟨Nat.le_of_ble_eq_true rfl, Nat.le_of_ble_eq_true rfl⟩ dX12_readStep_205 (fun q16 h => ?_)
    refine j_iload F 4 dX12_readStep_208 rfl ?_
    refine j_cSI F mi_X12_isFor w_1138 (rest := []) h (fun _ g => c_X12_isFor g) rfl rfl (Nat.le_of_ble_eq_true rfl) ⟨Nat.le_of_ble_eq_true rfl, Nat.le_of_ble_eq_true rfl⟩ ⟨Nat.le_of_ble_eq_true rfl, Nat.le_of_ble_eq_true rfl⟩ dX12_readStep_210 (fun q17 h => ?_)
    refine j_ifeq F 220 dX12_readStep_213 (by decide) h (fun _ h => ?_) (fun _ h => ?_)
    · refine j_iload F 3 dX12_readStep_220 rfl ?_
      exact j_iret F hr dX12_readStep_222 h
    · refine j_iconst F (-1) dX12_readStep_216 (by decide) ?_
      refine j_goto F 222 dX12_readStep_217 (by decide) ?_
      exact j_iret F hr dX12_readStep_222 h
  · refine j_aload_n F 0 dX12_readStep_191 rfl ?_
    refine j_gI F fl_RX12_259.l rfl dX12_readStep_192 h (fun v18 h => ?_)
    exact j_iret F hr dX12_readStep_195 h
def l_X12_readStep_129 (S : SH) (a0 : Nat) (a1 : Int32) (a3 : Int32) (a4 : Int32) (k129 : (Int32 × Mem) → Option (Int32 × Mem)) (x : (Int32 × Mem)) : Option (Int32 × Mem) :=
 (gI S 12 a0 29 x.2).bind fun v12 =>
 (if (a4 + 4) ≤ v12 then
 b_X12_readStep_182 S a0 a1 a3 a4 x.1 x.2
 else
 (f_X12_here S a0 x.2).bind fun q19 =>
 (f_X12_in S q19.1 48 57 q19.2).bind fun q20 =>
 (if q20.1 = 0 then
 b_X12_readStep_182 S a0 a1 a3 a4 x.1 q20.2
 else
 (f_X12_here S a0 q20.2).bind fun q21 =>
 (some (((10 * x.1) + q21.1) - 48)).bind fun y22 =>
 (gI S 12 a0 29 q21.2).bind fun v23 =>
 (pI S 12 a0 29 (v23 + 1) q21.2).bind fun ν24 =>
 k129 (y22, ν24)))
set_option maxRecDepth 100000 in
set_option maxHeartbeats 4000000 in
theorem t_X12_readStep_129 {γ : GE} {p : Program} {l : Launch} {e : Env} {s : State} {m : MethodId} {args : Array Value} {below : List Frame} {meth : Method} {c : Code} {S : SH} {X : (Int32 × Mem)} (F : FX γ p s m args meth c cX12_readStep RX12 6) (hr : meth.sig.returnType = (some .int)) (a0 : Nat) (a1 : Int32) (a3 : Int32) (a4 : Int32) (k129 : (Int32 × Mem) → Option (Int32 × Mem)) (hk129 : ∀ (x129_5 : Int32) (ν : Mem), k129 (x129_5, ν) = some X → JJ γ p l e rm_X12_readStep s m args below meth c 6 0 0 (QI below γ S X args s 0 0) S ν 129 [(0, .ref (gb γ + a0)), (1, .int a1), (3, .int a3), (4, .int a4), (5, .int x129_5)] []) (x : (Int32 × Mem)) (h : l_X12_readStep_129 S a0 a1 a3 a4 k129 x = some X) : JJ γ p l e rm_X12_readStep s m args below meth c 6 0 0 (QI below γ S X args s 0 0) S x.2 129 [(0, .ref (gb γ + a0)), (1, .int a1), (3, .int a3), (4, .int a4), (5, .int x.1)] [] := by
  unfold l_X12_readStep_129 at h
  refine j_aload_n F 0 dX12_readStep_129 rfl ?_
  refine j_gI F fl_RX12_259.l rfl dX12_readStep_130 h (fun v12 h => ?_)
  refine j_iload F 3 dX12_readStep_133 rfl ?_
  refine j_iconst F 4 dX12_readStep_135 (by decide) ?_
  refine j_iadd F dX12_readStep_136 ?_
  refine j_icmpge F 182 dX12_readStep_137 (by decide) h (fun _ h => ?_) (fun _ h => ?_)
  · exact s_X12_readStep_182 F hr _ _ _ _ _ _ h
  · refine j_aload_n F 0 dX12_readStep_140 rfl ?_
    refine j_cVI F mi_X12_here w_1356 (rest := []) h (fun _ g => c_X12_here g) rfl rfl (Nat.le_of_ble_eq_true rfl) ⟨Nat.le_of_ble_eq_true rfl, Nat.le_of_ble_eq_true rfl⟩ ⟨Nat.le_of_ble_eq_true rfl, Nat.le_of_ble_eq_true rfl⟩ dX12_readStep_141 (fun q19 h => ?_)
    refine j_bipush F 48 dX12_readStep_144 (by decide) ?_
    refine j_bipush F 57 dX12_readStep_146 (by decide) ?_
    refine j_cSI F mi_X12_in w_1104 (rest := []) h (fun _ g => c_X12_in g) rfl rfl (Nat.le_of_ble_eq_true rfl) ⟨Nat.le_of_ble_eq_true rfl, Nat.le_of_ble_eq_true rfl⟩ ⟨Nat.le_of_ble_eq_true rfl, Nat.le_of_ble_eq_true rfl⟩ dX12_readStep_148 (fun q20 h => ?_)
    refine j_ifeq F 182 dX12_readStep_151 (by decide) h (fun _ h => ?_) (fun _ h => ?_)
    · exact s_X12_readStep_182 F hr _ _ _ _ _ _ h
    · refine j_bipush F 10 dX12_readStep_154 (by decide) ?_
      refine j_iload F 4 dX12_readStep_156 rfl ?_
      refine j_imul F dX12_readStep_158 ?_
      refine j_aload_n F 0 dX12_readStep_159 rfl ?_
      refine j_cVI F mi_X12_here w_1356 (rest := [.int (10 * x.1)]) h (fun _ g => c_X12_here g) rfl rfl (Nat.le_of_ble_eq_true rfl) ⟨Nat.le_of_ble_eq_true rfl, Nat.le_of_ble_eq_true rfl⟩ ⟨Nat.le_of_ble_eq_true rfl, Nat.le_of_ble_eq_true rfl⟩ dX12_readStep_160 (fun q21 h => ?_)
      refine j_iadd F dX12_readStep_163 ?_
      refine j_bipush F 48 dX12_readStep_164 (by decide) ?_
      refine j_isub F dX12_readStep_166 ?_
      refine j_nmI h (fun y22 h => ?_)
      refine j_istore F [(5, .int y22), (0, .ref (gb γ + a0)), (1, .int a1), (3, .int a3), (4, .int a4)] dX12_readStep_167 (by decide) rfl ?_
      refine j_aload_n F 1 dX12_readStep_169 rfl ?_
      refine j_dup F dX12_readStep_170 rfl ?_
      refine j_gI F fl_RX12_259.l rfl dX12_readStep_171 h (fun v23 h => ?_)
      refine j_iconst F 1 dX12_readStep_174 (by decide) ?_
      refine j_iadd F dX12_readStep_175 ?_
      refine j_pI F fl_RX12_259 rfl dX12_readStep_176 h (fun ν24 h => ?_)
      refine j_goto F 129 dX12_readStep_179 (by decide) ?_
      refine j_lv [(0, .ref (gb γ + a0)), (1, .int a1), (3, .int a3), (4, .int a4), (5, .int y22)] [1, 2, 3, 4, 0] rfl ?_
      exact hk129 _ _ h
theorem s_X12_readStep_129 {γ : GE} {p : Program} {l : Launch} {e : Env} {s : State} {m : MethodId} {args : Array Value} {below : List Frame} {meth : Method} {c : Code} {S : SH} {X : (Int32 × Mem)} (F : FX γ p s m args meth c cX12_readStep RX12 6) (hr : meth.sig.returnType = (some .int)) (a0 : Nat) (a1 : Int32) (a3 : Int32) (a4 : Int32) (x129_5 : Int32) (ν : Mem) (h : lpN (l_X12_readStep_129 S a0 a1 a3 a4) fu (x129_5, ν) = some X) : JJ γ p l e rm_X12_readStep s m args below meth c 6 0 0 (QI below γ S X args s 0 0) S ν 129 [(0, .ref (gb γ + a0)), (1, .int a1), (3, .int a3), (4, .int a4), (5, .int x129_5)] [] :=
 lpN_sound (fun x => JJ γ p l e rm_X12_readStep s m args below meth c 6 0 0 (QI below γ S X args s 0 0) S x.2 129 [(0, .ref (gb γ + a0)), (1, .int a1), (3, .int a3), (4, .int a4), (5, .int x.1)] []) (fun k129 hk129 x h => t_X12_readStep_129 F hr a0 a1 a3 a4 k129 (fun x129_5 ν h => hk129 (x129_5, ν) h) x h) fu (x129_5, ν) h
def b_X12_readStep_69 (S : SH) (a0 : Nat) (a1 : Int32) (a2 : Int32) (a3 : Int32) (μ : Mem) : Option (Int32 × Mem) :=
 (if 0 ≤ a3 then
 (gR S 12 a0 27).bind fun v4 =>
 (sI S v4 a1 a3 μ).bind fun ν5 =>
 (gR S 12 a0 28).bind fun v6 =>
 (sI S v6 a1 0 ν5).bind fun ν7 =>
 (if a3 = 3 then
 some ((-1), ν7)
 else
 (f_X12_here S a0 ν7).bind fun q8 =>
 (if q8.1 = 32 then
 (gI S 12 a0 29 q8.2).bind fun v9 =>
 (pI S 12 a0 29 (v9 + 1) q8.2).bind fun ν10 =>
 (gI S 12 a0 29 ν10).bind fun v11 =>
 lpN (l_X12_readStep_129 S a0 a1 a3 v11) fu (0, ν10)
 else
 (gI S 12 a0 29 q8.2).bind fun v25 =>
 some (v25, q8.2)))
 else
 some (a2, μ))
set_option maxRecDepth 100000 in
set_option maxHeartbeats 4000000 in
theorem s_X12_readStep_69 {γ : GE} {p : Program} {l : Launch} {e : Env} {s : State} {m : MethodId} {args : Array Value} {below : List Frame} {meth : Method} {c : Code} {S : SH} {X : (Int32 × Mem)} (F : FX γ p s m args meth c cX12_readStep RX12 6) (hr : meth.sig.returnType = (some .int)) (a0 : Nat) (a1 : Int32) (a2 : Int32) (a3 : Int32)    (μ : Mem) (h : b_X12_readStep_69 S a0 a1 a2 a3 μ = some X) : JJ γ p l e rm_X12_readStep s m args below meth c 6 0 0 (QI below γ S X args s 0 0) S μ 69 [(0, .ref (gb γ + a0)), (1, .int a1), (2, .int a2), (3, .int a3)] [] := by
  unfold b_X12_readStep_69 at h
  refine j_iload_n F 3 dX12_readStep_69 rfl ?_
  refine j_ifge F 75 dX12_readStep_70 (by decide) h (fun _ h => ?_) (fun _ h => ?_)
  · refine j_aload_n F 0 dX12_readStep_75 rfl ?_
    refine j_gR F fl_RX12_70 rfl dX12_readStep_76 h (fun v4 h => ?_)
    refine j_iload_n F 1 dX12_readStep_79 rfl ?_
    refine j_iload_n F 3 dX12_readStep_80 rfl ?_
    refine j_iast F dX12_readStep_81 h (fun ν5 h => ?_)
    refine j_aload_n F 0 dX12_readStep_82 rfl ?_
    refine j_gR F fl_RX12_73 rfl dX12_readStep_83 h (fun v6 h => ?_)
    refine j_iload_n F 1 dX12_readStep_86 rfl ?_
    refine j_iconst F 0 dX12_readStep_87 (by decide) ?_
    refine j_iast F dX12_readStep_88 h (fun ν7 h => ?_)
    refine j_iload_n F 3 dX12_readStep_89 rfl ?_
    refine j_iconst F 3 dX12_readStep_90 (by decide) ?_
    refine j_icmpne F 96 dX12_readStep_91 (by decide) h (fun _ h => ?_) (fun _ h => ?_)
    · refine j_aload_n F 0 dX12_readStep_96 rfl ?_
      refine j_cVI F mi_X12_here w_1356 (rest := []) h (fun _ g => c_X12_here g) rfl rfl (Nat.le_of_ble_eq_true rfl) ⟨Nat.le_of_ble_eq_true rfl, Nat.le_of_ble_eq_true rfl⟩ ⟨Nat.le_of_ble_eq_true rfl, Nat.le_of_ble_eq_true rfl⟩ dX12_readStep_97 (fun q8 h => ?_)
      refine j_bipush F 32 dX12_readStep_100 (by decide) ?_
      refine j_icmpeq F 110 dX12_readStep_102 (by decide) h (fun _ h => ?_) (fun _ h => ?_)
      · refine j_aload_n F 0 dX12_readStep_110 rfl ?_
        refine j_dup F dX12_readStep_111 rfl ?_
        refine j_gI F fl_RX12_259.l rfl dX12_readStep_112 h (fun v9 h => ?_)
        refine j_iconst F 1 dX12_readStep_115 (by decide) ?_
        refine j_iadd F dX12_readStep_116 ?_
        refine j_pI F fl_RX12_259 rfl dX12_readStep_117 h (fun ν10 h => ?_)
        refine j_aload_n F 0 dX12_readStep_120 rfl ?_
        refine j_gI F fl_RX12_259.l rfl dX12_readStep_121 h (fun v11 h => ?_)
        refine j_istore F [(4, .int v11), (0, .ref (gb γ + a0)), (1, .int a1), (2, .int a2), (3, .int a3)] dX12_readStep_124 (by decide) rfl ?_
        refine j_iconst F 0 dX12_readStep_126 (by decide) ?_
        refine j_istore F [(5, .int 0), (4, .int v11), (0, .ref (gb γ + a0)), (1, .int a1), (2, .int a2), (3, .int a3)] dX12_readStep_127 (by decide) rfl ?_
        refine j_lv [(0, .ref (gb γ + a0)), (1, .int a1), (3, .int a3), (4, .int v11), (5, .int 0)] [2, 3, 5, 1, 0] rfl ?_
        exact s_X12_readStep_129 F hr _ _ _ _ _ _ h
      · refine j_aload_n F 0 dX12_readStep_105 rfl ?_
        refine j_gI F fl_RX12_259.l rfl dX12_readStep_106 h (fun v25 h => ?_)
        exact j_iret F hr dX12_readStep_109 h
    · refine j_iconst F (-1) dX12_readStep_94 (by decide) ?_
      exact j_iret F hr dX12_readStep_95 h
  · refine j_iload_n F 2 dX12_readStep_73 rfl ?_
    exact j_iret F hr dX12_readStep_74 h
def l_X12_readStep_37 (S : SH) (a0 : Nat) (a1 : Int32) (a2 : Int32) (k37 : (Int32 × Int32 × Mem) → Option (Int32 × Mem)) (x : (Int32 × Int32 × Mem)) : Option (Int32 × Mem) :=
 (if 5 ≤ x.2.1 then
 b_X12_readStep_69 S a0 a1 a2 x.1 x.2.2
 else
 (f_X12_word S x.2.1 x.2.2).bind fun q26 =>
 (f_X12_isWord S a0 a2 q26.1 q26.2).bind fun q27 =>
 (if q27.1 = 0 then
 k37 (x.1, x.2.1 + 1, q27.2)
 else
 k37 (x.2.1, x.2.1 + 1, q27.2)))
set_option maxRecDepth 100000 in
set_option maxHeartbeats 4000000 in
theorem t_X12_readStep_37 {γ : GE} {p : Program} {l : Launch} {e : Env} {s : State} {m : MethodId} {args : Array Value} {below : List Frame} {meth : Method} {c : Code} {S : SH} {X : (Int32 × Mem)} (F : FX γ p s m args meth c cX12_readStep RX12 6) (hr : meth.sig.returnType = (some .int)) (a0 : Nat) (a1 : Int32) (a2 : Int32) (k37 : (Int32 × Int32 × Mem) → Option (Int32 × Mem)) (hk37 : ∀ (x37_3 : Int32) (x37_4 : Int32) (ν : Mem), k37 (x37_3, x37_4, ν) = some X → JJ γ p l e rm_X12_readStep s m args below meth c 6 0 0 (QI below γ S X args s 0 0) S ν 37 [(0, .ref (gb γ + a0)), (1, .int a1), (2, .int a2), (3, .int x37_3), (4, .int x37_4)] []) (x : (Int32 × Int32 × Mem)) (h : l_X12_readStep_37 S a0 a1 a2 k37 x = some X) : JJ γ p l e rm_X12_readStep s m args below meth c 6 0 0 (QI below γ S X args s 0 0) S x.2.2 37 [(0, .ref (gb γ + a0)), (1, .int a1), (2, .int a2), (3, .int x.1), (4, .int x.2.1)] [] := by
  unfold l_X12_readStep_37 at h
  refine j_iload F 4 dX12_readStep_37 rfl ?_
  refine j_iconst F 5 dX12_readStep_39 (by decide) ?_
  refine j_icmpge F 69 dX12_readStep_40 (by decide) h (fun _ h => ?_) (fun _ h => ?_)
  · refine j_lv [(0, .ref (gb γ + a0)), (1, .int a1), (2, .int a2), (3, .int x.1)] [0, 1, 2, 3] rfl ?_
    exact s_X12_readStep_69 F hr _ _ _ _ _ h
  · refine j_aload_n F 0 dX12_readStep_43 rfl ?_
    refine j_iload_n F 2 dX12_readStep_44 rfl ?_
    refine j_iload F 4 dX12_readStep_45 rfl ?_
    refine j_cSS F mi_X12_word w_1360 (rest := [.int a2, .ref (gb γ + a0)]) h (fun _ g => c_X12_word g) rfl rfl (Nat.le_of_ble_eq_true rfl) ⟨Nat.le_of_ble_eq_true rfl, Nat.le_of_ble_eq_true rfl⟩ ⟨Nat.le_of_ble_eq_true rfl, Nat.le_of_ble_eq_true rfl⟩ dX12_readStep_47 (fun q26 h => ?_)
    refine j_cVI F mi_X12_isWord w_1368 (rest := []) h (fun _ g => c_X12_isWord g) rfl rfl (Nat.le_of_ble_eq_true rfl) ⟨Nat.le_of_ble_eq_true rfl, Nat.le_of_ble_eq_true rfl⟩ ⟨Nat.le_of_ble_eq_true rfl, Nat.le_of_ble_eq_true rfl⟩ dX12_readStep_50 (fun q27 h => ?_)
    refine j_ifeq F 61 dX12_readStep_53 (by decide) h (fun _ h => ?_) (fun _ h => ?_)
    · refine j_iload_n F 3 dX12_readStep_61 rfl ?_
      refine j_istore_n F [(3, .int x.1), (0, .ref (gb γ + a0)), (1, .int a1), (2, .int a2), (4, .int x.2.1)] dX12_readStep_62 rfl (by decide) rfl ?_
      refine j_iinc F 1 4 [(4, .int (x.2.1 + 1)), (3, .int x.1), (0, .ref (gb γ + a0)), (1, .int a1), (2, .int a2)] dX12_readStep_63 rfl (by decide) (by decide) rfl ?_
      refine j_goto F 37 dX12_readStep_66 (by decide) ?_
      refine j_lv [(0, .ref (gb γ + a0)), (1, .int a1), (2, .int a2), (3, .int x.1), (4, .int (x.2.1 + 1))] [2, 3, 4, 1, 0] rfl ?_
      exact hk37 _ _ _ h
    · refine j_iload F 4 dX12_readStep_56 rfl ?_
      refine j_goto F 62 dX12_readStep_58 (by decide) ?_
      refine j_istore_n F [(3, .int x.2.1), (0, .ref (gb γ + a0)), (1, .int a1), (2, .int a2), (4, .int x.2.1)] dX12_readStep_62 rfl (by decide) rfl ?_
      refine j_iinc F 1 4 [(4, .int (x.2.1 + 1)), (3, .int x.2.1), (0, .ref (gb γ + a0)), (1, .int a1), (2, .int a2)] dX12_readStep_63 rfl (by decide) (by decide) rfl ?_
      refine j_goto F 37 dX12_readStep_66 (by decide) ?_
      refine j_lv [(0, .ref (gb γ + a0)), (1, .int a1), (2, .int a2), (3, .int x.2.1), (4, .int (x.2.1 + 1))] [2, 3, 4, 1, 0] rfl ?_
      exact hk37 _ _ _ h
theorem s_X12_readStep_37 {γ : GE} {p : Program} {l : Launch} {e : Env} {s : State} {m : MethodId} {args : Array Value} {below : List Frame} {meth : Method} {c : Code} {S : SH} {X : (Int32 × Mem)} (F : FX γ p s m args meth c cX12_readStep RX12 6) (hr : meth.sig.returnType = (some .int)) (a0 : Nat) (a1 : Int32) (a2 : Int32) (x37_3 : Int32) (x37_4 : Int32) (ν : Mem) (h : lpN (l_X12_readStep_37 S a0 a1 a2) fu (x37_3, x37_4, ν) = some X) : JJ γ p l e rm_X12_readStep s m args below meth c 6 0 0 (QI below γ S X args s 0 0) S ν 37 [(0, .ref (gb γ + a0)), (1, .int a1), (2, .int a2), (3, .int x37_3), (4, .int x37_4)] [] :=
 lpN_sound (fun x => JJ γ p l e rm_X12_readStep s m args below meth c 6 0 0 (QI below γ S X args s 0 0) S x.2.2 37 [(0, .ref (gb γ + a0)), (1, .int a1), (2, .int a2), (3, .int x.1), (4, .int x.2.1)] []) (fun k37 hk37 x h => t_X12_readStep_37 F hr a0 a1 a2 k37 (fun x37_3 x37_4 ν h => hk37 (x37_3, x37_4, ν) h) x h) fu (x37_3, x37_4, ν) h
def b_X12_readStep_32 (S : SH) (a0 : Nat) (a1 : Int32) (a2 : Int32) (μ : Mem) : Option (Int32 × Mem) :=
 lpN (l_X12_readStep_37 S a0 a1 a2) fu ((-1), 0, μ)
set_option maxRecDepth 100000 in
set_option maxHeartbeats 4000000 in
theorem s_X12_readStep_32 {γ : GE} {p : Program} {l : Launch} {e : Env} {s : State} {m : MethodId} {args : Array Value} {below : List Frame} {meth : Method} {c : Code} {S : SH} {X : (Int32 × Mem)} (F : FX γ p s m args meth c cX12_readStep RX12 6) (hr : meth.sig.returnType = (some .int)) (a0 : Nat) (a1 : Int32) (a2 : Int32)    (μ : Mem) (h : b_X12_readStep_32 S a0 a1 a2 μ = some X) : JJ γ p l e rm_X12_readStep s m args below meth c 6 0 0 (QI below γ S X args s 0 0) S μ 32 [(0, .ref (gb γ + a0)), (1, .int a1), (2, .int a2)] [] := by
  unfold b_X12_readStep_32 at h
  refine j_iconst F (-1) dX12_readStep_32 (by decide) ?_
  refine j_istore_n F [(3, .int (-1)), (0, .ref (gb γ + a0)), (1, .int a1), (2, .int a2)] dX12_readStep_33 rfl (by decide) rfl ?_
  refine j_iconst F 0 dX12_readStep_34 (by decide) ?_
  refine j_istore F [(4, .int 0), (3, .int (-1)), (0, .ref (gb γ + a0)), (1, .int a1), (2, .int a2)] dX12_readStep_35 (by decide) rfl ?_
  refine j_lv [(0, .ref (gb γ + a0)), (1, .int a1), (2, .int a2), (3, .int (-1)), (4, .int 0)] [2, 3, 4, 1, 0] rfl ?_
  exact s_X12_readStep_37 F hr _ _ _ _ _ _ h
def l_X12_readStep_5 (S : SH) (a0 : Nat) (a1 : Int32) (a2 : Int32) (k5 : (Mem) → Option (Int32 × Mem)) (x : (Mem)) : Option (Int32 × Mem) :=
 (f_X12_here S a0 x).bind fun q2 =>
 (f_X12_in S q2.1 97 122 q2.2).bind fun q3 =>
 (if q3.1 = 0 then
 b_X12_readStep_32 S a0 a1 a2 q3.2
 else
 (gI S 12 a0 29 q3.2).bind fun v28 =>
 (pI S 12 a0 29 (v28 + 1) q3.2).bind fun ν29 =>
 k5 (ν29))
set_option maxRecDepth 100000 in
set_option maxHeartbeats 4000000 in
theorem t_X12_readStep_5 {γ : GE} {p : Program} {l : Launch} {e : Env} {s : State} {m : MethodId} {args : Array Value} {below : List Frame} {meth : Method} {c : Code} {S : SH} {X : (Int32 × Mem)} (F : FX γ p s m args meth c cX12_readStep RX12 6) (hr : meth.sig.returnType = (some .int)) (a0 : Nat) (a1 : Int32) (a2 : Int32) (k5 : (Mem) → Option (Int32 × Mem)) (hk5 : ∀ (ν : Mem), k5 (ν) = some X → JJ γ p l e rm_X12_readStep s m args below meth c 6 0 0 (QI below γ S X args s 0 0) S ν 5 [(0, .ref (gb γ + a0)), (1, .int a1), (2, .int a2)] []) (x : (Mem)) (h : l_X12_readStep_5 S a0 a1 a2 k5 x = some X) : JJ γ p l e rm_X12_readStep s m args below meth c 6 0 0 (QI below γ S X args s 0 0) S x 5 [(0, .ref (gb γ + a0)), (1, .int a1), (2, .int a2)] [] := by
  unfold l_X12_readStep_5 at h
  refine j_aload_n F 0 dX12_readStep_5 rfl ?_
  refine j_cVI F mi_X12_here w_1356 (rest := []) h (fun _ g => c_X12_here g) rfl rfl (Nat.le_of_ble_eq_true rfl) ⟨Nat.le_of_ble_eq_true rfl, Nat.le_of_ble_eq_true rfl⟩ ⟨Nat.le_of_ble_eq_true rfl, Nat.le_of_ble_eq_true rfl⟩ dX12_readStep_6 (fun q2 h => ?_)
  refine j_bipush F 97 dX12_readStep_9 (by decide) ?_
  refine j_bipush F 122 dX12_readStep_11 (by decide) ?_
  refine j_cSI F mi_X12_in w_1104 (rest := []) h (fun _ g => c_X12_in g) rfl rfl (Nat.le_of_ble_eq_true rfl) ⟨Nat.le_of_ble_eq_true rfl, Nat.le_of_ble_eq_true rfl⟩ ⟨Nat.le_of_ble_eq_true rfl, Nat.le_of_ble_eq_true rfl⟩ dX12_readStep_13 (fun q3 h => ?_)
  refine j_ifeq F 32 dX12_readStep_16 (by decide) h (fun _ h => ?_) (fun _ h => ?_)
  · exact s_X12_readStep_32 F hr _ _ _ _ h
  · refine j_aload_n F 0 dX12_readStep_19 rfl ?_
    refine j_dup F dX12_readStep_20 rfl ?_
    refine j_gI F fl_RX12_259.l rfl dX12_readStep_21 h (fun v28 h => ?_)
    refine j_iconst F 1 dX12_readStep_24 (by decide) ?_
    refine j_iadd F dX12_readStep_25 ?_
    refine j_pI F fl_RX12_259 rfl dX12_readStep_26 h (fun ν29 h => ?_)
    refine j_goto F 5 dX12_readStep_29 (by decide) ?_
    exact hk5  _ h
theorem s_X12_readStep_5 {γ : GE} {p : Program} {l : Launch} {e : Env} {s : State} {m : MethodId} {args : Array Value} {below : List Frame} {meth : Method} {c : Code} {S : SH} {X : (Int32 × Mem)} (F : FX γ p s m args meth c cX12_readStep RX12 6) (hr : meth.sig.returnType = (some .int)) (a0 : Nat) (a1 : Int32) (a2 : Int32) (ν : Mem) (h : lpN (l_X12_readStep_5 S a0 a1 a2) fu (ν) = some X) : JJ γ p l e rm_X12_readStep s m args below meth c 6 0 0 (QI below γ S X args s 0 0) S ν 5 [(0, .ref (gb γ + a0)), (1, .int a1), (2, .int a2)] [] :=
 lpN_sound (fun x => JJ γ p l e rm_X12_readStep s m args below meth c 6 0 0 (QI below γ S X args s 0 0) S x 5 [(0, .ref (gb γ + a0)), (1, .int a1), (2, .int a2)] []) (fun k5 hk5 x h => t_X12_readStep_5 F hr a0 a1 a2 k5 (fun ν h => hk5 (ν) h) x h) fu (ν) h
def f_X12_readStep (S : SH) (a0 : Nat) (a1 : Int32) (μ : Mem) : Option (Int32 × Mem) :=
  if isO S 12 a0 = true then
  (gI S 12 a0 29 μ).bind fun v1 =>
  lpN (l_X12_readStep_5 S  a0 a1 v1) fu (μ)
  else none
set_option maxRecDepth 100000 in
set_option maxHeartbeats 4000000 in
theorem c_X12_readStep {l : Launch} {γ : GE} {S : SH} {a0 : Nat} {a1 : Int32} {μ : Mem} {X : (Int32 × Mem)} (h : f_X12_readStep S a0 a1 μ = some X) : isO S 12 a0 = true ∧ Ct l γ yX12_readStep cX12_readStep 6 (some .int) rm_X12_readStep [.ref (gb γ + a0), .int a1] S μ S X.2 (some (.int X.1)) := by
  unfold f_X12_readStep at h
  obtain ⟨h0, h⟩ := if_some h
  refine ⟨h0, ?_⟩
  have hJ : ∀ (p : Program) (e : Env) (s : State) (m : MethodId) (args : Array Value) (below : List Frame) (meth : Method) (c : Code), FX γ p s m args meth c cX12_readStep RX12 6 → meth.sig.returnType = (some .int) → JJ γ p l e rm_X12_readStep s m args below meth c 6 0 0 (QI below γ S X args s 0 0) S μ 0 [(0, .ref (gb γ + a0)), (1, .int a1)] [] := by
    intro p e s m args below meth c F hr
    refine j_aload_n F 0 dX12_readStep_0 rfl ?_
    refine j_gI F fl_RX12_259.l rfl dX12_readStep_1 h (fun v1 h => ?_)
    refine j_istore_n F [(2, .int v1), (0, .ref (gb γ + a0)), (1, .int a1)] dX12_readStep_4 rfl (by decide) rfl ?_
    refine j_lv [(0, .ref (gb γ + a0)), (1, .int a1), (2, .int v1)] [1, 2, 0] rfl ?_
    exact s_X12_readStep_5 F hr _ _ _ _ h
  exact ct_of (by decide +kernel) (Nat.le_of_ble_eq_true rfl) (fun p e s m args below meth c F hr _ => hJ p e s m args below meth c F hr)
def rm_X12_reads : Room := { frames := 6, cells := 0, slots := 0, locals := 188 }
theorem dX12_reads_0 : decode cX12_reads 0 = .ok (.aload_n 0, 1) := by decide +kernel
theorem dX12_reads_1 : decode cX12_reads 1 = .ok (.iconst 0, 1) := by decide +kernel
theorem dX12_reads_2 : decode cX12_reads 2 = .ok (.putfield 259, 3) := by decide +kernel
theorem dX12_reads_5 : decode cX12_reads 5 = .ok (.iconst 0, 1) := by decide +kernel
theorem dX12_reads_6 : decode cX12_reads 6 = .ok (.istore_n 1, 1) := by decide +kernel
theorem dX12_reads_7 : decode cX12_reads 7 = .ok (.iconst 1, 1) := by decide +kernel
theorem dX12_reads_8 : decode cX12_reads 8 = .ok (.istore_n 2, 1) := by decide +kernel
theorem dX12_reads_9 : decode cX12_reads 9 = .ok (.iload_n 2, 1) := by decide +kernel
theorem dX12_reads_10 : decode cX12_reads 10 = .ok (.ifCond .eq 57, 3) := by decide +kernel
theorem dX12_reads_13 : decode cX12_reads 13 = .ok (.aload_n 0, 1) := by decide +kernel
theorem dX12_reads_14 : decode cX12_reads 14 = .ok (.iload_n 1, 1) := by decide +kernel
theorem dX12_reads_15 : decode cX12_reads 15 = .ok (.invokevirtual 295, 3) := by decide +kernel
theorem dX12_reads_18 : decode cX12_reads 18 = .ok (.istore_n 3, 1) := by decide +kernel
theorem dX12_reads_19 : decode cX12_reads 19 = .ok (.iload_n 3, 1) := by decide +kernel
theorem dX12_reads_20 : decode cX12_reads 20 = .ok (.ifCond .lt 8, 3) := by decide +kernel
theorem dX12_reads_23 : decode cX12_reads 23 = .ok (.bipush (-100), 2) := by decide +kernel
theorem dX12_reads_25 : decode cX12_reads 25 = .ok (.iload_n 3, 1) := by decide +kernel
theorem dX12_reads_26 : decode cX12_reads 26 = .ok (.isub, 1) := by decide +kernel
theorem dX12_reads_27 : decode cX12_reads 27 = .ok (.ireturn, 1) := by decide +kernel
theorem dX12_reads_28 : decode cX12_reads 28 = .ok (.iinc 1 1, 3) := by decide +kernel
theorem dX12_reads_31 : decode cX12_reads 31 = .ok (.aload_n 0, 1) := by decide +kernel
theorem dX12_reads_32 : decode cX12_reads 32 = .ok (.invokevirtual 281, 3) := by decide +kernel
theorem dX12_reads_35 : decode cX12_reads 35 = .ok (.bipush 59, 2) := by decide +kernel
theorem dX12_reads_37 : decode cX12_reads 37 = .ok (.if_icmp .ne 7, 3) := by decide +kernel
theorem dX12_reads_40 : decode cX12_reads 40 = .ok (.iconst 1, 1) := by decide +kernel
theorem dX12_reads_41 : decode cX12_reads 41 = .ok (.goto 4, 3) := by decide +kernel
theorem dX12_reads_44 : decode cX12_reads 44 = .ok (.iconst 0, 1) := by decide +kernel
theorem dX12_reads_45 : decode cX12_reads 45 = .ok (.istore_n 2, 1) := by decide +kernel
theorem dX12_reads_46 : decode cX12_reads 46 = .ok (.aload_n 0, 1) := by decide +kernel
theorem dX12_reads_47 : decode cX12_reads 47 = .ok (.dup, 1) := by decide +kernel
theorem dX12_reads_48 : decode cX12_reads 48 = .ok (.getfield 259, 3) := by decide +kernel
theorem dX12_reads_51 : decode cX12_reads 51 = .ok (.iload_n 2, 1) := by decide +kernel
theorem dX12_reads_52 : decode cX12_reads 52 = .ok (.ifCond .eq 7, 3) := by decide +kernel
theorem dX12_reads_55 : decode cX12_reads 55 = .ok (.iconst 1, 1) := by decide +kernel
theorem dX12_reads_56 : decode cX12_reads 56 = .ok (.goto 4, 3) := by decide +kernel
theorem dX12_reads_59 : decode cX12_reads 59 = .ok (.iconst 0, 1) := by decide +kernel
theorem dX12_reads_60 : decode cX12_reads 60 = .ok (.iadd, 1) := by decide +kernel
theorem dX12_reads_61 : decode cX12_reads 61 = .ok (.putfield 259, 3) := by decide +kernel
theorem dX12_reads_64 : decode cX12_reads 64 = .ok (.goto (-55), 3) := by decide +kernel
theorem dX12_reads_67 : decode cX12_reads 67 = .ok (.aload_n 0, 1) := by decide +kernel
theorem dX12_reads_68 : decode cX12_reads 68 = .ok (.getfield 259, 3) := by decide +kernel
theorem dX12_reads_71 : decode cX12_reads 71 = .ok (.aload_n 0, 1) := by decide +kernel
theorem dX12_reads_72 : decode cX12_reads 72 = .ok (.getfield 256, 3) := by decide +kernel
theorem dX12_reads_75 : decode cX12_reads 75 = .ok (.if_icmp .ge 11, 3) := by decide +kernel
theorem dX12_reads_78 : decode cX12_reads 78 = .ok (.bipush (-100), 2) := by decide +kernel
theorem dX12_reads_80 : decode cX12_reads 80 = .ok (.aload_n 0, 1) := by decide +kernel
theorem dX12_reads_81 : decode cX12_reads 81 = .ok (.getfield 259, 3) := by decide +kernel
theorem dX12_reads_84 : decode cX12_reads 84 = .ok (.isub, 1) := by decide +kernel
theorem dX12_reads_85 : decode cX12_reads 85 = .ok (.ireturn, 1) := by decide +kernel
theorem dX12_reads_86 : decode cX12_reads 86 = .ok (.aload_n 0, 1) := by decide +kernel
theorem dX12_reads_87 : decode cX12_reads 87 = .ok (.iload_n 1, 1) := by decide +kernel
theorem dX12_reads_88 : decode cX12_reads 88 = .ok (.putfield 297, 3) := by decide +kernel
theorem dX12_reads_91 : decode cX12_reads 91 = .ok (.iconst 0, 1) := by decide +kernel
theorem dX12_reads_92 : decode cX12_reads 92 = .ok (.istore_n 3, 1) := by decide +kernel
theorem dX12_reads_93 : decode cX12_reads 93 = .ok (.iload_n 3, 1) := by decide +kernel
theorem dX12_reads_94 : decode cX12_reads 94 = .ok (.iload_n 1, 1) := by decide +kernel
theorem dX12_reads_95 : decode cX12_reads 95 = .ok (.if_icmp .ge 33, 3) := by decide +kernel
theorem dX12_reads_98 : decode cX12_reads 98 = .ok (.aload_n 0, 1) := by decide +kernel
theorem dX12_reads_99 : decode cX12_reads 99 = .ok (.getfield 64, 3) := by decide +kernel
theorem dX12_reads_102 : decode cX12_reads 102 = .ok (.iload_n 3, 1) := by decide +kernel
theorem dX12_reads_103 : decode cX12_reads 103 = .ok (.aload_n 0, 1) := by decide +kernel
theorem dX12_reads_104 : decode cX12_reads 104 = .ok (.getfield 70, 3) := by decide +kernel
theorem dX12_reads_107 : decode cX12_reads 107 = .ok (.iload_n 3, 1) := by decide +kernel
theorem dX12_reads_108 : decode cX12_reads 108 = .ok (.iaload, 1) := by decide +kernel
theorem dX12_reads_109 : decode cX12_reads 109 = .ok (.iastore, 1) := by decide +kernel
theorem dX12_reads_110 : decode cX12_reads 110 = .ok (.aload_n 0, 1) := by decide +kernel
theorem dX12_reads_111 : decode cX12_reads 111 = .ok (.getfield 67, 3) := by decide +kernel
theorem dX12_reads_114 : decode cX12_reads 114 = .ok (.iload_n 3, 1) := by decide +kernel
theorem dX12_reads_115 : decode cX12_reads 115 = .ok (.aload_n 0, 1) := by decide +kernel
theorem dX12_reads_116 : decode cX12_reads 116 = .ok (.getfield 73, 3) := by decide +kernel
theorem dX12_reads_119 : decode cX12_reads 119 = .ok (.iload_n 3, 1) := by decide +kernel
theorem dX12_reads_120 : decode cX12_reads 120 = .ok (.iaload, 1) := by decide +kernel
theorem dX12_reads_121 : decode cX12_reads 121 = .ok (.iastore, 1) := by decide +kernel
theorem dX12_reads_122 : decode cX12_reads 122 = .ok (.iinc 3 1, 3) := by decide +kernel
theorem dX12_reads_125 : decode cX12_reads 125 = .ok (.goto (-32), 3) := by decide +kernel
theorem dX12_reads_128 : decode cX12_reads 128 = .ok (.iload_n 1, 1) := by decide +kernel
theorem dX12_reads_129 : decode cX12_reads 129 = .ok (.ireturn, 1) := by decide +kernel
def l_X12_reads_93 (S : SH) (a0 : Nat) (a1 : Int32) (k93 : (Int32 × Mem) → Option (Int32 × Mem)) (x : (Int32 × Mem)) : Option (Int32 × Mem) :=
 (if a1 ≤ x.1 then
 some (a1, x.2)
 else
 (gR S 12 a0 25).bind fun v5 =>
 (gR S 12 a0 27).bind fun v6 =>
 (aI S .int v6 x.1 x.2).bind fun v7 =>
 (sI S v5 x.1 v7 x.2).bind fun ν8 =>
 (gR S 12 a0 26).bind fun v9 =>
 (gR S 12 a0 28).bind fun v10 =>
 (aI S .int v10 x.1 ν8).bind fun v11 =>
 (sI S v9 x.1 v11 ν8).bind fun ν12 =>
 k93 (x.1 + 1, ν12))
set_option maxRecDepth 100000 in
set_option maxHeartbeats 4000000 in
theorem t_X12_reads_93 {γ : GE} {p : Program} {l : Launch} {e : Env} {s : State} {m : MethodId} {args : Array Value} {below : List Frame} {meth : Method} {c : Code} {S : SH} {X : (Int32 × Mem)} (F : FX γ p s m args meth c cX12_reads RX12 4) (hr : meth.sig.returnType = (some .int)) (a0 : Nat) (a1 : Int32) (k93 : (Int32 × Mem) → Option (Int32 × Mem)) (hk93 : ∀ (x93_3 : Int32) (ν : Mem), k93 (x93_3, ν) = some X → JJ γ p l e rm_X12_reads s m args below meth c 4 0 0 (QI below γ S X args s 0 0) S ν 93 [(0, .ref (gb γ + a0)), (1, .int a1), (3, .int x93_3)] []) (x : (Int32 × Mem)) (h : l_X12_reads_93 S a0 a1 k93 x = some X) : JJ γ p l e rm_X12_reads s m args below meth c 4 0 0 (QI below γ S X args s 0 0) S x.2 93 [(0, .ref (gb γ + a0)), (1, .int a1), (3, .int x.1)] [] := by
  unfold l_X12_reads_93 at h
  refine j_iload_n F 2 dX12_reads_93 rfl ?_
  refine j_iload_n F 1 dX12_reads_94 rfl ?_
  refine j_icmpge F 128 dX12_reads_95 (by decide) h (fun _ h => ?_) (fun _ h => ?_)
  · refine j_iload_n F 1 dX12_reads_128 rfl ?_
    exact j_iret F hr dX12_reads_129 h
  · refine j_aload_n F 0 dX12_reads_98 rfl ?_
    refine j_gR F fl_RX12_64 rfl dX12_reads_99 h (fun v5 h => ?_)
    refine j_iload_n F 2 dX12_reads_102 rfl ?_
    refine j_aload_n F 0 dX12_reads_103 rfl ?_
    refine j_gR F fl_RX12_70 rfl dX12_reads_104 h (fun v6 h => ?_)
    refine j_iload_n F 2 dX12_reads_107 rfl ?_
    refine j_iald F dX12_reads_108 h (fun v7 h => ?_)
    refine j_iast F dX12_reads_109 h (fun ν8 h => ?_)
    refine j_aload_n F 0 dX12_reads_110 rfl ?_
    refine j_gR F fl_RX12_67 rfl dX12_reads_111 h (fun v9 h => ?_)
    refine j_iload_n F 2 dX12_reads_114 rfl ?_
    refine j_aload_n F 0 dX12_reads_115 rfl ?_
    refine j_gR F fl_RX12_73 rfl dX12_reads_116 h (fun v10 h => ?_)
    refine j_iload_n F 2 dX12_reads_119 rfl ?_
    refine j_iald F dX12_reads_120 h (fun v11 h => ?_)
    refine j_iast F dX12_reads_121 h (fun ν12 h => ?_)
    refine j_iinc F 1 2 [(3, .int (x.1 + 1)), (0, .ref (gb γ + a0)), (1, .int a1)] dX12_reads_122 rfl (by decide) (by decide) rfl ?_
    refine j_goto F 93 dX12_reads_125 (by decide) ?_
    refine j_lv [(0, .ref (gb γ + a0)), (1, .int a1), (3, .int (x.1 + 1))] [1, 2, 0] rfl ?_
    exact hk93 _ _ h
theorem s_X12_reads_93 {γ : GE} {p : Program} {l : Launch} {e : Env} {s : State} {m : MethodId} {args : Array Value} {below : List Frame} {meth : Method} {c : Code} {S : SH} {X : (Int32 × Mem)} (F : FX γ p s m args meth c cX12_reads RX12 4) (hr : meth.sig.returnType = (some .int)) (a0 : Nat) (a1 : Int32) (x93_3 : Int32) (ν : Mem) (h : lpN (l_X12_reads_93 S a0 a1) fu (x93_3, ν) = some X) : JJ γ p l e rm_X12_reads s m args below meth c 4 0 0 (QI below γ S X args s 0 0) S ν 93 [(0, .ref (gb γ + a0)), (1, .int a1), (3, .int x93_3)] [] :=
 lpN_sound (fun x => JJ γ p l e rm_X12_reads s m args below meth c 4 0 0 (QI below γ S X args s 0 0) S x.2 93 [(0, .ref (gb γ + a0)), (1, .int a1), (3, .int x.1)] []) (fun k93 hk93 x h => t_X12_reads_93 F hr a0 a1 k93 (fun x93_3 ν h => hk93 (x93_3, ν) h) x h) fu (x93_3, ν) h
def b_X12_reads_67 (S : SH) (a0 : Nat) (a1 : Int32) (μ : Mem) : Option (Int32 × Mem) :=
 (gI S 12 a0 29 μ).bind fun v2 =>
 (gI S 12 a0 23 μ).bind fun v3 =>
 (if v3 ≤ v2 then
 (pI S 12 a0 24 a1 μ).bind fun ν4 =>
 lpN (l_X12_reads_93 S a0 a1) fu (0, ν4)
 else
 (gI S 12 a0 29 μ).bind fun v13 =>
 some ((-100) - v13, μ))
set_option maxRecDepth 100000 in
set_option maxHeartbeats 4000000 in
theorem s_X12_reads_67 {γ : GE} {p : Program} {l : Launch} {e : Env} {s : State} {m : MethodId} {args : Array Value} {below : List Frame} {meth : Method} {c : Code} {S : SH} {X : (Int32 × Mem)} (F : FX γ p s m args meth c cX12_reads RX12 4) (hr : meth.sig.returnType = (some .int)) (a0 : Nat) (a1 : Int32)    (μ : Mem) (h : b_X12_reads_67 S a0 a1 μ = some X) : JJ γ p l e rm_X12_reads s m args below meth c 4 0 0 (QI below γ S X args s 0 0) S μ 67 [(0, .ref (gb γ + a0)), (1, .int a1)] [] := by
  unfold b_X12_reads_67 at h
  refine j_aload_n F 0 dX12_reads_67 rfl ?_
  refine j_gI F fl_RX12_259.l rfl dX12_reads_68 h (fun v2 h => ?_)
  refine j_aload_n F 0 dX12_reads_71 rfl ?_
  refine j_gI F fl_RX12_256.l rfl dX12_reads_72 h (fun v3 h => ?_)
  refine j_icmpge F 86 dX12_reads_75 (by decide) h (fun _ h => ?_) (fun _ h => ?_)
  · refine j_aload_n F 0 dX12_reads_86 rfl ?_
    refine j_iload_n F 1 dX12_reads_87 rfl ?_
    refine j_pI F fl_RX12_297 rfl dX12_reads_88 h (fun ν4 h => ?_)
    refine j_iconst F 0 dX12_reads_91 (by decide) ?_
    refine j_istore_n F [(3, .int 0), (0, .ref (gb γ + a0)), (1, .int a1)] dX12_reads_92 rfl (by decide) rfl ?_
    refine j_lv [(0, .ref (gb γ + a0)), (1, .int a1), (3, .int 0)] [1, 2, 0] rfl ?_
    exact s_X12_reads_93 F hr _ _ _ _ h
  · refine j_bipush F (-100) dX12_reads_78 (by decide) ?_
    refine j_aload_n F 0 dX12_reads_80 rfl ?_
    refine j_gI F fl_RX12_259.l rfl dX12_reads_81 h (fun v13 h => ?_)
    refine j_isub F dX12_reads_84 ?_
    exact j_iret F hr dX12_reads_85 h
def b_X12_reads_45 (S : SH) (k9 : (Int32 × Int32 × Mem) → Option (Int32 × Mem)) (a0 : Nat) (a1 : Int32) (t0 : Int32) (μ : Mem) : Option (Int32 × Mem) :=
 (gI S 12 a0 29 μ).bind fun v16 =>
 (if t0 = 0 then
 (pI S 12 a0 29 (v16 + 0) μ).bind fun ν17 =>
 k9 (a1, t0, ν17)
 else
 (pI S 12 a0 29 (v16 + 1) μ).bind fun ν18 =>
 k9 (a1, t0, ν18))
set_option maxRecDepth 100000 in
set_option maxHeartbeats 4000000 in
theorem s_X12_reads_45 {γ : GE} {p : Program} {l : Launch} {e : Env} {s : State} {m : MethodId} {args : Array Value} {below : List Frame} {meth : Method} {c : Code} {S : SH} {X : (Int32 × Mem)} (F : FX γ p s m args meth c cX12_reads RX12 4) (hr : meth.sig.returnType = (some .int)) (a0 : Nat) (a1 : Int32)  (k9 : (Int32 × Int32 × Mem) → Option (Int32 × Mem)) (hk9 : ∀ (x9_1 : Int32) (x9_2 : Int32) (ν : Mem), k9 (x9_1, x9_2, ν) = some X → JJ γ p l e rm_X12_reads s m args below meth c 4 0 0 (QI below γ S X args s 0 0) S ν 9 [(0, .ref (gb γ + a0)), (1, .int x9_1), (2, .int x9_2)] []) (t0 : Int32) (μ : Mem) (h : b_X12_reads_45 S k9 a0 a1 t0 μ = some X) : JJ γ p l e rm_X12_reads s m args below meth c 4 0 0 (QI below γ S X args s 0 0) S μ 45 [(0, .ref (gb γ + a0)), (1, .int a1)] [.int t0] := by
  unfold b_X12_reads_45 at h
  refine j_istore_n F [(2, .int t0), (0, .ref (gb γ + a0)), (1, .int a1)] dX12_reads_45 rfl (by decide) rfl ?_
  refine j_aload_n F 1 dX12_reads_46 rfl ?_
  refine j_dup F dX12_reads_47 rfl ?_
  refine j_gI F fl_RX12_259.l rfl dX12_reads_48 h (fun v16 h => ?_)
  refine j_iload_n F 0 dX12_reads_51 rfl ?_
  refine j_ifeq F 59 dX12_reads_52 (by decide) h (fun _ h => ?_) (fun _ h => ?_)
  · refine j_iconst F 0 dX12_reads_59 (by decide) ?_
    refine j_iadd F dX12_reads_60 ?_
    refine j_pI F fl_RX12_259 rfl dX12_reads_61 h (fun ν17 h => ?_)
    refine j_goto F 9 dX12_reads_64 (by decide) ?_
    refine j_lv [(0, .ref (gb γ + a0)), (1, .int a1), (2, .int t0)] [1, 2, 0] rfl ?_
    exact hk9 _ _ _ h
  · refine j_iconst F 1 dX12_reads_55 (by decide) ?_
    refine j_goto F 60 dX12_reads_56 (by decide) ?_
    refine j_iadd F dX12_reads_60 ?_
    refine j_pI F fl_RX12_259 rfl dX12_reads_61 h (fun ν18 h => ?_)
    refine j_goto F 9 dX12_reads_64 (by decide) ?_
    refine j_lv [(0, .ref (gb γ + a0)), (1, .int a1), (2, .int t0)] [1, 2, 0] rfl ?_
    exact hk9 _ _ _ h
def l_X12_reads_9 (S : SH) (a0 : Nat) (k9 : (Int32 × Int32 × Mem) → Option (Int32 × Mem)) (x : (Int32 × Int32 × Mem)) : Option (Int32 × Mem) :=
 (if x.2.1 = 0 then
 b_X12_reads_67 S a0 x.1 x.2.2
 else
 (f_X12_readStep S a0 x.1 x.2.2).bind fun q14 =>
 (if q14.1 < 0 then
 (f_X12_here S a0 q14.2).bind fun q15 =>
 (if q15.1 = 59 then
 b_X12_reads_45 S k9 a0 (x.1 + 1) 1 q15.2
 else
 b_X12_reads_45 S k9 a0 (x.1 + 1) 0 q15.2)
 else
 some ((-100) - q14.1, q14.2)))
set_option maxRecDepth 100000 in
set_option maxHeartbeats 4000000 in
theorem t_X12_reads_9 {γ : GE} {p : Program} {l : Launch} {e : Env} {s : State} {m : MethodId} {args : Array Value} {below : List Frame} {meth : Method} {c : Code} {S : SH} {X : (Int32 × Mem)} (F : FX γ p s m args meth c cX12_reads RX12 4) (hr : meth.sig.returnType = (some .int)) (a0 : Nat) (k9 : (Int32 × Int32 × Mem) → Option (Int32 × Mem)) (hk9 : ∀ (x9_1 : Int32) (x9_2 : Int32) (ν : Mem), k9 (x9_1, x9_2, ν) = some X → JJ γ p l e rm_X12_reads s m args below meth c 4 0 0 (QI below γ S X args s 0 0) S ν 9 [(0, .ref (gb γ + a0)), (1, .int x9_1), (2, .int x9_2)] []) (x : (Int32 × Int32 × Mem)) (h : l_X12_reads_9 S a0 k9 x = some X) : JJ γ p l e rm_X12_reads s m args below meth c 4 0 0 (QI below γ S X args s 0 0) S x.2.2 9 [(0, .ref (gb γ + a0)), (1, .int x.1), (2, .int x.2.1)] [] := by
  unfold l_X12_reads_9 at h
  refine j_iload_n F 2 dX12_reads_9 rfl ?_
  refine j_ifeq F 67 dX12_reads_10 (by decide) h (fun _ h => ?_) (fun _ h => ?_)
  · refine j_lv [(0, .ref (gb γ + a0)), (1, .int x.1)] [0, 1] rfl ?_
    exact s_X12_reads_67 F hr _ _ _ h
  · refine j_aload_n F 0 dX12_reads_13 rfl ?_
    refine j_iload_n F 1 dX12_reads_14 rfl ?_
    refine j_cVI F mi_X12_readStep w_1352 (rest := []) h (fun _ g => c_X12_readStep g) rfl rfl (Nat.le_of_ble_eq_true rfl) ⟨Nat.le_of_ble_eq_true rfl, Nat.le_of_ble_eq_true rfl⟩ ⟨Nat.le_of_ble_eq_true rfl, Nat.le_of_ble_eq_true rfl⟩ dX12_reads_15 (fun q14 h => ?_)
    refine j_istore_n F [(3, .int q14.1), (0, .ref (gb γ + a0)), (1, .int x.1), (2, .int x.2.1)] dX12_reads_18 rfl (by decide) rfl ?_
    refine j_iload_n F 0 dX12_reads_19 rfl ?_
    refine j_iflt F 28 dX12_reads_20 (by decide) h (fun _ h => ?_) (fun _ h => ?_)
    · refine j_iinc F 1 2 [(1, .int (x.1 + 1)), (3, .int q14.1), (0, .ref (gb γ + a0)), (2, .int x.2.1)] dX12_reads_28 rfl (by decide) (by decide) rfl ?_
      refine j_aload_n F 2 dX12_reads_31 rfl ?_
      refine j_cVI F mi_X12_here w_1356 (rest := []) h (fun _ g => c_X12_here g) rfl rfl (Nat.le_of_ble_eq_true rfl) ⟨Nat.le_of_ble_eq_true rfl, Nat.le_of_ble_eq_true rfl⟩ ⟨Nat.le_of_ble_eq_true rfl, Nat.le_of_ble_eq_true rfl⟩ dX12_reads_32 (fun q15 h => ?_)
      refine j_bipush F 59 dX12_reads_35 (by decide) ?_
      refine j_icmpne F 44 dX12_reads_37 (by decide) h (fun _ h => ?_) (fun _ h => ?_)
      · refine j_iconst F 0 dX12_reads_44 (by decide) ?_
        refine j_lv [(0, .ref (gb γ + a0)), (1, .int (x.1 + 1))] [2, 0] rfl ?_
        exact s_X12_reads_45 F hr _ _ _ hk9 _ _ h
      · refine j_iconst F 1 dX12_reads_40 (by decide) ?_
        refine j_goto F 45 dX12_reads_41 (by decide) ?_
        refine j_lv [(0, .ref (gb γ + a0)), (1, .int (x.1 + 1))] [2, 0] rfl ?_
        exact s_X12_reads_45 F hr _ _ _ hk9 _ _ h
    · refine j_bipush F (-100) dX12_reads_23 (by decide) ?_
      refine j_iload_n F 0 dX12_reads_25 rfl ?_
      refine j_isub F dX12_reads_26 ?_
      exact j_iret F hr dX12_reads_27 h
theorem s_X12_reads_9 {γ : GE} {p : Program} {l : Launch} {e : Env} {s : State} {m : MethodId} {args : Array Value} {below : List Frame} {meth : Method} {c : Code} {S : SH} {X : (Int32 × Mem)} (F : FX γ p s m args meth c cX12_reads RX12 4) (hr : meth.sig.returnType = (some .int)) (a0 : Nat) (x9_1 : Int32) (x9_2 : Int32) (ν : Mem) (h : lpN (l_X12_reads_9 S a0) fu (x9_1, x9_2, ν) = some X) : JJ γ p l e rm_X12_reads s m args below meth c 4 0 0 (QI below γ S X args s 0 0) S ν 9 [(0, .ref (gb γ + a0)), (1, .int x9_1), (2, .int x9_2)] [] :=
 lpN_sound (fun x => JJ γ p l e rm_X12_reads s m args below meth c 4 0 0 (QI below γ S X args s 0 0) S x.2.2 9 [(0, .ref (gb γ + a0)), (1, .int x.1), (2, .int x.2.1)] []) (fun k9 hk9 x h => t_X12_reads_9 F hr a0 k9 (fun x9_1 x9_2 ν h => hk9 (x9_1, x9_2, ν) h) x h) fu (x9_1, x9_2, ν) h
def f_X12_reads (S : SH) (a0 : Nat) (μ : Mem) : Option (Int32 × Mem) :=
  if isO S 12 a0 = true then
  (pI S 12 a0 29 0 μ).bind fun ν1 =>
  lpN (l_X12_reads_9 S  a0) fu (0, 1, ν1)
  else none
set_option maxRecDepth 100000 in
set_option maxHeartbeats 4000000 in
theorem c_X12_reads {l : Launch} {γ : GE} {S : SH} {a0 : Nat} {μ : Mem} {X : (Int32 × Mem)} (h : f_X12_reads S a0 μ = some X) : isO S 12 a0 = true ∧ Ct l γ yX12_reads cX12_reads 4 (some .int) rm_X12_reads [.ref (gb γ + a0)] S μ S X.2 (some (.int X.1)) := by
  unfold f_X12_reads at h
  obtain ⟨h0, h⟩ := if_some h
  refine ⟨h0, ?_⟩
  have hJ : ∀ (p : Program) (e : Env) (s : State) (m : MethodId) (args : Array Value) (below : List Frame) (meth : Method) (c : Code), FX γ p s m args meth c cX12_reads RX12 4 → meth.sig.returnType = (some .int) → JJ γ p l e rm_X12_reads s m args below meth c 4 0 0 (QI below γ S X args s 0 0) S μ 0 [(0, .ref (gb γ + a0))] [] := by
    intro p e s m args below meth c F hr
    refine j_aload_n F 0 dX12_reads_0 rfl ?_
    refine j_iconst F 0 dX12_reads_1 (by decide) ?_
    refine j_pI F fl_RX12_259 rfl dX12_reads_2 h (fun ν1 h => ?_)
    refine j_iconst F 0 dX12_reads_5 (by decide) ?_
    refine j_istore_n F [(1, .int 0), (0, .ref (gb γ + a0))] dX12_reads_6 rfl (by decide) rfl ?_
    refine j_iconst F 1 dX12_reads_7 (by decide) ?_
    refine j_istore_n F [(2, .int 1), (1, .int 0), (0, .ref (gb γ + a0))] dX12_reads_8 rfl (by decide) rfl ?_
    refine j_lv [(0, .ref (gb γ + a0)), (1, .int 0), (2, .int 1)] [2, 1, 0] rfl ?_
    exact s_X12_reads_9 F hr _ _ _ _ h
  exact ct_of (by decide +kernel) (Nat.le_of_ble_eq_true rfl) (fun p e s m args below meth c F hr _ => hJ p e s m args below meth c F hr)
def rm_X12_plan : Room := { frames := 7, cells := 0, slots := 0, locals := 211 }
theorem dX12_plan_0 : decode cX12_plan 0 = .ok (.aload_n 0, 1) := by decide +kernel
theorem dX12_plan_1 : decode cX12_plan 1 = .ok (.invokevirtual 300, 3) := by decide +kernel
theorem dX12_plan_4 : decode cX12_plan 4 = .ok (.istore_n 1, 1) := by decide +kernel
theorem dX12_plan_5 : decode cX12_plan 5 = .ok (.aload_n 0, 1) := by decide +kernel
theorem dX12_plan_6 : decode cX12_plan 6 = .ok (.iconst 0, 1) := by decide +kernel
theorem dX12_plan_7 : decode cX12_plan 7 = .ok (.putfield 256, 3) := by decide +kernel
theorem dX12_plan_10 : decode cX12_plan 10 = .ok (.iload_n 1, 1) := by decide +kernel
theorem dX12_plan_11 : decode cX12_plan 11 = .ok (.ireturn, 1) := by decide +kernel
def f_X12_plan (S : SH) (a0 : Nat) (μ : Mem) : Option (Int32 × Mem) :=
  if isO S 12 a0 = true then
  (f_X12_reads S a0 μ).bind fun q1 =>
  (pI S 12 a0 23 0 q1.2).bind fun ν2 =>
  some (q1.1, ν2)
  else none
set_option maxRecDepth 100000 in
set_option maxHeartbeats 4000000 in
theorem c_X12_plan {l : Launch} {γ : GE} {S : SH} {a0 : Nat} {μ : Mem} {X : (Int32 × Mem)} (h : f_X12_plan S a0 μ = some X) : isO S 12 a0 = true ∧ Ct l γ yX12_plan cX12_plan 2 (some .int) rm_X12_plan [.ref (gb γ + a0)] S μ S X.2 (some (.int X.1)) := by
  unfold f_X12_plan at h
  obtain ⟨h0, h⟩ := if_some h
  refine ⟨h0, ?_⟩
  have hJ : ∀ (p : Program) (e : Env) (s : State) (m : MethodId) (args : Array Value) (below : List Frame) (meth : Method) (c : Code), FX γ p s m args meth c cX12_plan RX12 2 → meth.sig.returnType = (some .int) → JJ γ p l e rm_X12_plan s m args below meth c 2 0 0 (QI below γ S X args s 0 0) S μ 0 [(0, .ref (gb γ + a0))] [] := by
    intro p e s m args below meth c F hr
    refine j_aload_n F 0 dX12_plan_0 rfl ?_
    refine j_cVI F mi_X12_reads w_1348 (rest := []) h (fun _ g => c_X12_reads g) rfl rfl (Nat.le_of_ble_eq_true rfl) ⟨Nat.le_of_ble_eq_true rfl, Nat.le_of_ble_eq_true rfl⟩ ⟨Nat.le_of_ble_eq_true rfl, Nat.le_of_ble_eq_true rfl⟩ dX12_plan_1 (fun q1 h => ?_)
    refine j_istore_n F [(1, .int q1.1), (0, .ref (gb γ + a0))] dX12_plan_4 rfl (by decide) rfl ?_
    refine j_aload_n F 1 dX12_plan_5 rfl ?_
    refine j_iconst F 0 dX12_plan_6 (by decide) ?_
    refine j_pI F fl_RX12_256 rfl dX12_plan_7 h (fun ν2 h => ?_)
    refine j_iload_n F 0 dX12_plan_10 rfl ?_
    exact j_iret F hr dX12_plan_11 h
  exact ct_of (by decide +kernel) (Nat.le_of_ble_eq_true rfl) (fun p e s m args below meth c F hr _ => hJ p e s m args below meth c F hr)
def rm_X12_looksAt : Room := { frames := 7, cells := 0, slots := 0, locals := 144 }
theorem dX12_looksAt_0 : decode cX12_looksAt 0 = .ok (.aload_n 0, 1) := by decide +kernel
theorem dX12_looksAt_1 : decode cX12_looksAt 1 = .ok (.invokevirtual 241, 3) := by decide +kernel
theorem dX12_looksAt_4 : decode cX12_looksAt 4 = .ok (.istore_n 2, 1) := by decide +kernel
theorem dX12_looksAt_5 : decode cX12_looksAt 5 = .ok (.iload_n 2, 1) := by decide +kernel
theorem dX12_looksAt_6 : decode cX12_looksAt 6 = .ok (.ifCond .le 30, 3) := by decide +kernel
theorem dX12_looksAt_9 : decode cX12_looksAt 9 = .ok (.aload_n 0, 1) := by decide +kernel
theorem dX12_looksAt_10 : decode cX12_looksAt 10 = .ok (.getfield 305, 3) := by decide +kernel
theorem dX12_looksAt_13 : decode cX12_looksAt 13 = .ok (.bipush (-5), 2) := by decide +kernel
theorem dX12_looksAt_15 : decode cX12_looksAt 15 = .ok (.if_icmp .ne 21, 3) := by decide +kernel
theorem dX12_looksAt_18 : decode cX12_looksAt 18 = .ok (.aload_n 0, 1) := by decide +kernel
theorem dX12_looksAt_19 : decode cX12_looksAt 19 = .ok (.aload_n 0, 1) := by decide +kernel
theorem dX12_looksAt_20 : decode cX12_looksAt 20 = .ok (.getfield 303, 3) := by decide +kernel
theorem dX12_looksAt_23 : decode cX12_looksAt 23 = .ok (.putfield 305, 3) := by decide +kernel
theorem dX12_looksAt_26 : decode cX12_looksAt 26 = .ok (.aload_n 0, 1) := by decide +kernel
theorem dX12_looksAt_27 : decode cX12_looksAt 27 = .ok (.iload_n 1, 1) := by decide +kernel
theorem dX12_looksAt_28 : decode cX12_looksAt 28 = .ok (.putfield 308, 3) := by decide +kernel
theorem dX12_looksAt_31 : decode cX12_looksAt 31 = .ok (.aload_n 0, 1) := by decide +kernel
theorem dX12_looksAt_32 : decode cX12_looksAt 32 = .ok (.iload_n 2, 1) := by decide +kernel
theorem dX12_looksAt_33 : decode cX12_looksAt 33 = .ok (.putfield 311, 3) := by decide +kernel
theorem dX12_looksAt_36 : decode cX12_looksAt 36 = .ok (.aload_n 0, 1) := by decide +kernel
theorem dX12_looksAt_37 : decode cX12_looksAt 37 = .ok (.aload_n 0, 1) := by decide +kernel
theorem dX12_looksAt_38 : decode cX12_looksAt 38 = .ok (.getfield 303, 3) := by decide +kernel
theorem dX12_looksAt_41 : decode cX12_looksAt 41 = .ok (.ifCond .ne 10, 3) := by decide +kernel
theorem dX12_looksAt_44 : decode cX12_looksAt 44 = .ok (.aload_n 0, 1) := by decide +kernel
theorem dX12_looksAt_45 : decode cX12_looksAt 45 = .ok (.invokevirtual 238, 3) := by decide +kernel
theorem dX12_looksAt_48 : decode cX12_looksAt 48 = .ok (.goto 14, 3) := by decide +kernel
theorem dX12_looksAt_51 : decode cX12_looksAt 51 = .ok (.aload_n 0, 1) := by decide +kernel
theorem dX12_looksAt_52 : decode cX12_looksAt 52 = .ok (.getfield 317, 3) := by decide +kernel
theorem dX12_looksAt_55 : decode cX12_looksAt 55 = .ok (.aload_n 0, 1) := by decide +kernel
theorem dX12_looksAt_56 : decode cX12_looksAt 56 = .ok (.invokevirtual 238, 3) := by decide +kernel
theorem dX12_looksAt_59 : decode cX12_looksAt 59 = .ok (.invokestatic 320, 3) := by decide +kernel
theorem dX12_looksAt_62 : decode cX12_looksAt 62 = .ok (.putfield 317, 3) := by decide +kernel
theorem dX12_looksAt_65 : decode cX12_looksAt 65 = .ok (.aload_n 0, 1) := by decide +kernel
theorem dX12_looksAt_66 : decode cX12_looksAt 66 = .ok (.dup, 1) := by decide +kernel
theorem dX12_looksAt_67 : decode cX12_looksAt 67 = .ok (.getfield 303, 3) := by decide +kernel
theorem dX12_looksAt_70 : decode cX12_looksAt 70 = .ok (.iconst 1, 1) := by decide +kernel
theorem dX12_looksAt_71 : decode cX12_looksAt 71 = .ok (.iadd, 1) := by decide +kernel
theorem dX12_looksAt_72 : decode cX12_looksAt 72 = .ok (.putfield 303, 3) := by decide +kernel
theorem dX12_looksAt_75 : decode cX12_looksAt 75 = .ok (.return_, 1) := by decide +kernel
def b_X12_looksAt_62 (S : SH) (a0 : Nat) (t0 : Int32) (t1 : Nat) (μ : Mem) : Option (Unit × Mem) :=
 (pI S 12 t1 34 t0 μ).bind fun ν5 =>
 (gI S 12 a0 30 ν5).bind fun v6 =>
 (pI S 12 a0 30 (v6 + 1) ν5).bind fun ν7 =>
 some ((), ν7)
set_option maxRecDepth 100000 in
set_option maxHeartbeats 4000000 in
theorem s_X12_looksAt_62 {γ : GE} {p : Program} {l : Launch} {e : Env} {s : State} {m : MethodId} {args : Array Value} {below : List Frame} {meth : Method} {c : Code} {S : SH} {X : (Unit × Mem)} (F : FX γ p s m args meth c cX12_looksAt RX12 3) (hr : meth.sig.returnType = (none)) (a0 : Nat)   (t0 : Int32) (t1 : Nat) (μ : Mem) (h : b_X12_looksAt_62 S a0 t0 t1 μ = some X) : JJ γ p l e rm_X12_looksAt s m args below meth c 3 0 0 (QV below γ S X args s 0 0) S μ 62 [(0, .ref (gb γ + a0))] [.int t0, .ref (gb γ + t1)] := by
  unfold b_X12_looksAt_62 at h
  refine j_pI F fl_RX12_317 rfl dX12_looksAt_62 h (fun ν5 h => ?_)
  refine j_aload_n F 0 dX12_looksAt_65 rfl ?_
  refine j_dup F dX12_looksAt_66 rfl ?_
  refine j_gI F fl_RX12_303.l rfl dX12_looksAt_67 h (fun v6 h => ?_)
  refine j_iconst F 1 dX12_looksAt_70 (by decide) ?_
  refine j_iadd F dX12_looksAt_71 ?_
  refine j_pI F fl_RX12_303 rfl dX12_looksAt_72 h (fun ν7 h => ?_)
  exact j_vret F hr dX12_looksAt_75 h
def b_X12_looksAt_36 (S : SH) (a0 : Nat) (μ : Mem) : Option (Unit × Mem) :=
 (gI S 12 a0 30 μ).bind fun v2 =>
 (if v2 = 0 then
 (f_X12_spareNow S a0 μ).bind fun q8 =>
 b_X12_looksAt_62 S a0 q8.1 a0 q8.2
 else
 (gI S 12 a0 34 μ).bind fun v3 =>
 (f_X12_spareNow S a0 μ).bind fun q4 =>
 b_X12_looksAt_62 S a0 ((if q4.1 < v3 then q4.1 else v3)) a0 q4.2)
set_option maxRecDepth 100000 in
set_option maxHeartbeats 4000000 in
theorem s_X12_looksAt_36 {γ : GE} {p : Program} {l : Launch} {e : Env} {s : State} {m : MethodId} {args : Array Value} {below : List Frame} {meth : Method} {c : Code} {S : SH} {X : (Unit × Mem)} (F : FX γ p s m args meth c cX12_looksAt RX12 3) (hr : meth.sig.returnType = (none)) (a0 : Nat)    (μ : Mem) (h : b_X12_looksAt_36 S a0 μ = some X) : JJ γ p l e rm_X12_looksAt s m args below meth c 3 0 0 (QV below γ S X args s 0 0) S μ 36 [(0, .ref (gb γ + a0))] [] := by
  unfold b_X12_looksAt_36 at h
  refine j_aload_n F 0 dX12_looksAt_36 rfl ?_
  refine j_aload_n F 0 dX12_looksAt_37 rfl ?_
  refine j_gI F fl_RX12_303.l rfl dX12_looksAt_38 h (fun v2 h => ?_)
  refine j_ifne F 51 dX12_looksAt_41 (by decide) h (fun _ h => ?_) (fun _ h => ?_)
  · refine j_aload_n F 0 dX12_looksAt_51 rfl ?_
    refine j_gI F fl_RX12_317.l rfl dX12_looksAt_52 h (fun v3 h => ?_)
    refine j_aload_n F 0 dX12_looksAt_55 rfl ?_
    refine j_cVI F mi_X12_spareNow w_1300 (rest := [.int v3, .ref (gb γ + a0)]) h (fun _ g => c_X12_spareNow g) rfl rfl (Nat.le_of_ble_eq_true rfl) ⟨Nat.le_of_ble_eq_true rfl, Nat.le_of_ble_eq_true rfl⟩ ⟨Nat.le_of_ble_eq_true rfl, Nat.le_of_ble_eq_true rfl⟩ dX12_looksAt_56 (fun q4 h => ?_)
    refine j_mmin F w_1401 ⟨Nat.le_of_ble_eq_true rfl, Nat.le_of_ble_eq_true rfl, Nat.le_of_ble_eq_true rfl, Nat.le_of_ble_eq_true rfl⟩ dX12_looksAt_59 mg_min ?_
    exact s_X12_looksAt_62 F hr _ _ _ _ h
  · refine j_aload_n F 0 dX12_looksAt_44 rfl ?_
    refine j_cVI F mi_X12_spareNow w_1300 (rest := [.ref (gb γ + a0)]) h (fun _ g => c_X12_spareNow g) rfl rfl (Nat.le_of_ble_eq_true rfl) ⟨Nat.le_of_ble_eq_true rfl, Nat.le_of_ble_eq_true rfl⟩ ⟨Nat.le_of_ble_eq_true rfl, Nat.le_of_ble_eq_true rfl⟩ dX12_looksAt_45 (fun q8 h => ?_)
    refine j_goto F 62 dX12_looksAt_48 (by decide) ?_
    exact s_X12_looksAt_62 F hr _ _ _ _ h
def f_X12_looksAt (S : SH) (a0 : Nat) (a1 : Int32) (μ : Mem) : Option (Unit × Mem) :=
  if isO S 12 a0 = true then
  (f_X12_whyNow S a0 μ).bind fun q1 =>
  (if q1.1 ≤ 0 then
  b_X12_looksAt_36 S a0 q1.2
  else
  (gI S 12 a0 31 q1.2).bind fun v9 =>
  (if v9 = (-5) then
  (gI S 12 a0 30 q1.2).bind fun v10 =>
  (pI S 12 a0 31 v10 q1.2).bind fun ν11 =>
  (pI S 12 a0 32 a1 ν11).bind fun ν12 =>
  (pI S 12 a0 33 q1.1 ν12).bind fun ν13 =>
  b_X12_looksAt_36 S a0 ν13
  else
  b_X12_looksAt_36 S a0 q1.2))
  else none
set_option maxRecDepth 100000 in
set_option maxHeartbeats 4000000 in
theorem c_X12_looksAt {l : Launch} {γ : GE} {S : SH} {a0 : Nat} {a1 : Int32} {μ : Mem} {X : (Unit × Mem)} (h : f_X12_looksAt S a0 a1 μ = some X) : isO S 12 a0 = true ∧ Ct l γ yX12_looksAt cX12_looksAt 3 (none) rm_X12_looksAt [.ref (gb γ + a0), .int a1] S μ S X.2 none := by
  unfold f_X12_looksAt at h
  obtain ⟨h0, h⟩ := if_some h
  refine ⟨h0, ?_⟩
  have hJ : ∀ (p : Program) (e : Env) (s : State) (m : MethodId) (args : Array Value) (below : List Frame) (meth : Method) (c : Code), FX γ p s m args meth c cX12_looksAt RX12 3 → meth.sig.returnType = (none) → JJ γ p l e rm_X12_looksAt s m args below meth c 3 0 0 (QV below γ S X args s 0 0) S μ 0 [(0, .ref (gb γ + a0)), (1, .int a1)] [] := by
    intro p e s m args below meth c F hr
    refine j_aload_n F 0 dX12_looksAt_0 rfl ?_
    refine j_cVI F mi_X12_whyNow w_1292 (rest := []) h (fun _ g => c_X12_whyNow g) rfl rfl (Nat.le_of_ble_eq_true rfl) ⟨Nat.le_of_ble_eq_true rfl, Nat.le_of_ble_eq_true rfl⟩ ⟨Nat.le_of_ble_eq_true rfl, Nat.le_of_ble_eq_true rfl⟩ dX12_looksAt_1 (fun q1 h => ?_)
    refine j_istore_n F [(2, .int q1.1), (0, .ref (gb γ + a0)), (1, .int a1)] dX12_looksAt_4 rfl (by decide) rfl ?_
    refine j_iload_n F 0 dX12_looksAt_5 rfl ?_
    refine j_ifle F 36 dX12_looksAt_6 (by decide) h (fun _ h => ?_) (fun _ h => ?_)
    · refine j_lv [(0, .ref (gb γ + a0))] [1] rfl ?_
      exact s_X12_looksAt_36 F hr _ _ h
    · refine j_aload_n F 1 dX12_looksAt_9 rfl ?_
      refine j_gI F fl_RX12_305.l rfl dX12_looksAt_10 h (fun v9 h => ?_)
      refine j_bipush F (-5) dX12_looksAt_13 (by decide) ?_
      refine j_icmpne F 36 dX12_looksAt_15 (by decide) h (fun _ h => ?_) (fun _ h => ?_)
      · refine j_lv [(0, .ref (gb γ + a0))] [1] rfl ?_
        exact s_X12_looksAt_36 F hr _ _ h
      · refine j_aload_n F 1 dX12_looksAt_18 rfl ?_
        refine j_aload_n F 1 dX12_looksAt_19 rfl ?_
        refine j_gI F fl_RX12_303.l rfl dX12_looksAt_20 h (fun v10 h => ?_)
        refine j_pI F fl_RX12_305 rfl dX12_looksAt_23 h (fun ν11 h => ?_)
        refine j_aload_n F 1 dX12_looksAt_26 rfl ?_
        refine j_iload_n F 2 dX12_looksAt_27 rfl ?_
        refine j_pI F fl_RX12_308 rfl dX12_looksAt_28 h (fun ν12 h => ?_)
        refine j_aload_n F 1 dX12_looksAt_31 rfl ?_
        refine j_iload_n F 0 dX12_looksAt_32 rfl ?_
        refine j_pI F fl_RX12_311 rfl dX12_looksAt_33 h (fun ν13 h => ?_)
        refine j_lv [(0, .ref (gb γ + a0))] [1] rfl ?_
        exact s_X12_looksAt_36 F hr _ _ h
  exact ct_of (by decide +kernel) (Nat.le_of_ble_eq_true rfl) (fun p e s m args below meth c F hr _ => hJ p e s m args below meth c F hr)
def rm_X12_begins : Room := { frames := 8, cells := 0, slots := 0, locals := 166 }
theorem dX12_begins_0 : decode cX12_begins 0 = .ok (.aload_n 0, 1) := by decide +kernel
theorem dX12_begins_1 : decode cX12_begins 1 = .ok (.iconst 0, 1) := by decide +kernel
theorem dX12_begins_2 : decode cX12_begins 2 = .ok (.putfield 303, 3) := by decide +kernel
theorem dX12_begins_5 : decode cX12_begins 5 = .ok (.aload_n 0, 1) := by decide +kernel
theorem dX12_begins_6 : decode cX12_begins 6 = .ok (.bipush (-5), 2) := by decide +kernel
theorem dX12_begins_8 : decode cX12_begins 8 = .ok (.putfield 305, 3) := by decide +kernel
theorem dX12_begins_11 : decode cX12_begins 11 = .ok (.aload_n 0, 1) := by decide +kernel
theorem dX12_begins_12 : decode cX12_begins 12 = .ok (.bipush (-5), 2) := by decide +kernel
theorem dX12_begins_14 : decode cX12_begins 14 = .ok (.putfield 308, 3) := by decide +kernel
theorem dX12_begins_17 : decode cX12_begins 17 = .ok (.aload_n 0, 1) := by decide +kernel
theorem dX12_begins_18 : decode cX12_begins 18 = .ok (.iconst 0, 1) := by decide +kernel
theorem dX12_begins_19 : decode cX12_begins 19 = .ok (.putfield 311, 3) := by decide +kernel
theorem dX12_begins_22 : decode cX12_begins 22 = .ok (.aload_n 0, 1) := by decide +kernel
theorem dX12_begins_23 : decode cX12_begins 23 = .ok (.bipush (-5), 2) := by decide +kernel
theorem dX12_begins_25 : decode cX12_begins 25 = .ok (.invokevirtual 314, 3) := by decide +kernel
theorem dX12_begins_28 : decode cX12_begins 28 = .ok (.return_, 1) := by decide +kernel
def f_X12_begins (S : SH) (a0 : Nat) (μ : Mem) : Option (Unit × Mem) :=
  if isO S 12 a0 = true then
  (pI S 12 a0 30 0 μ).bind fun ν1 =>
  (pI S 12 a0 31 (-5) ν1).bind fun ν2 =>
  (pI S 12 a0 32 (-5) ν2).bind fun ν3 =>
  (pI S 12 a0 33 0 ν3).bind fun ν4 =>
  (f_X12_looksAt S a0 (-5) ν4).bind fun q5 =>
  some ((), q5.2)
  else none
set_option maxRecDepth 100000 in
set_option maxHeartbeats 4000000 in
theorem c_X12_begins {l : Launch} {γ : GE} {S : SH} {a0 : Nat} {μ : Mem} {X : (Unit × Mem)} (h : f_X12_begins S a0 μ = some X) : isO S 12 a0 = true ∧ Ct l γ yX12_begins cX12_begins 1 (none) rm_X12_begins [.ref (gb γ + a0)] S μ S X.2 none := by
  unfold f_X12_begins at h
  obtain ⟨h0, h⟩ := if_some h
  refine ⟨h0, ?_⟩
  have hJ : ∀ (p : Program) (e : Env) (s : State) (m : MethodId) (args : Array Value) (below : List Frame) (meth : Method) (c : Code), FX γ p s m args meth c cX12_begins RX12 1 → meth.sig.returnType = (none) → JJ γ p l e rm_X12_begins s m args below meth c 1 0 0 (QV below γ S X args s 0 0) S μ 0 [(0, .ref (gb γ + a0))] [] := by
    intro p e s m args below meth c F hr
    refine j_aload_n F 0 dX12_begins_0 rfl ?_
    refine j_iconst F 0 dX12_begins_1 (by decide) ?_
    refine j_pI F fl_RX12_303 rfl dX12_begins_2 h (fun ν1 h => ?_)
    refine j_aload_n F 0 dX12_begins_5 rfl ?_
    refine j_bipush F (-5) dX12_begins_6 (by decide) ?_
    refine j_pI F fl_RX12_305 rfl dX12_begins_8 h (fun ν2 h => ?_)
    refine j_aload_n F 0 dX12_begins_11 rfl ?_
    refine j_bipush F (-5) dX12_begins_12 (by decide) ?_
    refine j_pI F fl_RX12_308 rfl dX12_begins_14 h (fun ν3 h => ?_)
    refine j_aload_n F 0 dX12_begins_17 rfl ?_
    refine j_iconst F 0 dX12_begins_18 (by decide) ?_
    refine j_pI F fl_RX12_311 rfl dX12_begins_19 h (fun ν4 h => ?_)
    refine j_aload_n F 0 dX12_begins_22 rfl ?_
    refine j_bipush F (-5) dX12_begins_23 (by decide) ?_
    refine j_cVV F mi_X12_looksAt w_1397 (rest := []) h (fun _ g => c_X12_looksAt g) rfl rfl (Nat.le_of_ble_eq_true rfl) ⟨Nat.le_of_ble_eq_true rfl, Nat.le_of_ble_eq_true rfl⟩ ⟨Nat.le_of_ble_eq_true rfl, Nat.le_of_ble_eq_true rfl⟩ dX12_begins_25 (fun q5 h => ?_)
    exact j_vret F hr dX12_begins_28 h
  exact ct_of (by decide +kernel) (Nat.le_of_ble_eq_true rfl) (fun p e s m args below meth c F hr _ => hJ p e s m args below meth c F hr)
def rm_X12_slews : Room := { frames := 8, cells := 0, slots := 0, locals := 166 }
theorem dX12_slews_0 : decode cX12_slews 0 = .ok (.iload_n 2, 1) := by decide +kernel
theorem dX12_slews_1 : decode cX12_slews 1 = .ok (.aload_n 0, 1) := by decide +kernel
theorem dX12_slews_2 : decode cX12_slews 2 = .ok (.getfield 36, 3) := by decide +kernel
theorem dX12_slews_5 : decode cX12_slews 5 = .ok (.iconst 0, 1) := by decide +kernel
theorem dX12_slews_6 : decode cX12_slews 6 = .ok (.iaload, 1) := by decide +kernel
theorem dX12_slews_7 : decode cX12_slews 7 = .ok (.isub, 1) := by decide +kernel
theorem dX12_slews_8 : decode cX12_slews 8 = .ok (.bipush 20, 2) := by decide +kernel
theorem dX12_slews_10 : decode cX12_slews 10 = .ok (.iadd, 1) := by decide +kernel
theorem dX12_slews_11 : decode cX12_slews 11 = .ok (.bipush 20, 2) := by decide +kernel
theorem dX12_slews_13 : decode cX12_slews 13 = .ok (.irem, 1) := by decide +kernel
theorem dX12_slews_14 : decode cX12_slews 14 = .ok (.istore_n 3, 1) := by decide +kernel
theorem dX12_slews_15 : decode cX12_slews 15 = .ok (.iload_n 3, 1) := by decide +kernel
theorem dX12_slews_16 : decode cX12_slews 16 = .ok (.bipush 20, 2) := by decide +kernel
theorem dX12_slews_18 : decode cX12_slews 18 = .ok (.iload_n 3, 1) := by decide +kernel
theorem dX12_slews_19 : decode cX12_slews 19 = .ok (.isub, 1) := by decide +kernel
theorem dX12_slews_20 : decode cX12_slews 20 = .ok (.if_icmp .gt 7, 3) := by decide +kernel
theorem dX12_slews_23 : decode cX12_slews 23 = .ok (.iconst 1, 1) := by decide +kernel
theorem dX12_slews_24 : decode cX12_slews 24 = .ok (.goto 5, 3) := by decide +kernel
theorem dX12_slews_27 : decode cX12_slews 27 = .ok (.bipush 19, 2) := by decide +kernel
theorem dX12_slews_29 : decode cX12_slews 29 = .ok (.istore 4, 2) := by decide +kernel
theorem dX12_slews_31 : decode cX12_slews 31 = .ok (.aload_n 0, 1) := by decide +kernel
theorem dX12_slews_32 : decode cX12_slews 32 = .ok (.getfield 36, 3) := by decide +kernel
theorem dX12_slews_35 : decode cX12_slews 35 = .ok (.iconst 0, 1) := by decide +kernel
theorem dX12_slews_36 : decode cX12_slews 36 = .ok (.iaload, 1) := by decide +kernel
theorem dX12_slews_37 : decode cX12_slews 37 = .ok (.iload_n 2, 1) := by decide +kernel
theorem dX12_slews_38 : decode cX12_slews 38 = .ok (.if_icmp .eq 29, 3) := by decide +kernel
theorem dX12_slews_41 : decode cX12_slews 41 = .ok (.aload_n 0, 1) := by decide +kernel
theorem dX12_slews_42 : decode cX12_slews 42 = .ok (.getfield 36, 3) := by decide +kernel
theorem dX12_slews_45 : decode cX12_slews 45 = .ok (.iconst 0, 1) := by decide +kernel
theorem dX12_slews_46 : decode cX12_slews 46 = .ok (.aload_n 0, 1) := by decide +kernel
theorem dX12_slews_47 : decode cX12_slews 47 = .ok (.getfield 36, 3) := by decide +kernel
theorem dX12_slews_50 : decode cX12_slews 50 = .ok (.iconst 0, 1) := by decide +kernel
theorem dX12_slews_51 : decode cX12_slews 51 = .ok (.iaload, 1) := by decide +kernel
theorem dX12_slews_52 : decode cX12_slews 52 = .ok (.iload 4, 2) := by decide +kernel
theorem dX12_slews_54 : decode cX12_slews 54 = .ok (.iadd, 1) := by decide +kernel
theorem dX12_slews_55 : decode cX12_slews 55 = .ok (.bipush 20, 2) := by decide +kernel
theorem dX12_slews_57 : decode cX12_slews 57 = .ok (.irem, 1) := by decide +kernel
theorem dX12_slews_58 : decode cX12_slews 58 = .ok (.iastore, 1) := by decide +kernel
theorem dX12_slews_59 : decode cX12_slews 59 = .ok (.aload_n 0, 1) := by decide +kernel
theorem dX12_slews_60 : decode cX12_slews 60 = .ok (.iload_n 1, 1) := by decide +kernel
theorem dX12_slews_61 : decode cX12_slews 61 = .ok (.invokevirtual 314, 3) := by decide +kernel
theorem dX12_slews_64 : decode cX12_slews 64 = .ok (.goto (-33), 3) := by decide +kernel
theorem dX12_slews_67 : decode cX12_slews 67 = .ok (.return_, 1) := by decide +kernel
def l_X12_slews_31 (S : SH) (a0 : Nat) (a1 : Int32) (a2 : Int32) (a4 : Int32) (k31 : (Mem) → Option (Unit × Mem)) (x : (Mem)) : Option (Unit × Mem) :=
 (gR S 12 a0 9).bind fun v4 =>
 (aI S .int v4 0 x).bind fun v5 =>
 (if v5 = a2 then
 some ((), x)
 else
 (gR S 12 a0 9).bind fun v6 =>
 (gR S 12 a0 9).bind fun v7 =>
 (aI S .int v7 0 x).bind fun v8 =>
 (sI S v6 0 ((v8 + a4) - (v8 + a4) / 20 * 20) x).bind fun ν9 =>
 (f_X12_looksAt S a0 a1 ν9).bind fun q10 =>
 k31 (q10.2))
set_option maxRecDepth 100000 in
set_option maxHeartbeats 4000000 in
theorem t_X12_slews_31 {γ : GE} {p : Program} {l : Launch} {e : Env} {s : State} {m : MethodId} {args : Array Value} {below : List Frame} {meth : Method} {c : Code} {S : SH} {X : (Unit × Mem)} (F : FX γ p s m args meth c cX12_slews RX12 5) (hr : meth.sig.returnType = (none)) (a0 : Nat) (a1 : Int32) (a2 : Int32) (a4 : Int32) (k31 : (Mem) → Option (Unit × Mem)) (hk31 : ∀ (ν : Mem), k31 (ν) = some X → JJ γ p l e rm_X12_slews s m args below meth c 5 0 0 (QV below γ S X args s 0 0) S ν 31 [(0, .ref (gb γ + a0)), (1, .int a1), (2, .int a2), (4, .int a4)] []) (x : (Mem)) (h : l_X12_slews_31 S a0 a1 a2 a4 k31 x = some X) : JJ γ p l e rm_X12_slews s m args below meth c 5 0 0 (QV below γ S X args s 0 0) S x 31 [(0, .ref (gb γ + a0)), (1, .int a1), (2, .int a2), (4, .int a4)] [] := by
  unfold l_X12_slews_31 at h
  refine j_aload_n F 0 dX12_slews_31 rfl ?_
  refine j_gR F fl_RX12_36 rfl dX12_slews_32 h (fun v4 h => ?_)
  refine j_iconst F 0 dX12_slews_35 (by decide) ?_
  refine j_iald F dX12_slews_36 h (fun v5 h => ?_)
  refine j_iload_n F 2 dX12_slews_37 rfl ?_
  refine j_icmpeq F 67 dX12_slews_38 (by decide) h (fun _ h => ?_) (fun _ h => ?_)
  · exact j_vret F hr dX12_slews_67 h
  · refine j_aload_n F 0 dX12_slews_41 rfl ?_
    refine j_gR F fl_RX12_36 rfl dX12_slews_42 h (fun v6 h => ?_)
    refine j_iconst F 0 dX12_slews_45 (by decide) ?_
    refine j_aload_n F 0 dX12_slews_46 rfl ?_
    refine j_gR F fl_RX12_36 rfl dX12_slews_47 h (fun v7 h => ?_)
    refine j_iconst F 0 dX12_slews_50 (by decide) ?_
    refine j_iald F dX12_slews_51 h (fun v8 h => ?_)
    refine j_iload F 3 dX12_slews_52 rfl ?_
    refine j_iadd F dX12_slews_54 ?_
    refine j_bipush F 20 dX12_slews_55 (by decide) ?_
    refine j_iremc F dX12_slews_57 (by decide) ?_
    refine j_iast F dX12_slews_58 h (fun ν9 h => ?_)
    refine j_aload_n F 0 dX12_slews_59 rfl ?_
    refine j_iload_n F 1 dX12_slews_60 rfl ?_
    refine j_cVV F mi_X12_looksAt w_1397 (rest := []) h (fun _ g => c_X12_looksAt g) rfl rfl (Nat.le_of_ble_eq_true rfl) ⟨Nat.le_of_ble_eq_true rfl, Nat.le_of_ble_eq_true rfl⟩ ⟨Nat.le_of_ble_eq_true rfl, Nat.le_of_ble_eq_true rfl⟩ dX12_slews_61 (fun q10 h => ?_)
    refine j_goto F 31 dX12_slews_64 (by decide) ?_
    exact hk31  _ h
theorem s_X12_slews_31 {γ : GE} {p : Program} {l : Launch} {e : Env} {s : State} {m : MethodId} {args : Array Value} {below : List Frame} {meth : Method} {c : Code} {S : SH} {X : (Unit × Mem)} (F : FX γ p s m args meth c cX12_slews RX12 5) (hr : meth.sig.returnType = (none)) (a0 : Nat) (a1 : Int32) (a2 : Int32) (a4 : Int32) (ν : Mem) (h : lpN (l_X12_slews_31 S a0 a1 a2 a4) fu (ν) = some X) : JJ γ p l e rm_X12_slews s m args below meth c 5 0 0 (QV below γ S X args s 0 0) S ν 31 [(0, .ref (gb γ + a0)), (1, .int a1), (2, .int a2), (4, .int a4)] [] :=
 lpN_sound (fun x => JJ γ p l e rm_X12_slews s m args below meth c 5 0 0 (QV below γ S X args s 0 0) S x 31 [(0, .ref (gb γ + a0)), (1, .int a1), (2, .int a2), (4, .int a4)] []) (fun k31 hk31 x h => t_X12_slews_31 F hr a0 a1 a2 a4 k31 (fun ν h => hk31 (ν) h) x h) fu (ν) h
def b_X12_slews_29 (S : SH) (a0 : Nat) (a1 : Int32) (a2 : Int32) (t0 : Int32) (μ : Mem) : Option (Unit × Mem) :=
 lpN (l_X12_slews_31 S a0 a1 a2 t0) fu (μ)
set_option maxRecDepth 100000 in
set_option maxHeartbeats 4000000 in
theorem s_X12_slews_29 {γ : GE} {p : Program} {l : Launch} {e : Env} {s : State} {m : MethodId} {args : Array Value} {below : List Frame} {meth : Method} {c : Code} {S : SH} {X : (Unit × Mem)} (F : FX γ p s m args meth c cX12_slews RX12 5) (hr : meth.sig.returnType = (none)) (a0 : Nat) (a1 : Int32) (a2 : Int32)   (t0 : Int32) (μ : Mem) (h : b_X12_slews_29 S a0 a1 a2 t0 μ = some X) : JJ γ p l e rm_X12_slews s m args below meth c 5 0 0 (QV below γ S X args s 0 0) S μ 29 [(0, .ref (gb γ + a0)), (1, .int a1), (2, .int a2)] [.int t0] := by
  unfold b_X12_slews_29 at h
  refine j_istore F [(4, .int t0), (0, .ref (gb γ + a0)), (1, .int a1), (2, .int a2)] dX12_slews_29 (by decide) rfl ?_
  refine j_lv [(0, .ref (gb γ + a0)), (1, .int a1), (2, .int a2), (4, .int t0)] [1, 2, 3, 0] rfl ?_
  exact s_X12_slews_31 F hr _ _ _ _ _ h
def f_X12_slews (S : SH) (a0 : Nat) (a1 : Int32) (a2 : Int32) (μ : Mem) : Option (Unit × Mem) :=
  if isO S 12 a0 = true then
  (gR S 12 a0 9).bind fun v1 =>
  (aI S .int v1 0 μ).bind fun v2 =>
  (some (((a2 - v2) + 20) - ((a2 - v2) + 20) / 20 * 20)).bind fun y3 =>
  (if (20 - y3) < y3 then
  b_X12_slews_29 S a0 a1 a2 19 μ
  else
  b_X12_slews_29 S a0 a1 a2 1 μ)
  else none
set_option maxRecDepth 100000 in
set_option maxHeartbeats 4000000 in
theorem c_X12_slews {l : Launch} {γ : GE} {S : SH} {a0 : Nat} {a1 : Int32} {a2 : Int32} {μ : Mem} {X : (Unit × Mem)} (h : f_X12_slews S a0 a1 a2 μ = some X) : isO S 12 a0 = true ∧ Ct l γ yX12_slews cX12_slews 5 (none) rm_X12_slews [.ref (gb γ + a0), .int a1, .int a2] S μ S X.2 none := by
  unfold f_X12_slews at h
  obtain ⟨h0, h⟩ := if_some h
  refine ⟨h0, ?_⟩
  have hJ : ∀ (p : Program) (e : Env) (s : State) (m : MethodId) (args : Array Value) (below : List Frame) (meth : Method) (c : Code), FX γ p s m args meth c cX12_slews RX12 5 → meth.sig.returnType = (none) → JJ γ p l e rm_X12_slews s m args below meth c 5 0 0 (QV below γ S X args s 0 0) S μ 0 [(0, .ref (gb γ + a0)), (1, .int a1), (2, .int a2)] [] := by
    intro p e s m args below meth c F hr
    refine j_iload_n F 2 dX12_slews_0 rfl ?_
    refine j_aload_n F 0 dX12_slews_1 rfl ?_
    refine j_gR F fl_RX12_36 rfl dX12_slews_2 h (fun v1 h => ?_)
    refine j_iconst F 0 dX12_slews_5 (by decide) ?_
    refine j_iald F dX12_slews_6 h (fun v2 h => ?_)
    refine j_isub F dX12_slews_7 ?_
    refine j_bipush F 20 dX12_slews_8 (by decide) ?_
    refine j_iadd F dX12_slews_10 ?_
    refine j_bipush F 20 dX12_slews_11 (by decide) ?_
    refine j_iremc F dX12_slews_13 (by decide) ?_
    refine j_nmI h (fun y3 h => ?_)
    refine j_istore_n F [(3, .int y3), (0, .ref (gb γ + a0)), (1, .int a1), (2, .int a2)] dX12_slews_14 rfl (by decide) rfl ?_
    refine j_iload_n F 0 dX12_slews_15 rfl ?_
    refine j_bipush F 20 dX12_slews_16 (by decide) ?_
    refine j_iload_n F 0 dX12_slews_18 rfl ?_
    refine j_isub F dX12_slews_19 ?_
    refine j_icmpgt F 27 dX12_slews_20 (by decide) h (fun _ h => ?_) (fun _ h => ?_)
    · refine j_bipush F 19 dX12_slews_27 (by decide) ?_
      refine j_lv [(0, .ref (gb γ + a0)), (1, .int a1), (2, .int a2)] [1, 2, 3] rfl ?_
      exact s_X12_slews_29 F hr _ _ _ _ _ h
    · refine j_iconst F 1 dX12_slews_23 (by decide) ?_
      refine j_goto F 29 dX12_slews_24 (by decide) ?_
      refine j_lv [(0, .ref (gb γ + a0)), (1, .int a1), (2, .int a2)] [1, 2, 3] rfl ?_
      exact s_X12_slews_29 F hr _ _ _ _ _ h
  exact ct_of (by decide +kernel) (Nat.le_of_ble_eq_true rfl) (fun p e s m args below meth c F hr _ => hJ p e s m args below meth c F hr)
def rm_X12_reaches : Room := { frames := 8, cells := 0, slots := 0, locals := 166 }
theorem dX12_reaches_0 : decode cX12_reaches 0 = .ok (.aload_n 0, 1) := by decide +kernel
theorem dX12_reaches_1 : decode cX12_reaches 1 = .ok (.getfield 36, 3) := by decide +kernel
theorem dX12_reaches_4 : decode cX12_reaches 4 = .ok (.iconst 1, 1) := by decide +kernel
theorem dX12_reaches_5 : decode cX12_reaches 5 = .ok (.iaload, 1) := by decide +kernel
theorem dX12_reaches_6 : decode cX12_reaches 6 = .ok (.iload_n 2, 1) := by decide +kernel
theorem dX12_reaches_7 : decode cX12_reaches 7 = .ok (.if_icmp .eq 35, 3) := by decide +kernel
theorem dX12_reaches_10 : decode cX12_reaches 10 = .ok (.aload_n 0, 1) := by decide +kernel
theorem dX12_reaches_11 : decode cX12_reaches 11 = .ok (.getfield 36, 3) := by decide +kernel
theorem dX12_reaches_14 : decode cX12_reaches 14 = .ok (.iconst 1, 1) := by decide +kernel
theorem dX12_reaches_15 : decode cX12_reaches 15 = .ok (.dup2, 1) := by decide +kernel
theorem dX12_reaches_16 : decode cX12_reaches 16 = .ok (.iaload, 1) := by decide +kernel
theorem dX12_reaches_17 : decode cX12_reaches 17 = .ok (.aload_n 0, 1) := by decide +kernel
theorem dX12_reaches_18 : decode cX12_reaches 18 = .ok (.getfield 36, 3) := by decide +kernel
theorem dX12_reaches_21 : decode cX12_reaches 21 = .ok (.iconst 1, 1) := by decide +kernel
theorem dX12_reaches_22 : decode cX12_reaches 22 = .ok (.iaload, 1) := by decide +kernel
theorem dX12_reaches_23 : decode cX12_reaches 23 = .ok (.iload_n 2, 1) := by decide +kernel
theorem dX12_reaches_24 : decode cX12_reaches 24 = .ok (.if_icmp .ge 7, 3) := by decide +kernel
theorem dX12_reaches_27 : decode cX12_reaches 27 = .ok (.iconst 1, 1) := by decide +kernel
theorem dX12_reaches_28 : decode cX12_reaches 28 = .ok (.goto 4, 3) := by decide +kernel
theorem dX12_reaches_31 : decode cX12_reaches 31 = .ok (.iconst (-1), 1) := by decide +kernel
theorem dX12_reaches_32 : decode cX12_reaches 32 = .ok (.iadd, 1) := by decide +kernel
theorem dX12_reaches_33 : decode cX12_reaches 33 = .ok (.iastore, 1) := by decide +kernel
theorem dX12_reaches_34 : decode cX12_reaches 34 = .ok (.aload_n 0, 1) := by decide +kernel
theorem dX12_reaches_35 : decode cX12_reaches 35 = .ok (.iload_n 1, 1) := by decide +kernel
theorem dX12_reaches_36 : decode cX12_reaches 36 = .ok (.invokevirtual 314, 3) := by decide +kernel
theorem dX12_reaches_39 : decode cX12_reaches 39 = .ok (.goto (-39), 3) := by decide +kernel
theorem dX12_reaches_42 : decode cX12_reaches 42 = .ok (.return_, 1) := by decide +kernel
def l_X12_reaches_0 (S : SH) (a0 : Nat) (a1 : Int32) (a2 : Int32) (k0 : (Mem) → Option (Unit × Mem)) (x : (Mem)) : Option (Unit × Mem) :=
 (gR S 12 a0 9).bind fun v1 =>
 (aI S .int v1 1 x).bind fun v2 =>
 (if v2 = a2 then
 some ((), x)
 else
 (gR S 12 a0 9).bind fun v3 =>
 (aI S .int v3 1 x).bind fun v4 =>
 (gR S 12 a0 9).bind fun v5 =>
 (aI S .int v5 1 x).bind fun v6 =>
 (if a2 ≤ v6 then
 (sI S v3 1 (v4 + (-1)) x).bind fun ν7 =>
 (f_X12_looksAt S a0 a1 ν7).bind fun q8 =>
 k0 (q8.2)
 else
 (sI S v3 1 (v4 + 1) x).bind fun ν9 =>
 (f_X12_looksAt S a0 a1 ν9).bind fun q10 =>
 k0 (q10.2)))
set_option maxRecDepth 100000 in
set_option maxHeartbeats 4000000 in
theorem t_X12_reaches_0 {γ : GE} {p : Program} {l : Launch} {e : Env} {s : State} {m : MethodId} {args : Array Value} {below : List Frame} {meth : Method} {c : Code} {S : SH} {X : (Unit × Mem)} (F : FX γ p s m args meth c cX12_reaches RX12 3) (hr : meth.sig.returnType = (none)) (a0 : Nat) (a1 : Int32) (a2 : Int32) (k0 : (Mem) → Option (Unit × Mem)) (hk0 : ∀ (ν : Mem), k0 (ν) = some X → JJ γ p l e rm_X12_reaches s m args below meth c 3 0 0 (QV below γ S X args s 0 0) S ν 0 [(0, .ref (gb γ + a0)), (1, .int a1), (2, .int a2)] []) (x : (Mem)) (h : l_X12_reaches_0 S a0 a1 a2 k0 x = some X) : JJ γ p l e rm_X12_reaches s m args below meth c 3 0 0 (QV below γ S X args s 0 0) S x 0 [(0, .ref (gb γ + a0)), (1, .int a1), (2, .int a2)] [] := by
  unfold l_X12_reaches_0 at h
  refine j_aload_n F 0 dX12_reaches_0 rfl ?_
  refine j_gR F fl_RX12_36 rfl dX12_reaches_1 h (fun v1 h => ?_)
  refine j_iconst F 1 dX12_reaches_4 (by decide) ?_
  refine j_iald F dX12_reaches_5 h (fun v2 h => ?_)
  refine j_iload_n F 2 dX12_reaches_6 rfl ?_
  refine j_icmpeq F 42 dX12_reaches_7 (by decide) h (fun _ h => ?_) (fun _ h => ?_)
  · exact j_vret F hr dX12_reaches_42 h
  · refine j_aload_n F 0 dX12_reaches_10 rfl ?_
    refine j_gR F fl_RX12_36 rfl dX12_reaches_11 h (fun v3 h => ?_)
    refine j_iconst F 1 dX12_reaches_14 (by decide) ?_
    refine j_dup2 F dX12_reaches_15 rfl rfl ?_
    refine j_iald F dX12_reaches_16 h (fun v4 h => ?_)
    refine j_aload_n F 0 dX12_reaches_17 rfl ?_
    refine j_gR F fl_RX12_36 rfl dX12_reaches_18 h (fun v5 h => ?_)
    refine j_iconst F 1 dX12_reaches_21 (by decide) ?_
    refine j_iald F dX12_reaches_22 h (fun v6 h => ?_)
    refine j_iload_n F 2 dX12_reaches_23 rfl ?_
    refine j_icmpge F 31 dX12_reaches_24 (by decide) h (fun _ h => ?_) (fun _ h => ?_)
    · refine j_iconst F (-1) dX12_reaches_31 (by decide) ?_
      refine j_iadd F dX12_reaches_32 ?_
      refine j_iast F dX12_reaches_33 h (fun ν7 h => ?_)
      refine j_aload_n F 0 dX12_reaches_34 rfl ?_
      refine j_iload_n F 1 dX12_reaches_35 rfl ?_
      refine j_cVV F mi_X12_looksAt w_1397 (rest := []) h (fun _ g => c_X12_looksAt g) rfl rfl (Nat.le_of_ble_eq_true rfl) ⟨Nat.le_of_ble_eq_true rfl, Nat.le_of_ble_eq_true rfl⟩ ⟨Nat.le_of_ble_eq_true rfl, Nat.le_of_ble_eq_true rfl⟩ dX12_reaches_36 (fun q8 h => ?_)
      refine j_goto F 0 dX12_reaches_39 (by decide) ?_
      exact hk0  _ h
    · refine j_iconst F 1 dX12_reaches_27 (by decide) ?_
      refine j_goto F 32 dX12_reaches_28 (by decide) ?_
      refine j_iadd F dX12_reaches_32 ?_
      refine j_iast F dX12_reaches_33 h (fun ν9 h => ?_)
      refine j_aload_n F 0 dX12_reaches_34 rfl ?_
      refine j_iload_n F 1 dX12_reaches_35 rfl ?_
      refine j_cVV F mi_X12_looksAt w_1397 (rest := []) h (fun _ g => c_X12_looksAt g) rfl rfl (Nat.le_of_ble_eq_true rfl) ⟨Nat.le_of_ble_eq_true rfl, Nat.le_of_ble_eq_true rfl⟩ ⟨Nat.le_of_ble_eq_true rfl, Nat.le_of_ble_eq_true rfl⟩ dX12_reaches_36 (fun q10 h => ?_)
      refine j_goto F 0 dX12_reaches_39 (by decide) ?_
      exact hk0  _ h
theorem s_X12_reaches_0 {γ : GE} {p : Program} {l : Launch} {e : Env} {s : State} {m : MethodId} {args : Array Value} {below : List Frame} {meth : Method} {c : Code} {S : SH} {X : (Unit × Mem)} (F : FX γ p s m args meth c cX12_reaches RX12 3) (hr : meth.sig.returnType = (none)) (a0 : Nat) (a1 : Int32) (a2 : Int32) (ν : Mem) (h : lpN (l_X12_reaches_0 S a0 a1 a2) fu (ν) = some X) : JJ γ p l e rm_X12_reaches s m args below meth c 3 0 0 (QV below γ S X args s 0 0) S ν 0 [(0, .ref (gb γ + a0)), (1, .int a1), (2, .int a2)] [] :=
 lpN_sound (fun x => JJ γ p l e rm_X12_reaches s m args below meth c 3 0 0 (QV below γ S X args s 0 0) S x 0 [(0, .ref (gb γ + a0)), (1, .int a1), (2, .int a2)] []) (fun k0 hk0 x h => t_X12_reaches_0 F hr a0 a1 a2 k0 (fun ν h => hk0 (ν) h) x h) fu (ν) h
def f_X12_reaches (S : SH) (a0 : Nat) (a1 : Int32) (a2 : Int32) (μ : Mem) : Option (Unit × Mem) :=
  if isO S 12 a0 = true then
  lpN (l_X12_reaches_0 S  a0 a1 a2) fu (μ)
  else none
set_option maxRecDepth 100000 in
set_option maxHeartbeats 4000000 in
theorem c_X12_reaches {l : Launch} {γ : GE} {S : SH} {a0 : Nat} {a1 : Int32} {a2 : Int32} {μ : Mem} {X : (Unit × Mem)} (h : f_X12_reaches S a0 a1 a2 μ = some X) : isO S 12 a0 = true ∧ Ct l γ yX12_reaches cX12_reaches 3 (none) rm_X12_reaches [.ref (gb γ + a0), .int a1, .int a2] S μ S X.2 none := by
  unfold f_X12_reaches at h
  obtain ⟨h0, h⟩ := if_some h
  refine ⟨h0, ?_⟩
  have hJ : ∀ (p : Program) (e : Env) (s : State) (m : MethodId) (args : Array Value) (below : List Frame) (meth : Method) (c : Code), FX γ p s m args meth c cX12_reaches RX12 3 → meth.sig.returnType = (none) → JJ γ p l e rm_X12_reaches s m args below meth c 3 0 0 (QV below γ S X args s 0 0) S μ 0 [(0, .ref (gb γ + a0)), (1, .int a1), (2, .int a2)] [] := by
    intro p e s m args below meth c F hr
    exact s_X12_reaches_0 F hr _ _ _ _ h
  exact ct_of (by decide +kernel) (Nat.le_of_ble_eq_true rfl) (fun p e s m args below meth c F hr _ => hJ p e s m args below meth c F hr)
