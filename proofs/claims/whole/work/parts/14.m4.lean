def rm_X6_append : Room := { frames := 0, cells := 0, slots := 0, locals := 0 }
theorem dX6_append_0 : decode cX6_append 0 = .ok (.aload_n 0, 1) := by decide +kernel
theorem dX6_append_1 : decode cX6_append 1 = .ok (.getfield 18, 3) := by decide +kernel
theorem dX6_append_4 : decode cX6_append 4 = .ok (.bipush 25, 2) := by decide +kernel
theorem dX6_append_6 : decode cX6_append 6 = .ok (.if_icmp .ge 33, 3) := by decide +kernel
theorem dX6_append_9 : decode cX6_append 9 = .ok (.aload_n 0, 1) := by decide +kernel
theorem dX6_append_10 : decode cX6_append 10 = .ok (.getfield 9, 3) := by decide +kernel
theorem dX6_append_13 : decode cX6_append 13 = .ok (.aload_n 0, 1) := by decide +kernel
theorem dX6_append_14 : decode cX6_append 14 = .ok (.getfield 18, 3) := by decide +kernel
theorem dX6_append_17 : decode cX6_append 17 = .ok (.iload_n 1, 1) := by decide +kernel
theorem dX6_append_18 : decode cX6_append 18 = .ok (.iastore, 1) := by decide +kernel
theorem dX6_append_19 : decode cX6_append 19 = .ok (.aload_n 0, 1) := by decide +kernel
theorem dX6_append_20 : decode cX6_append 20 = .ok (.getfield 15, 3) := by decide +kernel
theorem dX6_append_23 : decode cX6_append 23 = .ok (.aload_n 0, 1) := by decide +kernel
theorem dX6_append_24 : decode cX6_append 24 = .ok (.getfield 18, 3) := by decide +kernel
theorem dX6_append_27 : decode cX6_append 27 = .ok (.iload_n 2, 1) := by decide +kernel
theorem dX6_append_28 : decode cX6_append 28 = .ok (.iastore, 1) := by decide +kernel
theorem dX6_append_29 : decode cX6_append 29 = .ok (.aload_n 0, 1) := by decide +kernel
theorem dX6_append_30 : decode cX6_append 30 = .ok (.dup, 1) := by decide +kernel
theorem dX6_append_31 : decode cX6_append 31 = .ok (.getfield 18, 3) := by decide +kernel
theorem dX6_append_34 : decode cX6_append 34 = .ok (.iconst 1, 1) := by decide +kernel
theorem dX6_append_35 : decode cX6_append 35 = .ok (.iadd, 1) := by decide +kernel
theorem dX6_append_36 : decode cX6_append 36 = .ok (.putfield 18, 3) := by decide +kernel
theorem dX6_append_39 : decode cX6_append 39 = .ok (.return_, 1) := by decide +kernel
def f_X6_append (S : SH) (a0 : Nat) (a1 : Int32) (a2 : Int32) (μ : Mem) : Option (Unit × Mem) :=
  if isO S 6 a0 = true then
  (gI S 6 a0 2 μ).bind fun v1 =>
  (if 25 ≤ v1 then
  some ((), μ)
  else
  (gR S 6 a0 0).bind fun v2 =>
  (gI S 6 a0 2 μ).bind fun v3 =>
  (sI S v2 v3 a1 μ).bind fun ν4 =>
  (gR S 6 a0 1).bind fun v5 =>
  (gI S 6 a0 2 ν4).bind fun v6 =>
  (sI S v5 v6 a2 ν4).bind fun ν7 =>
  (gI S 6 a0 2 ν7).bind fun v8 =>
  (pI S 6 a0 2 (v8 + 1) ν7).bind fun ν9 =>
  some ((), ν9))
  else none
set_option maxRecDepth 100000 in
set_option maxHeartbeats 4000000 in
theorem c_X6_append {l : Launch} {γ : GE} {S : SH} {a0 : Nat} {a1 : Int32} {a2 : Int32} {μ : Mem} {X : (Unit × Mem)} (h : f_X6_append S a0 a1 a2 μ = some X) : isO S 6 a0 = true ∧ Ct l γ yX6_append cX6_append 3 (none) rm_X6_append [.ref (gb γ + a0), .int a1, .int a2] S μ S X.2 none := by
  unfold f_X6_append at h
  obtain ⟨h0, h⟩ := if_some h
  refine ⟨h0, ?_⟩
  have hJ : ∀ (p : Program) (e : Env) (s : State) (m : MethodId) (args : Array Value) (below : List Frame) (meth : Method) (c : Code), FX γ p s m args meth c cX6_append RX6 3 → meth.sig.returnType = (none) → JJ γ p l e rm_X6_append s m args below meth c 3 0 0 (QV below γ S X args s 0 0) S μ 0 [(0, .ref (gb γ + a0)), (1, .int a1), (2, .int a2)] [] := by
    intro p e s m args below meth c F hr
    refine j_aload_n F 0 dX6_append_0 rfl ?_
    refine j_gI F fl_RX6_18.l rfl dX6_append_1 h (fun v1 h => ?_)
    refine j_bipush F 25 dX6_append_4 (by decide) ?_
    refine j_icmpge F 39 dX6_append_6 (by decide) h (fun _ h => ?_) (fun _ h => ?_)
    · exact j_vret F hr dX6_append_39 h
    · refine j_aload_n F 0 dX6_append_9 rfl ?_
      refine j_gR F fl_RX6_9 rfl dX6_append_10 h (fun v2 h => ?_)
      refine j_aload_n F 0 dX6_append_13 rfl ?_
      refine j_gI F fl_RX6_18.l rfl dX6_append_14 h (fun v3 h => ?_)
      refine j_iload_n F 1 dX6_append_17 rfl ?_
      refine j_iast F dX6_append_18 h (fun ν4 h => ?_)
      refine j_aload_n F 0 dX6_append_19 rfl ?_
      refine j_gR F fl_RX6_15 rfl dX6_append_20 h (fun v5 h => ?_)
      refine j_aload_n F 0 dX6_append_23 rfl ?_
      refine j_gI F fl_RX6_18.l rfl dX6_append_24 h (fun v6 h => ?_)
      refine j_iload_n F 2 dX6_append_27 rfl ?_
      refine j_iast F dX6_append_28 h (fun ν7 h => ?_)
      refine j_aload_n F 0 dX6_append_29 rfl ?_
      refine j_dup F dX6_append_30 rfl ?_
      refine j_gI F fl_RX6_18.l rfl dX6_append_31 h (fun v8 h => ?_)
      refine j_iconst F 1 dX6_append_34 (by decide) ?_
      refine j_iadd F dX6_append_35 ?_
      refine j_pI F fl_RX6_18 rfl dX6_append_36 h (fun ν9 h => ?_)
      exact j_vret F hr dX6_append_39 h
  exact ct_of (by decide +kernel) (Nat.le_of_ble_eq_true rfl) (fun p e s m args below meth c F hr _ => hJ p e s m args below meth c F hr)
def rm_X6_become : Room := { frames := 1, cells := 0, slots := 0, locals := 60 }
theorem dX6_become_0 : decode cX6_become 0 = .ok (.aload_n 1, 1) := by decide +kernel
theorem dX6_become_1 : decode cX6_become 1 = .ok (.getfield 9, 3) := by decide +kernel
theorem dX6_become_4 : decode cX6_become 4 = .ok (.iconst 0, 1) := by decide +kernel
theorem dX6_become_5 : decode cX6_become 5 = .ok (.aload_n 0, 1) := by decide +kernel
theorem dX6_become_6 : decode cX6_become 6 = .ok (.getfield 9, 3) := by decide +kernel
theorem dX6_become_9 : decode cX6_become 9 = .ok (.iconst 0, 1) := by decide +kernel
theorem dX6_become_10 : decode cX6_become 10 = .ok (.bipush 25, 2) := by decide +kernel
theorem dX6_become_12 : decode cX6_become 12 = .ok (.invokestatic 22, 3) := by decide +kernel
theorem dX6_become_15 : decode cX6_become 15 = .ok (.aload_n 1, 1) := by decide +kernel
theorem dX6_become_16 : decode cX6_become 16 = .ok (.getfield 15, 3) := by decide +kernel
theorem dX6_become_19 : decode cX6_become 19 = .ok (.iconst 0, 1) := by decide +kernel
theorem dX6_become_20 : decode cX6_become 20 = .ok (.aload_n 0, 1) := by decide +kernel
theorem dX6_become_21 : decode cX6_become 21 = .ok (.getfield 15, 3) := by decide +kernel
theorem dX6_become_24 : decode cX6_become 24 = .ok (.iconst 0, 1) := by decide +kernel
theorem dX6_become_25 : decode cX6_become 25 = .ok (.bipush 25, 2) := by decide +kernel
theorem dX6_become_27 : decode cX6_become 27 = .ok (.invokestatic 22, 3) := by decide +kernel
theorem dX6_become_30 : decode cX6_become 30 = .ok (.aload_n 0, 1) := by decide +kernel
theorem dX6_become_31 : decode cX6_become 31 = .ok (.aload_n 1, 1) := by decide +kernel
theorem dX6_become_32 : decode cX6_become 32 = .ok (.getfield 18, 3) := by decide +kernel
theorem dX6_become_35 : decode cX6_become 35 = .ok (.putfield 18, 3) := by decide +kernel
theorem dX6_become_38 : decode cX6_become 38 = .ok (.return_, 1) := by decide +kernel
def f_X6_become (S : SH) (a0 : Nat) (a1 : Nat) (μ : Mem) : Option (Unit × Mem) :=
  if isO S 6 a0 = true then
  (gR S 6 a1 0).bind fun v1 =>
  (gR S 6 a0 0).bind fun v2 =>
  (cpI S .int v1 0 v2 0 25 μ).bind fun ν3 =>
  (gR S 6 a1 1).bind fun v4 =>
  (gR S 6 a0 1).bind fun v5 =>
  (cpI S .int v4 0 v5 0 25 ν3).bind fun ν6 =>
  (gI S 6 a1 2 ν6).bind fun v7 =>
  (pI S 6 a0 2 v7 ν6).bind fun ν8 =>
  some ((), ν8)
  else none
set_option maxRecDepth 100000 in
set_option maxHeartbeats 4000000 in
theorem c_X6_become {l : Launch} {γ : GE} {S : SH} {a0 : Nat} {a1 : Nat} {μ : Mem} {X : (Unit × Mem)} (h : f_X6_become S a0 a1 μ = some X) : isO S 6 a0 = true ∧ Ct l γ yX6_become cX6_become 2 (none) rm_X6_become [.ref (gb γ + a0), .ref (gb γ + a1)] S μ S X.2 none := by
  unfold f_X6_become at h
  obtain ⟨h0, h⟩ := if_some h
  refine ⟨h0, ?_⟩
  have hJ : ∀ (p : Program) (e : Env) (s : State) (m : MethodId) (args : Array Value) (below : List Frame) (meth : Method) (c : Code), FX γ p s m args meth c cX6_become RX6 2 → meth.sig.returnType = (none) → JJ γ p l e rm_X6_become s m args below meth c 2 0 0 (QV below γ S X args s 0 0) S μ 0 [(0, .ref (gb γ + a0)), (1, .ref (gb γ + a1))] [] := by
    intro p e s m args below meth c F hr
    refine j_aload_n F 1 dX6_become_0 rfl ?_
    refine j_gR F fl_RX6_9 rfl dX6_become_1 h (fun v1 h => ?_)
    refine j_iconst F 0 dX6_become_4 (by decide) ?_
    refine j_aload_n F 0 dX6_become_5 rfl ?_
    refine j_gR F fl_RX6_9 rfl dX6_become_6 h (fun v2 h => ?_)
    refine j_iconst F 0 dX6_become_9 (by decide) ?_
    refine j_bipush F 25 dX6_become_10 (by decide) ?_
    refine j_cpI F w_830 ⟨Nat.le_of_ble_eq_true rfl, Nat.le_of_ble_eq_true rfl⟩ dX6_become_12 h (fun ν3 h => ?_)
    refine j_aload_n F 1 dX6_become_15 rfl ?_
    refine j_gR F fl_RX6_15 rfl dX6_become_16 h (fun v4 h => ?_)
    refine j_iconst F 0 dX6_become_19 (by decide) ?_
    refine j_aload_n F 0 dX6_become_20 rfl ?_
    refine j_gR F fl_RX6_15 rfl dX6_become_21 h (fun v5 h => ?_)
    refine j_iconst F 0 dX6_become_24 (by decide) ?_
    refine j_bipush F 25 dX6_become_25 (by decide) ?_
    refine j_cpI F w_830 ⟨Nat.le_of_ble_eq_true rfl, Nat.le_of_ble_eq_true rfl⟩ dX6_become_27 h (fun ν6 h => ?_)
    refine j_aload_n F 0 dX6_become_30 rfl ?_
    refine j_aload_n F 1 dX6_become_31 rfl ?_
    refine j_gI F fl_RX6_18.l rfl dX6_become_32 h (fun v7 h => ?_)
    refine j_pI F fl_RX6_18 rfl dX6_become_35 h (fun ν8 h => ?_)
    exact j_vret F hr dX6_become_38 h
  exact ct_of (by decide +kernel) (Nat.le_of_ble_eq_true rfl) (fun p e s m args below meth c F hr _ => hJ p e s m args below meth c F hr)
def rm_X6_isMove : Room := { frames := 0, cells := 0, slots := 0, locals := 0 }
theorem dX6_isMove_0 : decode cX6_isMove 0 = .ok (.aload_n 0, 1) := by decide +kernel
theorem dX6_isMove_1 : decode cX6_isMove 1 = .ok (.getfield 9, 3) := by decide +kernel
theorem dX6_isMove_4 : decode cX6_isMove 4 = .ok (.iload_n 1, 1) := by decide +kernel
theorem dX6_isMove_5 : decode cX6_isMove 5 = .ok (.iaload, 1) := by decide +kernel
theorem dX6_isMove_6 : decode cX6_isMove 6 = .ok (.ifCond .eq 13, 3) := by decide +kernel
theorem dX6_isMove_9 : decode cX6_isMove 9 = .ok (.aload_n 0, 1) := by decide +kernel
theorem dX6_isMove_10 : decode cX6_isMove 10 = .ok (.getfield 9, 3) := by decide +kernel
theorem dX6_isMove_13 : decode cX6_isMove 13 = .ok (.iload_n 1, 1) := by decide +kernel
theorem dX6_isMove_14 : decode cX6_isMove 14 = .ok (.iaload, 1) := by decide +kernel
theorem dX6_isMove_15 : decode cX6_isMove 15 = .ok (.iconst 1, 1) := by decide +kernel
theorem dX6_isMove_16 : decode cX6_isMove 16 = .ok (.if_icmp .ne 7, 3) := by decide +kernel
theorem dX6_isMove_19 : decode cX6_isMove 19 = .ok (.iconst 1, 1) := by decide +kernel
theorem dX6_isMove_20 : decode cX6_isMove 20 = .ok (.goto 4, 3) := by decide +kernel
theorem dX6_isMove_23 : decode cX6_isMove 23 = .ok (.iconst 0, 1) := by decide +kernel
theorem dX6_isMove_24 : decode cX6_isMove 24 = .ok (.ireturn, 1) := by decide +kernel
def f_X6_isMove (S : SH) (a0 : Nat) (a1 : Int32) (μ : Mem) : Option (Int32 × Mem) :=
  if isO S 6 a0 = true then
  (gR S 6 a0 0).bind fun v1 =>
  (aI S .int v1 a1 μ).bind fun v2 =>
  (if v2 = 0 then
  some (1, μ)
  else
  (gR S 6 a0 0).bind fun v3 =>
  (aI S .int v3 a1 μ).bind fun v4 =>
  (if v4 = 1 then
  some (1, μ)
  else
  some (0, μ)))
  else none
set_option maxRecDepth 100000 in
set_option maxHeartbeats 4000000 in
theorem c_X6_isMove {l : Launch} {γ : GE} {S : SH} {a0 : Nat} {a1 : Int32} {μ : Mem} {X : (Int32 × Mem)} (h : f_X6_isMove S a0 a1 μ = some X) : isO S 6 a0 = true ∧ Ct l γ yX6_isMove cX6_isMove 2 (some .boolean) rm_X6_isMove [.ref (gb γ + a0), .int a1] S μ S X.2 (some (.int X.1)) := by
  unfold f_X6_isMove at h
  obtain ⟨h0, h⟩ := if_some h
  refine ⟨h0, ?_⟩
  have hJ : ∀ (p : Program) (e : Env) (s : State) (m : MethodId) (args : Array Value) (below : List Frame) (meth : Method) (c : Code), FX γ p s m args meth c cX6_isMove RX6 2 → meth.sig.returnType = (some .boolean) → JJ γ p l e rm_X6_isMove s m args below meth c 2 0 0 (QI below γ S X args s 0 0) S μ 0 [(0, .ref (gb γ + a0)), (1, .int a1)] [] := by
    intro p e s m args below meth c F hr
    refine j_aload_n F 0 dX6_isMove_0 rfl ?_
    refine j_gR F fl_RX6_9 rfl dX6_isMove_1 h (fun v1 h => ?_)
    refine j_iload_n F 1 dX6_isMove_4 rfl ?_
    refine j_iald F dX6_isMove_5 h (fun v2 h => ?_)
    refine j_ifeq F 19 dX6_isMove_6 (by decide) h (fun _ h => ?_) (fun _ h => ?_)
    · refine j_iconst F 1 dX6_isMove_19 (by decide) ?_
      refine j_goto F 24 dX6_isMove_20 (by decide) ?_
      exact j_zret F hr (Or.inr rfl) dX6_isMove_24 h
    · refine j_aload_n F 0 dX6_isMove_9 rfl ?_
      refine j_gR F fl_RX6_9 rfl dX6_isMove_10 h (fun v3 h => ?_)
      refine j_iload_n F 1 dX6_isMove_13 rfl ?_
      refine j_iald F dX6_isMove_14 h (fun v4 h => ?_)
      refine j_iconst F 1 dX6_isMove_15 (by decide) ?_
      refine j_icmpne F 23 dX6_isMove_16 (by decide) h (fun _ h => ?_) (fun _ h => ?_)
      · refine j_iconst F 0 dX6_isMove_23 (by decide) ?_
        exact j_zret F hr (Or.inl rfl) dX6_isMove_24 h
      · refine j_iconst F 1 dX6_isMove_19 (by decide) ?_
        refine j_goto F 24 dX6_isMove_20 (by decide) ?_
        exact j_zret F hr (Or.inr rfl) dX6_isMove_24 h
  exact ct_of (by decide +kernel) (Nat.le_of_ble_eq_true rfl) (fun p e s m args below meth c F hr _ => hJ p e s m args below meth c F hr)
def rm_X6_onlyMoves : Room := { frames := 1, cells := 0, slots := 0, locals := 21 }
theorem dX6_onlyMoves_0 : decode cX6_onlyMoves 0 = .ok (.iconst 0, 1) := by decide +kernel
theorem dX6_onlyMoves_1 : decode cX6_onlyMoves 1 = .ok (.istore_n 1, 1) := by decide +kernel
theorem dX6_onlyMoves_2 : decode cX6_onlyMoves 2 = .ok (.iload_n 1, 1) := by decide +kernel
theorem dX6_onlyMoves_3 : decode cX6_onlyMoves 3 = .ok (.aload_n 0, 1) := by decide +kernel
theorem dX6_onlyMoves_4 : decode cX6_onlyMoves 4 = .ok (.getfield 18, 3) := by decide +kernel
theorem dX6_onlyMoves_7 : decode cX6_onlyMoves 7 = .ok (.if_icmp .ge 19, 3) := by decide +kernel
theorem dX6_onlyMoves_10 : decode cX6_onlyMoves 10 = .ok (.aload_n 0, 1) := by decide +kernel
theorem dX6_onlyMoves_11 : decode cX6_onlyMoves 11 = .ok (.iload_n 1, 1) := by decide +kernel
theorem dX6_onlyMoves_12 : decode cX6_onlyMoves 12 = .ok (.invokevirtual 28, 3) := by decide +kernel
theorem dX6_onlyMoves_15 : decode cX6_onlyMoves 15 = .ok (.ifCond .ne 5, 3) := by decide +kernel
theorem dX6_onlyMoves_18 : decode cX6_onlyMoves 18 = .ok (.iconst 0, 1) := by decide +kernel
theorem dX6_onlyMoves_19 : decode cX6_onlyMoves 19 = .ok (.ireturn, 1) := by decide +kernel
theorem dX6_onlyMoves_20 : decode cX6_onlyMoves 20 = .ok (.iinc 1 1, 3) := by decide +kernel
theorem dX6_onlyMoves_23 : decode cX6_onlyMoves 23 = .ok (.goto (-21), 3) := by decide +kernel
theorem dX6_onlyMoves_26 : decode cX6_onlyMoves 26 = .ok (.iconst 1, 1) := by decide +kernel
theorem dX6_onlyMoves_27 : decode cX6_onlyMoves 27 = .ok (.ireturn, 1) := by decide +kernel
def l_X6_onlyMoves_2 (S : SH) (a0 : Nat) (k2 : (Int32 × Mem) → Option (Int32 × Mem)) (x : (Int32 × Mem)) : Option (Int32 × Mem) :=
 (gI S 6 a0 2 x.2).bind fun v1 =>
 (if v1 ≤ x.1 then
 some (1, x.2)
 else
 (f_X6_isMove S a0 x.1 x.2).bind fun q2 =>
 (if q2.1 = 0 then
 some (0, q2.2)
 else
 k2 (x.1 + 1, q2.2)))
set_option maxRecDepth 100000 in
set_option maxHeartbeats 4000000 in
theorem t_X6_onlyMoves_2 {γ : GE} {p : Program} {l : Launch} {e : Env} {s : State} {m : MethodId} {args : Array Value} {below : List Frame} {meth : Method} {c : Code} {S : SH} {X : (Int32 × Mem)} (F : FX γ p s m args meth c cX6_onlyMoves RX6 2) (hr : meth.sig.returnType = (some .boolean)) (a0 : Nat) (k2 : (Int32 × Mem) → Option (Int32 × Mem)) (hk2 : ∀ (x2_1 : Int32) (ν : Mem), k2 (x2_1, ν) = some X → JJ γ p l e rm_X6_onlyMoves s m args below meth c 2 0 0 (QI below γ S X args s 0 0) S ν 2 [(0, .ref (gb γ + a0)), (1, .int x2_1)] []) (x : (Int32 × Mem)) (h : l_X6_onlyMoves_2 S a0 k2 x = some X) : JJ γ p l e rm_X6_onlyMoves s m args below meth c 2 0 0 (QI below γ S X args s 0 0) S x.2 2 [(0, .ref (gb γ + a0)), (1, .int x.1)] [] := by
  unfold l_X6_onlyMoves_2 at h
  refine j_iload_n F 1 dX6_onlyMoves_2 rfl ?_
  refine j_aload_n F 0 dX6_onlyMoves_3 rfl ?_
  refine j_gI F fl_RX6_18.l rfl dX6_onlyMoves_4 h (fun v1 h => ?_)
  refine j_icmpge F 26 dX6_onlyMoves_7 (by decide) h (fun _ h => ?_) (fun _ h => ?_)
  · refine j_iconst F 1 dX6_onlyMoves_26 (by decide) ?_
    exact j_zret F hr (Or.inr rfl) dX6_onlyMoves_27 h
  · refine j_aload_n F 0 dX6_onlyMoves_10 rfl ?_
    refine j_iload_n F 1 dX6_onlyMoves_11 rfl ?_
    refine j_cVI F mi_X6_isMove w_874 (rest := []) h (fun _ g => c_X6_isMove g) rfl rfl (Nat.le_of_ble_eq_true rfl) ⟨Nat.le_of_ble_eq_true rfl, Nat.le_of_ble_eq_true rfl⟩ ⟨Nat.le_of_ble_eq_true rfl, Nat.le_of_ble_eq_true rfl⟩ dX6_onlyMoves_12 (fun q2 h => ?_)
    refine j_ifne F 20 dX6_onlyMoves_15 (by decide) h (fun _ h => ?_) (fun _ h => ?_)
    · refine j_iinc F 1 1 [(1, .int (x.1 + 1)), (0, .ref (gb γ + a0))] dX6_onlyMoves_20 rfl (by decide) (by decide) rfl ?_
      refine j_goto F 2 dX6_onlyMoves_23 (by decide) ?_
      refine j_lv [(0, .ref (gb γ + a0)), (1, .int (x.1 + 1))] [1, 0] rfl ?_
      exact hk2 _ _ h
    · refine j_iconst F 0 dX6_onlyMoves_18 (by decide) ?_
      exact j_zret F hr (Or.inl rfl) dX6_onlyMoves_19 h
theorem s_X6_onlyMoves_2 {γ : GE} {p : Program} {l : Launch} {e : Env} {s : State} {m : MethodId} {args : Array Value} {below : List Frame} {meth : Method} {c : Code} {S : SH} {X : (Int32 × Mem)} (F : FX γ p s m args meth c cX6_onlyMoves RX6 2) (hr : meth.sig.returnType = (some .boolean)) (a0 : Nat) (x2_1 : Int32) (ν : Mem) (h : lpN (l_X6_onlyMoves_2 S a0) fu (x2_1, ν) = some X) : JJ γ p l e rm_X6_onlyMoves s m args below meth c 2 0 0 (QI below γ S X args s 0 0) S ν 2 [(0, .ref (gb γ + a0)), (1, .int x2_1)] [] :=
 lpN_sound (fun x => JJ γ p l e rm_X6_onlyMoves s m args below meth c 2 0 0 (QI below γ S X args s 0 0) S x.2 2 [(0, .ref (gb γ + a0)), (1, .int x.1)] []) (fun k2 hk2 x h => t_X6_onlyMoves_2 F hr a0 k2 (fun x2_1 ν h => hk2 (x2_1, ν) h) x h) fu (x2_1, ν) h
def f_X6_onlyMoves (S : SH) (a0 : Nat) (μ : Mem) : Option (Int32 × Mem) :=
  if isO S 6 a0 = true then
  lpN (l_X6_onlyMoves_2 S  a0) fu (0, μ)
  else none
set_option maxRecDepth 100000 in
set_option maxHeartbeats 4000000 in
theorem c_X6_onlyMoves {l : Launch} {γ : GE} {S : SH} {a0 : Nat} {μ : Mem} {X : (Int32 × Mem)} (h : f_X6_onlyMoves S a0 μ = some X) : isO S 6 a0 = true ∧ Ct l γ yX6_onlyMoves cX6_onlyMoves 2 (some .boolean) rm_X6_onlyMoves [.ref (gb γ + a0)] S μ S X.2 (some (.int X.1)) := by
  unfold f_X6_onlyMoves at h
  obtain ⟨h0, h⟩ := if_some h
  refine ⟨h0, ?_⟩
  have hJ : ∀ (p : Program) (e : Env) (s : State) (m : MethodId) (args : Array Value) (below : List Frame) (meth : Method) (c : Code), FX γ p s m args meth c cX6_onlyMoves RX6 2 → meth.sig.returnType = (some .boolean) → JJ γ p l e rm_X6_onlyMoves s m args below meth c 2 0 0 (QI below γ S X args s 0 0) S μ 0 [(0, .ref (gb γ + a0))] [] := by
    intro p e s m args below meth c F hr
    refine j_iconst F 0 dX6_onlyMoves_0 (by decide) ?_
    refine j_istore_n F [(1, .int 0), (0, .ref (gb γ + a0))] dX6_onlyMoves_1 rfl (by decide) rfl ?_
    refine j_lv [(0, .ref (gb γ + a0)), (1, .int 0)] [1, 0] rfl ?_
    exact s_X6_onlyMoves_2 F hr _ _ _ h
  exact ct_of (by decide +kernel) (Nat.le_of_ble_eq_true rfl) (fun p e s m args below meth c F hr _ => hJ p e s m args below meth c F hr)
def rm_X6_turnBack : Room := { frames := 0, cells := 0, slots := 0, locals := 0 }
theorem dX6_turnBack_0 : decode cX6_turnBack 0 = .ok (.aload_n 0, 1) := by decide +kernel
theorem dX6_turnBack_1 : decode cX6_turnBack 1 = .ok (.aload_n 1, 1) := by decide +kernel
theorem dX6_turnBack_2 : decode cX6_turnBack 2 = .ok (.getfield 18, 3) := by decide +kernel
theorem dX6_turnBack_5 : decode cX6_turnBack 5 = .ok (.putfield 18, 3) := by decide +kernel
theorem dX6_turnBack_8 : decode cX6_turnBack 8 = .ok (.iconst 0, 1) := by decide +kernel
theorem dX6_turnBack_9 : decode cX6_turnBack 9 = .ok (.istore_n 3, 1) := by decide +kernel
theorem dX6_turnBack_10 : decode cX6_turnBack 10 = .ok (.iload_n 3, 1) := by decide +kernel
theorem dX6_turnBack_11 : decode cX6_turnBack 11 = .ok (.aload_n 0, 1) := by decide +kernel
theorem dX6_turnBack_12 : decode cX6_turnBack 12 = .ok (.getfield 18, 3) := by decide +kernel
theorem dX6_turnBack_15 : decode cX6_turnBack 15 = .ok (.if_icmp .ge 65, 3) := by decide +kernel
theorem dX6_turnBack_18 : decode cX6_turnBack 18 = .ok (.aload_n 1, 1) := by decide +kernel
theorem dX6_turnBack_19 : decode cX6_turnBack 19 = .ok (.getfield 9, 3) := by decide +kernel
theorem dX6_turnBack_22 : decode cX6_turnBack 22 = .ok (.iload_n 3, 1) := by decide +kernel
theorem dX6_turnBack_23 : decode cX6_turnBack 23 = .ok (.iaload, 1) := by decide +kernel
theorem dX6_turnBack_24 : decode cX6_turnBack 24 = .ok (.istore 4, 2) := by decide +kernel
theorem dX6_turnBack_26 : decode cX6_turnBack 26 = .ok (.aload_n 0, 1) := by decide +kernel
theorem dX6_turnBack_27 : decode cX6_turnBack 27 = .ok (.getfield 9, 3) := by decide +kernel
theorem dX6_turnBack_30 : decode cX6_turnBack 30 = .ok (.aload_n 0, 1) := by decide +kernel
theorem dX6_turnBack_31 : decode cX6_turnBack 31 = .ok (.getfield 18, 3) := by decide +kernel
theorem dX6_turnBack_34 : decode cX6_turnBack 34 = .ok (.iconst 1, 1) := by decide +kernel
theorem dX6_turnBack_35 : decode cX6_turnBack 35 = .ok (.isub, 1) := by decide +kernel
theorem dX6_turnBack_36 : decode cX6_turnBack 36 = .ok (.iload_n 3, 1) := by decide +kernel
theorem dX6_turnBack_37 : decode cX6_turnBack 37 = .ok (.isub, 1) := by decide +kernel
theorem dX6_turnBack_38 : decode cX6_turnBack 38 = .ok (.iload 4, 2) := by decide +kernel
theorem dX6_turnBack_40 : decode cX6_turnBack 40 = .ok (.iastore, 1) := by decide +kernel
theorem dX6_turnBack_41 : decode cX6_turnBack 41 = .ok (.aload_n 0, 1) := by decide +kernel
theorem dX6_turnBack_42 : decode cX6_turnBack 42 = .ok (.getfield 15, 3) := by decide +kernel
theorem dX6_turnBack_45 : decode cX6_turnBack 45 = .ok (.aload_n 0, 1) := by decide +kernel
theorem dX6_turnBack_46 : decode cX6_turnBack 46 = .ok (.getfield 18, 3) := by decide +kernel
theorem dX6_turnBack_49 : decode cX6_turnBack 49 = .ok (.iconst 1, 1) := by decide +kernel
theorem dX6_turnBack_50 : decode cX6_turnBack 50 = .ok (.isub, 1) := by decide +kernel
theorem dX6_turnBack_51 : decode cX6_turnBack 51 = .ok (.iload_n 3, 1) := by decide +kernel
theorem dX6_turnBack_52 : decode cX6_turnBack 52 = .ok (.isub, 1) := by decide +kernel
theorem dX6_turnBack_53 : decode cX6_turnBack 53 = .ok (.aload_n 2, 1) := by decide +kernel
theorem dX6_turnBack_54 : decode cX6_turnBack 54 = .ok (.getfield 32, 3) := by decide +kernel
theorem dX6_turnBack_57 : decode cX6_turnBack 57 = .ok (.iload 4, 2) := by decide +kernel
theorem dX6_turnBack_59 : decode cX6_turnBack 59 = .ok (.iaload, 1) := by decide +kernel
theorem dX6_turnBack_60 : decode cX6_turnBack 60 = .ok (.iastore, 1) := by decide +kernel
theorem dX6_turnBack_61 : decode cX6_turnBack 61 = .ok (.aload_n 2, 1) := by decide +kernel
theorem dX6_turnBack_62 : decode cX6_turnBack 62 = .ok (.getfield 32, 3) := by decide +kernel
theorem dX6_turnBack_65 : decode cX6_turnBack 65 = .ok (.iload 4, 2) := by decide +kernel
theorem dX6_turnBack_67 : decode cX6_turnBack 67 = .ok (.aload_n 1, 1) := by decide +kernel
theorem dX6_turnBack_68 : decode cX6_turnBack 68 = .ok (.getfield 15, 3) := by decide +kernel
theorem dX6_turnBack_71 : decode cX6_turnBack 71 = .ok (.iload_n 3, 1) := by decide +kernel
theorem dX6_turnBack_72 : decode cX6_turnBack 72 = .ok (.iaload, 1) := by decide +kernel
theorem dX6_turnBack_73 : decode cX6_turnBack 73 = .ok (.iastore, 1) := by decide +kernel
theorem dX6_turnBack_74 : decode cX6_turnBack 74 = .ok (.iinc 3 1, 3) := by decide +kernel
theorem dX6_turnBack_77 : decode cX6_turnBack 77 = .ok (.goto (-67), 3) := by decide +kernel
theorem dX6_turnBack_80 : decode cX6_turnBack 80 = .ok (.return_, 1) := by decide +kernel
def l_X6_turnBack_10 (S : SH) (a0 : Nat) (a1 : Nat) (a2 : Nat) (k10 : (Int32 × Mem) → Option (Unit × Mem)) (x : (Int32 × Mem)) : Option (Unit × Mem) :=
 (gI S 6 a0 2 x.2).bind fun v3 =>
 (if v3 ≤ x.1 then
 some ((), x.2)
 else
 (gR S 6 a1 0).bind fun v4 =>
 (aI S .int v4 x.1 x.2).bind fun v5 =>
 (gR S 6 a0 0).bind fun v6 =>
 (gI S 6 a0 2 x.2).bind fun v7 =>
 (sI S v6 ((v7 - 1) - x.1) v5 x.2).bind fun ν8 =>
 (gR S 6 a0 1).bind fun v9 =>
 (gI S 6 a0 2 ν8).bind fun v10 =>
 (gR S 2 a2 3).bind fun v11 =>
 (aI S .int v11 v5 ν8).bind fun v12 =>
 (sI S v9 ((v10 - 1) - x.1) v12 ν8).bind fun ν13 =>
 (gR S 2 a2 3).bind fun v14 =>
 (gR S 6 a1 1).bind fun v15 =>
 (aI S .int v15 x.1 ν13).bind fun v16 =>
 (sI S v14 v5 v16 ν13).bind fun ν17 =>
 k10 (x.1 + 1, ν17))
set_option maxRecDepth 100000 in
set_option maxHeartbeats 4000000 in
theorem t_X6_turnBack_10 {γ : GE} {p : Program} {l : Launch} {e : Env} {s : State} {m : MethodId} {args : Array Value} {below : List Frame} {meth : Method} {c : Code} {S : SH} {X : (Unit × Mem)} (F : FX γ p s m args meth c cX6_turnBack RX6 5) (hr : meth.sig.returnType = (none)) (a0 : Nat) (a1 : Nat) (a2 : Nat) (k10 : (Int32 × Mem) → Option (Unit × Mem)) (hk10 : ∀ (x10_3 : Int32) (ν : Mem), k10 (x10_3, ν) = some X → JJ γ p l e rm_X6_turnBack s m args below meth c 5 0 0 (QV below γ S X args s 0 0) S ν 10 [(0, .ref (gb γ + a0)), (1, .ref (gb γ + a1)), (2, .ref (gb γ + a2)), (3, .int x10_3)] []) (x : (Int32 × Mem)) (h : l_X6_turnBack_10 S a0 a1 a2 k10 x = some X) : JJ γ p l e rm_X6_turnBack s m args below meth c 5 0 0 (QV below γ S X args s 0 0) S x.2 10 [(0, .ref (gb γ + a0)), (1, .ref (gb γ + a1)), (2, .ref (gb γ + a2)), (3, .int x.1)] [] := by
  unfold l_X6_turnBack_10 at h
  refine j_iload_n F 3 dX6_turnBack_10 rfl ?_
  refine j_aload_n F 0 dX6_turnBack_11 rfl ?_
  refine j_gI F fl_RX6_18.l rfl dX6_turnBack_12 h (fun v3 h => ?_)
  refine j_icmpge F 80 dX6_turnBack_15 (by decide) h (fun _ h => ?_) (fun _ h => ?_)
  · exact j_vret F hr dX6_turnBack_80 h
  · refine j_aload_n F 1 dX6_turnBack_18 rfl ?_
    refine j_gR F fl_RX6_9 rfl dX6_turnBack_19 h (fun v4 h => ?_)
    refine j_iload_n F 3 dX6_turnBack_22 rfl ?_
    refine j_iald F dX6_turnBack_23 h (fun v5 h => ?_)
    refine j_istore F [(4, .int v5), (0, .ref (gb γ + a0)), (1, .ref (gb γ + a1)), (2, .ref (gb γ + a2)), (3, .int x.1)] dX6_turnBack_24 (by decide) rfl ?_
    refine j_aload_n F 1 dX6_turnBack_26 rfl ?_
    refine j_gR F fl_RX6_9 rfl dX6_turnBack_27 h (fun v6 h => ?_)
    refine j_aload_n F 1 dX6_turnBack_30 rfl ?_
    refine j_gI F fl_RX6_18.l rfl dX6_turnBack_31 h (fun v7 h => ?_)
    refine j_iconst F 1 dX6_turnBack_34 (by decide) ?_
    refine j_isub F dX6_turnBack_35 ?_
    refine j_iload_n F 4 dX6_turnBack_36 rfl ?_
    refine j_isub F dX6_turnBack_37 ?_
    refine j_iload F 0 dX6_turnBack_38 rfl ?_
    refine j_iast F dX6_turnBack_40 h (fun ν8 h => ?_)
    refine j_aload_n F 1 dX6_turnBack_41 rfl ?_
    refine j_gR F fl_RX6_15 rfl dX6_turnBack_42 h (fun v9 h => ?_)
    refine j_aload_n F 1 dX6_turnBack_45 rfl ?_
    refine j_gI F fl_RX6_18.l rfl dX6_turnBack_46 h (fun v10 h => ?_)
    refine j_iconst F 1 dX6_turnBack_49 (by decide) ?_
    refine j_isub F dX6_turnBack_50 ?_
    refine j_iload_n F 4 dX6_turnBack_51 rfl ?_
    refine j_isub F dX6_turnBack_52 ?_
    refine j_aload_n F 3 dX6_turnBack_53 rfl ?_
    refine j_gR F fl_RX6_32 rfl dX6_turnBack_54 h (fun v11 h => ?_)
    refine j_iload F 0 dX6_turnBack_57 rfl ?_
    refine j_iald F dX6_turnBack_59 h (fun v12 h => ?_)
    refine j_iast F dX6_turnBack_60 h (fun ν13 h => ?_)
    refine j_aload_n F 3 dX6_turnBack_61 rfl ?_
    refine j_gR F fl_RX6_32 rfl dX6_turnBack_62 h (fun v14 h => ?_)
    refine j_iload F 0 dX6_turnBack_65 rfl ?_
    refine j_aload_n F 2 dX6_turnBack_67 rfl ?_
    refine j_gR F fl_RX6_15 rfl dX6_turnBack_68 h (fun v15 h => ?_)
    refine j_iload_n F 4 dX6_turnBack_71 rfl ?_
    refine j_iald F dX6_turnBack_72 h (fun v16 h => ?_)
    refine j_iast F dX6_turnBack_73 h (fun ν17 h => ?_)
    refine j_iinc F 1 4 [(3, .int (x.1 + 1)), (4, .int v5), (0, .ref (gb γ + a0)), (1, .ref (gb γ + a1)), (2, .ref (gb γ + a2))] dX6_turnBack_74 rfl (by decide) (by decide) rfl ?_
    refine j_goto F 10 dX6_turnBack_77 (by decide) ?_
    refine j_lv [(0, .ref (gb γ + a0)), (1, .ref (gb γ + a1)), (2, .ref (gb γ + a2)), (3, .int (x.1 + 1))] [2, 3, 4, 0] rfl ?_
    exact hk10 _ _ h
theorem s_X6_turnBack_10 {γ : GE} {p : Program} {l : Launch} {e : Env} {s : State} {m : MethodId} {args : Array Value} {below : List Frame} {meth : Method} {c : Code} {S : SH} {X : (Unit × Mem)} (F : FX γ p s m args meth c cX6_turnBack RX6 5) (hr : meth.sig.returnType = (none)) (a0 : Nat) (a1 : Nat) (a2 : Nat) (x10_3 : Int32) (ν : Mem) (h : lpN (l_X6_turnBack_10 S a0 a1 a2) fu (x10_3, ν) = some X) : JJ γ p l e rm_X6_turnBack s m args below meth c 5 0 0 (QV below γ S X args s 0 0) S ν 10 [(0, .ref (gb γ + a0)), (1, .ref (gb γ + a1)), (2, .ref (gb γ + a2)), (3, .int x10_3)] [] :=
 lpN_sound (fun x => JJ γ p l e rm_X6_turnBack s m args below meth c 5 0 0 (QV below γ S X args s 0 0) S x.2 10 [(0, .ref (gb γ + a0)), (1, .ref (gb γ + a1)), (2, .ref (gb γ + a2)), (3, .int x.1)] []) (fun k10 hk10 x h => t_X6_turnBack_10 F hr a0 a1 a2 k10 (fun x10_3 ν h => hk10 (x10_3, ν) h) x h) fu (x10_3, ν) h
def f_X6_turnBack (S : SH) (a0 : Nat) (a1 : Nat) (a2 : Nat) (μ : Mem) : Option (Unit × Mem) :=
  if isO S 6 a0 = true then
  (gI S 6 a1 2 μ).bind fun v1 =>
  (pI S 6 a0 2 v1 μ).bind fun ν2 =>
  lpN (l_X6_turnBack_10 S  a0 a1 a2) fu (0, ν2)
  else none
set_option maxRecDepth 100000 in
set_option maxHeartbeats 4000000 in
theorem c_X6_turnBack {l : Launch} {γ : GE} {S : SH} {a0 : Nat} {a1 : Nat} {a2 : Nat} {μ : Mem} {X : (Unit × Mem)} (h : f_X6_turnBack S a0 a1 a2 μ = some X) : isO S 6 a0 = true ∧ Ct l γ yX6_turnBack cX6_turnBack 5 (none) rm_X6_turnBack [.ref (gb γ + a0), .ref (gb γ + a1), .ref (gb γ + a2)] S μ S X.2 none := by
  unfold f_X6_turnBack at h
  obtain ⟨h0, h⟩ := if_some h
  refine ⟨h0, ?_⟩
  have hJ : ∀ (p : Program) (e : Env) (s : State) (m : MethodId) (args : Array Value) (below : List Frame) (meth : Method) (c : Code), FX γ p s m args meth c cX6_turnBack RX6 5 → meth.sig.returnType = (none) → JJ γ p l e rm_X6_turnBack s m args below meth c 5 0 0 (QV below γ S X args s 0 0) S μ 0 [(0, .ref (gb γ + a0)), (1, .ref (gb γ + a1)), (2, .ref (gb γ + a2))] [] := by
    intro p e s m args below meth c F hr
    refine j_aload_n F 0 dX6_turnBack_0 rfl ?_
    refine j_aload_n F 1 dX6_turnBack_1 rfl ?_
    refine j_gI F fl_RX6_18.l rfl dX6_turnBack_2 h (fun v1 h => ?_)
    refine j_pI F fl_RX6_18 rfl dX6_turnBack_5 h (fun ν2 h => ?_)
    refine j_iconst F 0 dX6_turnBack_8 (by decide) ?_
    refine j_istore_n F [(3, .int 0), (0, .ref (gb γ + a0)), (1, .ref (gb γ + a1)), (2, .ref (gb γ + a2))] dX6_turnBack_9 rfl (by decide) rfl ?_
    refine j_lv [(0, .ref (gb γ + a0)), (1, .ref (gb γ + a1)), (2, .ref (gb γ + a2)), (3, .int 0)] [1, 2, 3, 0] rfl ?_
    exact s_X6_turnBack_10 F hr _ _ _ _ _ h
  exact ct_of (by decide +kernel) (Nat.le_of_ble_eq_true rfl) (fun p e s m args below meth c F hr _ => hJ p e s m args below meth c F hr)
def rm_J7_fill_53178 : Room := { frames := 0, cells := 0, slots := 0, locals := 0 }
theorem dJ7_fill_53178_0 : decode cJ7_fill_53178 0 = .ok (.iconst 0, 1) := by decide +kernel
theorem dJ7_fill_53178_1 : decode cJ7_fill_53178 1 = .ok (.istore_n 2, 1) := by decide +kernel
theorem dJ7_fill_53178_2 : decode cJ7_fill_53178 2 = .ok (.aload_n 0, 1) := by decide +kernel
theorem dJ7_fill_53178_3 : decode cJ7_fill_53178 3 = .ok (.arraylength, 1) := by decide +kernel
theorem dJ7_fill_53178_4 : decode cJ7_fill_53178 4 = .ok (.istore_n 3, 1) := by decide +kernel
theorem dJ7_fill_53178_5 : decode cJ7_fill_53178 5 = .ok (.iload_n 2, 1) := by decide +kernel
theorem dJ7_fill_53178_6 : decode cJ7_fill_53178 6 = .ok (.iload_n 3, 1) := by decide +kernel
theorem dJ7_fill_53178_7 : decode cJ7_fill_53178 7 = .ok (.if_icmp .ge 13, 3) := by decide +kernel
theorem dJ7_fill_53178_10 : decode cJ7_fill_53178 10 = .ok (.aload_n 0, 1) := by decide +kernel
theorem dJ7_fill_53178_11 : decode cJ7_fill_53178 11 = .ok (.iload_n 2, 1) := by decide +kernel
theorem dJ7_fill_53178_12 : decode cJ7_fill_53178 12 = .ok (.iload_n 1, 1) := by decide +kernel
theorem dJ7_fill_53178_13 : decode cJ7_fill_53178 13 = .ok (.iastore, 1) := by decide +kernel
theorem dJ7_fill_53178_14 : decode cJ7_fill_53178 14 = .ok (.iinc 2 1, 3) := by decide +kernel
theorem dJ7_fill_53178_17 : decode cJ7_fill_53178 17 = .ok (.goto (-12), 3) := by decide +kernel
theorem dJ7_fill_53178_20 : decode cJ7_fill_53178 20 = .ok (.return_, 1) := by decide +kernel
def l_J7_fill_53178_5 (S : SH) (a0 : Nat) (a1 : Int32) (a3 : Int32) (k5 : (Int32 × Mem) → Option (Unit × Mem)) (x : (Int32 × Mem)) : Option (Unit × Mem) :=
 (if a3 ≤ x.1 then
 some ((), x.2)
 else
 (sI S a0 x.1 a1 x.2).bind fun ν2 =>
 k5 (x.1 + 1, ν2))
set_option maxRecDepth 100000 in
set_option maxHeartbeats 4000000 in
theorem t_J7_fill_53178_5 {γ : GE} {p : Program} {l : Launch} {e : Env} {s : State} {m : MethodId} {args : Array Value} {below : List Frame} {meth : Method} {c : Code} {S : SH} {X : (Unit × Mem)} (F : FX γ p s m args meth c cJ7_fill_53178 RJ7 4) (hr : meth.sig.returnType = (none)) (a0 : Nat) (a1 : Int32) (a3 : Int32) (k5 : (Int32 × Mem) → Option (Unit × Mem)) (hk5 : ∀ (x5_2 : Int32) (ν : Mem), k5 (x5_2, ν) = some X → JJ γ p l e rm_J7_fill_53178 s m args below meth c 4 0 0 (QV below γ S X args s 0 0) S ν 5 [(0, .ref (gb γ + a0)), (1, .int a1), (2, .int x5_2), (3, .int a3)] []) (x : (Int32 × Mem)) (h : l_J7_fill_53178_5 S a0 a1 a3 k5 x = some X) : JJ γ p l e rm_J7_fill_53178 s m args below meth c 4 0 0 (QV below γ S X args s 0 0) S x.2 5 [(0, .ref (gb γ + a0)), (1, .int a1), (2, .int x.1), (3, .int a3)] [] := by
  unfold l_J7_fill_53178_5 at h
  refine j_iload_n F 2 dJ7_fill_53178_5 rfl ?_
  refine j_iload_n F 3 dJ7_fill_53178_6 rfl ?_
  refine j_icmpge F 20 dJ7_fill_53178_7 (by decide) h (fun _ h => ?_) (fun _ h => ?_)
  · exact j_vret F hr dJ7_fill_53178_20 h
  · refine j_aload_n F 0 dJ7_fill_53178_10 rfl ?_
    refine j_iload_n F 2 dJ7_fill_53178_11 rfl ?_
    refine j_iload_n F 1 dJ7_fill_53178_12 rfl ?_
    refine j_iast F dJ7_fill_53178_13 h (fun ν2 h => ?_)
    refine j_iinc F 1 2 [(2, .int (x.1 + 1)), (0, .ref (gb γ + a0)), (1, .int a1), (3, .int a3)] dJ7_fill_53178_14 rfl (by decide) (by decide) rfl ?_
    refine j_goto F 5 dJ7_fill_53178_17 (by decide) ?_
    refine j_lv [(0, .ref (gb γ + a0)), (1, .int a1), (2, .int (x.1 + 1)), (3, .int a3)] [1, 2, 0, 3] rfl ?_
    exact hk5 _ _ h
theorem s_J7_fill_53178_5 {γ : GE} {p : Program} {l : Launch} {e : Env} {s : State} {m : MethodId} {args : Array Value} {below : List Frame} {meth : Method} {c : Code} {S : SH} {X : (Unit × Mem)} (F : FX γ p s m args meth c cJ7_fill_53178 RJ7 4) (hr : meth.sig.returnType = (none)) (a0 : Nat) (a1 : Int32) (a3 : Int32) (x5_2 : Int32) (ν : Mem) (h : lpN (l_J7_fill_53178_5 S a0 a1 a3) fu (x5_2, ν) = some X) : JJ γ p l e rm_J7_fill_53178 s m args below meth c 4 0 0 (QV below γ S X args s 0 0) S ν 5 [(0, .ref (gb γ + a0)), (1, .int a1), (2, .int x5_2), (3, .int a3)] [] :=
 lpN_sound (fun x => JJ γ p l e rm_J7_fill_53178 s m args below meth c 4 0 0 (QV below γ S X args s 0 0) S x.2 5 [(0, .ref (gb γ + a0)), (1, .int a1), (2, .int x.1), (3, .int a3)] []) (fun k5 hk5 x h => t_J7_fill_53178_5 F hr a0 a1 a3 k5 (fun x5_2 ν h => hk5 (x5_2, ν) h) x h) fu (x5_2, ν) h
def f_J7_fill_53178 (S : SH) (a0 : Nat) (a1 : Int32) (μ : Mem) : Option (Unit × Mem) :=
  (aN S .int a0).bind fun v1 =>
  lpN (l_J7_fill_53178_5 S  a0 a1 v1) fu (0, μ)
set_option maxRecDepth 100000 in
set_option maxHeartbeats 4000000 in
theorem c_J7_fill_53178 {l : Launch} {γ : GE} {S : SH} {a0 : Nat} {a1 : Int32} {μ : Mem} {X : (Unit × Mem)} (h : f_J7_fill_53178 S a0 a1 μ = some X) : Ct l γ yJ7_fill_53178 cJ7_fill_53178 4 (none) rm_J7_fill_53178 [.ref (gb γ + a0), .int a1] S μ S X.2 none := by
  unfold f_J7_fill_53178 at h
  have hJ : ∀ (p : Program) (e : Env) (s : State) (m : MethodId) (args : Array Value) (below : List Frame) (meth : Method) (c : Code), FX γ p s m args meth c cJ7_fill_53178 RJ7 4 → meth.sig.returnType = (none) → JJ γ p l e rm_J7_fill_53178 s m args below meth c 4 0 0 (QV below γ S X args s 0 0) S μ 0 [(0, .ref (gb γ + a0)), (1, .int a1)] [] := by
    intro p e s m args below meth c F hr
    refine j_iconst F 0 dJ7_fill_53178_0 (by decide) ?_
    refine j_istore_n F [(2, .int 0), (0, .ref (gb γ + a0)), (1, .int a1)] dJ7_fill_53178_1 rfl (by decide) rfl ?_
    refine j_aload_n F 1 dJ7_fill_53178_2 rfl ?_
    refine j_alen F 0 rfl dJ7_fill_53178_3 h (fun v1 h => ?_)
    refine j_istore_n F [(3, .int v1), (2, .int 0), (0, .ref (gb γ + a0)), (1, .int a1)] dJ7_fill_53178_4 rfl (by decide) rfl ?_
    refine j_lv [(0, .ref (gb γ + a0)), (1, .int a1), (2, .int 0), (3, .int v1)] [2, 3, 1, 0] rfl ?_
    exact s_J7_fill_53178_5 F hr _ _ _ _ _ h
  exact ct_of (by decide +kernel) (Nat.le_of_ble_eq_true rfl) (fun p e s m args below meth c F hr _ => hJ p e s m args below meth c F hr)
def rm_X7_begin : Room := { frames := 1, cells := 0, slots := 0, locals := 23 }
theorem dX7_begin_0 : decode cX7_begin 0 = .ok (.aload_n 0, 1) := by decide +kernel
theorem dX7_begin_1 : decode cX7_begin 1 = .ok (.getfield 15, 3) := by decide +kernel
theorem dX7_begin_4 : decode cX7_begin 4 = .ok (.iconst 0, 1) := by decide +kernel
theorem dX7_begin_5 : decode cX7_begin 5 = .ok (.invokestatic 21, 3) := by decide +kernel
theorem dX7_begin_8 : decode cX7_begin 8 = .ok (.aload_n 0, 1) := by decide +kernel
theorem dX7_begin_9 : decode cX7_begin 9 = .ok (.getfield 15, 3) := by decide +kernel
theorem dX7_begin_12 : decode cX7_begin 12 = .ok (.iload_n 2, 1) := by decide +kernel
theorem dX7_begin_13 : decode cX7_begin 13 = .ok (.aload_n 0, 1) := by decide +kernel
theorem dX7_begin_14 : decode cX7_begin 14 = .ok (.getfield 9, 3) := by decide +kernel
theorem dX7_begin_17 : decode cX7_begin 17 = .ok (.iload_n 2, 1) := by decide +kernel
theorem dX7_begin_18 : decode cX7_begin 18 = .ok (.iaload, 1) := by decide +kernel
theorem dX7_begin_19 : decode cX7_begin 19 = .ok (.iconst 1, 1) := by decide +kernel
theorem dX7_begin_20 : decode cX7_begin 20 = .ok (.iload_n 1, 1) := by decide +kernel
theorem dX7_begin_21 : decode cX7_begin 21 = .ok (.ishl, 1) := by decide +kernel
theorem dX7_begin_22 : decode cX7_begin 22 = .ok (.iand, 1) := by decide +kernel
theorem dX7_begin_23 : decode cX7_begin 23 = .ok (.iastore, 1) := by decide +kernel
theorem dX7_begin_24 : decode cX7_begin 24 = .ok (.return_, 1) := by decide +kernel
def f_X7_begin (S : SH) (a0 : Nat) (a1 : Int32) (a2 : Int32) (μ : Mem) : Option (Unit × Mem) :=
  if isO S 7 a0 = true then
  (gR S 7 a0 1).bind fun v1 =>
  (f_J7_fill_53178 S v1 0 μ).bind fun q2 =>
  (gR S 7 a0 1).bind fun v3 =>
  (gR S 7 a0 0).bind fun v4 =>
  (aI S .int v4 a2 q2.2).bind fun v5 =>
  (sI S v3 a2 (v5 &&& (1 <<< (a1 &&& 31))) q2.2).bind fun ν6 =>
  some ((), ν6)
  else none
set_option maxRecDepth 100000 in
set_option maxHeartbeats 4000000 in
theorem c_X7_begin {l : Launch} {γ : GE} {S : SH} {a0 : Nat} {a1 : Int32} {a2 : Int32} {μ : Mem} {X : (Unit × Mem)} (h : f_X7_begin S a0 a1 a2 μ = some X) : isO S 7 a0 = true ∧ Ct l γ yX7_begin cX7_begin 3 (none) rm_X7_begin [.ref (gb γ + a0), .int a1, .int a2] S μ S X.2 none := by
  unfold f_X7_begin at h
  obtain ⟨h0, h⟩ := if_some h
  refine ⟨h0, ?_⟩
  have hJ : ∀ (p : Program) (e : Env) (s : State) (m : MethodId) (args : Array Value) (below : List Frame) (meth : Method) (c : Code), FX γ p s m args meth c cX7_begin RX7 3 → meth.sig.returnType = (none) → JJ γ p l e rm_X7_begin s m args below meth c 3 0 0 (QV below γ S X args s 0 0) S μ 0 [(0, .ref (gb γ + a0)), (1, .int a1), (2, .int a2)] [] := by
    intro p e s m args below meth c F hr
    refine j_aload_n F 0 dX7_begin_0 rfl ?_
    refine j_gR F fl_RX7_15 rfl dX7_begin_1 h (fun v1 h => ?_)
    refine j_iconst F 0 dX7_begin_4 (by decide) ?_
    refine j_cSV F mi_J7_fill_53178 w_715 (rest := []) h (fun _ g => c_J7_fill_53178 g) rfl rfl (Nat.le_of_ble_eq_true rfl) ⟨Nat.le_of_ble_eq_true rfl, Nat.le_of_ble_eq_true rfl⟩ ⟨Nat.le_of_ble_eq_true rfl, Nat.le_of_ble_eq_true rfl⟩ dX7_begin_5 (fun q2 h => ?_)
    refine j_aload_n F 0 dX7_begin_8 rfl ?_
    refine j_gR F fl_RX7_15 rfl dX7_begin_9 h (fun v3 h => ?_)
    refine j_iload_n F 2 dX7_begin_12 rfl ?_
    refine j_aload_n F 0 dX7_begin_13 rfl ?_
    refine j_gR F fl_RX7_9 rfl dX7_begin_14 h (fun v4 h => ?_)
    refine j_iload_n F 2 dX7_begin_17 rfl ?_
    refine j_iald F dX7_begin_18 h (fun v5 h => ?_)
    refine j_iconst F 1 dX7_begin_19 (by decide) ?_
    refine j_iload_n F 1 dX7_begin_20 rfl ?_
    refine j_ishl F dX7_begin_21 ?_
    refine j_iand F dX7_begin_22 ?_
    refine j_iast F dX7_begin_23 h (fun ν6 h => ?_)
    exact j_vret F hr dX7_begin_24 h
  exact ct_of (by decide +kernel) (Nat.le_of_ble_eq_true rfl) (fun p e s m args below meth c F hr _ => hJ p e s m args below meth c F hr)
def rm_X7_spread : Room := { frames := 1, cells := 0, slots := 0, locals := 60 }
theorem dX7_spread_0 : decode cX7_spread 0 = .ok (.iconst 0, 1) := by decide +kernel
theorem dX7_spread_1 : decode cX7_spread 1 = .ok (.istore_n 1, 1) := by decide +kernel
theorem dX7_spread_2 : decode cX7_spread 2 = .ok (.iconst 0, 1) := by decide +kernel
theorem dX7_spread_3 : decode cX7_spread 3 = .ok (.istore_n 2, 1) := by decide +kernel
theorem dX7_spread_4 : decode cX7_spread 4 = .ok (.iload_n 2, 1) := by decide +kernel
theorem dX7_spread_5 : decode cX7_spread 5 = .ok (.bipush 61, 2) := by decide +kernel
theorem dX7_spread_7 : decode cX7_spread 7 = .ok (.if_icmp .ge 116, 3) := by decide +kernel
theorem dX7_spread_10 : decode cX7_spread 10 = .ok (.aload_n 0, 1) := by decide +kernel
theorem dX7_spread_11 : decode cX7_spread 11 = .ok (.getfield 15, 3) := by decide +kernel
theorem dX7_spread_14 : decode cX7_spread 14 = .ok (.iload_n 2, 1) := by decide +kernel
theorem dX7_spread_15 : decode cX7_spread 15 = .ok (.iaload, 1) := by decide +kernel
theorem dX7_spread_16 : decode cX7_spread 16 = .ok (.istore_n 3, 1) := by decide +kernel
theorem dX7_spread_17 : decode cX7_spread 17 = .ok (.iload_n 3, 1) := by decide +kernel
theorem dX7_spread_18 : decode cX7_spread 18 = .ok (.iconst 1, 1) := by decide +kernel
theorem dX7_spread_19 : decode cX7_spread 19 = .ok (.ishl, 1) := by decide +kernel
theorem dX7_spread_20 : decode cX7_spread 20 = .ok (.iload_n 3, 1) := by decide +kernel
theorem dX7_spread_21 : decode cX7_spread 21 = .ok (.bipush 19, 2) := by decide +kernel
theorem dX7_spread_23 : decode cX7_spread 23 = .ok (.ishr, 1) := by decide +kernel
theorem dX7_spread_24 : decode cX7_spread 24 = .ok (.ior, 1) := by decide +kernel
theorem dX7_spread_25 : decode cX7_spread 25 = .ok (.istore 4, 2) := by decide +kernel
theorem dX7_spread_27 : decode cX7_spread 27 = .ok (.iload_n 3, 1) := by decide +kernel
theorem dX7_spread_28 : decode cX7_spread 28 = .ok (.iconst 1, 1) := by decide +kernel
theorem dX7_spread_29 : decode cX7_spread 29 = .ok (.ishr, 1) := by decide +kernel
theorem dX7_spread_30 : decode cX7_spread 30 = .ok (.iload_n 3, 1) := by decide +kernel
theorem dX7_spread_31 : decode cX7_spread 31 = .ok (.bipush 19, 2) := by decide +kernel
theorem dX7_spread_33 : decode cX7_spread 33 = .ok (.ishl, 1) := by decide +kernel
theorem dX7_spread_34 : decode cX7_spread 34 = .ok (.ior, 1) := by decide +kernel
theorem dX7_spread_35 : decode cX7_spread 35 = .ok (.istore 5, 2) := by decide +kernel
theorem dX7_spread_37 : decode cX7_spread 37 = .ok (.iload_n 2, 1) := by decide +kernel
theorem dX7_spread_38 : decode cX7_spread 38 = .ok (.ifCond .le 14, 3) := by decide +kernel
theorem dX7_spread_41 : decode cX7_spread 41 = .ok (.aload_n 0, 1) := by decide +kernel
theorem dX7_spread_42 : decode cX7_spread 42 = .ok (.getfield 15, 3) := by decide +kernel
theorem dX7_spread_45 : decode cX7_spread 45 = .ok (.iload_n 2, 1) := by decide +kernel
theorem dX7_spread_46 : decode cX7_spread 46 = .ok (.iconst 1, 1) := by decide +kernel
theorem dX7_spread_47 : decode cX7_spread 47 = .ok (.isub, 1) := by decide +kernel
theorem dX7_spread_48 : decode cX7_spread 48 = .ok (.iaload, 1) := by decide +kernel
theorem dX7_spread_49 : decode cX7_spread 49 = .ok (.goto 4, 3) := by decide +kernel
theorem dX7_spread_52 : decode cX7_spread 52 = .ok (.iconst 0, 1) := by decide +kernel
theorem dX7_spread_53 : decode cX7_spread 53 = .ok (.iload_n 2, 1) := by decide +kernel
theorem dX7_spread_54 : decode cX7_spread 54 = .ok (.bipush 60, 2) := by decide +kernel
theorem dX7_spread_56 : decode cX7_spread 56 = .ok (.if_icmp .ge 14, 3) := by decide +kernel
theorem dX7_spread_59 : decode cX7_spread 59 = .ok (.aload_n 0, 1) := by decide +kernel
theorem dX7_spread_60 : decode cX7_spread 60 = .ok (.getfield 15, 3) := by decide +kernel
theorem dX7_spread_63 : decode cX7_spread 63 = .ok (.iload_n 2, 1) := by decide +kernel
theorem dX7_spread_64 : decode cX7_spread 64 = .ok (.iconst 1, 1) := by decide +kernel
theorem dX7_spread_65 : decode cX7_spread 65 = .ok (.iadd, 1) := by decide +kernel
theorem dX7_spread_66 : decode cX7_spread 66 = .ok (.iaload, 1) := by decide +kernel
theorem dX7_spread_67 : decode cX7_spread 67 = .ok (.goto 4, 3) := by decide +kernel
theorem dX7_spread_70 : decode cX7_spread 70 = .ok (.iconst 0, 1) := by decide +kernel
theorem dX7_spread_71 : decode cX7_spread 71 = .ok (.ior, 1) := by decide +kernel
theorem dX7_spread_72 : decode cX7_spread 72 = .ok (.istore 6, 2) := by decide +kernel
theorem dX7_spread_74 : decode cX7_spread 74 = .ok (.aload_n 0, 1) := by decide +kernel
theorem dX7_spread_75 : decode cX7_spread 75 = .ok (.getfield 18, 3) := by decide +kernel
theorem dX7_spread_78 : decode cX7_spread 78 = .ok (.iload_n 2, 1) := by decide +kernel
theorem dX7_spread_79 : decode cX7_spread 79 = .ok (.iload_n 3, 1) := by decide +kernel
theorem dX7_spread_80 : decode cX7_spread 80 = .ok (.iload 4, 2) := by decide +kernel
theorem dX7_spread_82 : decode cX7_spread 82 = .ok (.ior, 1) := by decide +kernel
theorem dX7_spread_83 : decode cX7_spread 83 = .ok (.iload 5, 2) := by decide +kernel
theorem dX7_spread_85 : decode cX7_spread 85 = .ok (.ior, 1) := by decide +kernel
theorem dX7_spread_86 : decode cX7_spread 86 = .ok (.iload 6, 2) := by decide +kernel
theorem dX7_spread_88 : decode cX7_spread 88 = .ok (.ior, 1) := by decide +kernel
theorem dX7_spread_89 : decode cX7_spread 89 = .ok (.aload_n 0, 1) := by decide +kernel
theorem dX7_spread_90 : decode cX7_spread 90 = .ok (.getfield 9, 3) := by decide +kernel
theorem dX7_spread_93 : decode cX7_spread 93 = .ok (.iload_n 2, 1) := by decide +kernel
theorem dX7_spread_94 : decode cX7_spread 94 = .ok (.iaload, 1) := by decide +kernel
theorem dX7_spread_95 : decode cX7_spread 95 = .ok (.iand, 1) := by decide +kernel
theorem dX7_spread_96 : decode cX7_spread 96 = .ok (.iastore, 1) := by decide +kernel
theorem dX7_spread_97 : decode cX7_spread 97 = .ok (.iload_n 1, 1) := by decide +kernel
theorem dX7_spread_98 : decode cX7_spread 98 = .ok (.ifCond .ne 13, 3) := by decide +kernel
theorem dX7_spread_101 : decode cX7_spread 101 = .ok (.aload_n 0, 1) := by decide +kernel
theorem dX7_spread_102 : decode cX7_spread 102 = .ok (.getfield 18, 3) := by decide +kernel
theorem dX7_spread_105 : decode cX7_spread 105 = .ok (.iload_n 2, 1) := by decide +kernel
theorem dX7_spread_106 : decode cX7_spread 106 = .ok (.iaload, 1) := by decide +kernel
theorem dX7_spread_107 : decode cX7_spread 107 = .ok (.iload_n 3, 1) := by decide +kernel
theorem dX7_spread_108 : decode cX7_spread 108 = .ok (.if_icmp .eq 7, 3) := by decide +kernel
theorem dX7_spread_111 : decode cX7_spread 111 = .ok (.iconst 1, 1) := by decide +kernel
theorem dX7_spread_112 : decode cX7_spread 112 = .ok (.goto 4, 3) := by decide +kernel
theorem dX7_spread_115 : decode cX7_spread 115 = .ok (.iconst 0, 1) := by decide +kernel
theorem dX7_spread_116 : decode cX7_spread 116 = .ok (.istore_n 1, 1) := by decide +kernel
theorem dX7_spread_117 : decode cX7_spread 117 = .ok (.iinc 2 1, 3) := by decide +kernel
theorem dX7_spread_120 : decode cX7_spread 120 = .ok (.goto (-116), 3) := by decide +kernel
theorem dX7_spread_123 : decode cX7_spread 123 = .ok (.aload_n 0, 1) := by decide +kernel
theorem dX7_spread_124 : decode cX7_spread 124 = .ok (.getfield 18, 3) := by decide +kernel
theorem dX7_spread_127 : decode cX7_spread 127 = .ok (.iconst 0, 1) := by decide +kernel
theorem dX7_spread_128 : decode cX7_spread 128 = .ok (.aload_n 0, 1) := by decide +kernel
theorem dX7_spread_129 : decode cX7_spread 129 = .ok (.getfield 15, 3) := by decide +kernel
theorem dX7_spread_132 : decode cX7_spread 132 = .ok (.iconst 0, 1) := by decide +kernel
theorem dX7_spread_133 : decode cX7_spread 133 = .ok (.bipush 61, 2) := by decide +kernel
theorem dX7_spread_135 : decode cX7_spread 135 = .ok (.invokestatic 31, 3) := by decide +kernel
theorem dX7_spread_138 : decode cX7_spread 138 = .ok (.iload_n 1, 1) := by decide +kernel
theorem dX7_spread_139 : decode cX7_spread 139 = .ok (.ireturn, 1) := by decide +kernel
def b_X7_spread_123 (S : SH) (a0 : Nat) (a1 : Int32) (μ : Mem) : Option (Int32 × Mem) :=
 (gR S 7 a0 2).bind fun v1 =>
 (gR S 7 a0 1).bind fun v2 =>
 (cpI S .int v1 0 v2 0 61 μ).bind fun ν3 =>
 (oz a1).bind fun z4 => some (z4, ν3)
set_option maxRecDepth 100000 in
set_option maxHeartbeats 4000000 in
theorem s_X7_spread_123 {γ : GE} {p : Program} {l : Launch} {e : Env} {s : State} {m : MethodId} {args : Array Value} {below : List Frame} {meth : Method} {c : Code} {S : SH} {X : (Int32 × Mem)} (F : FX γ p s m args meth c cX7_spread RX7 7) (hr : meth.sig.returnType = (some .boolean)) (a0 : Nat) (a1 : Int32)    (μ : Mem) (h : b_X7_spread_123 S a0 a1 μ = some X) : JJ γ p l e rm_X7_spread s m args below meth c 7 0 0 (QI below γ S X args s 0 0) S μ 123 [(0, .ref (gb γ + a0)), (1, .int a1)] [] := by
  unfold b_X7_spread_123 at h
  refine j_aload_n F 0 dX7_spread_123 rfl ?_
  refine j_gR F fl_RX7_18 rfl dX7_spread_124 h (fun v1 h => ?_)
  refine j_iconst F 0 dX7_spread_127 (by decide) ?_
  refine j_aload_n F 0 dX7_spread_128 rfl ?_
  refine j_gR F fl_RX7_15 rfl dX7_spread_129 h (fun v2 h => ?_)
  refine j_iconst F 0 dX7_spread_132 (by decide) ?_
  refine j_bipush F 61 dX7_spread_133 (by decide) ?_
  refine j_cpI F w_724 ⟨Nat.le_of_ble_eq_true rfl, Nat.le_of_ble_eq_true rfl⟩ dX7_spread_135 h (fun ν3 h => ?_)
  refine j_iload_n F 1 dX7_spread_138 rfl ?_
  exact j_zretG F hr dX7_spread_139 h
def b_X7_spread_71 (S : SH) (k4 : (Int32 × Int32 × Mem) → Option (Int32 × Mem)) (a0 : Nat) (a1 : Int32) (a2 : Int32) (a3 : Int32) (a4 : Int32) (a5 : Int32) (t0 : Int32) (t1 : Int32) (μ : Mem) : Option (Int32 × Mem) :=
 (some (t1 ||| t0)).bind fun y9 =>
 (gR S 7 a0 2).bind fun v10 =>
 (gR S 7 a0 0).bind fun v11 =>
 (aI S .int v11 a2 μ).bind fun v12 =>
 (sI S v10 a2 ((((a3 ||| a4) ||| a5) ||| y9) &&& v12) μ).bind fun ν13 =>
 (if a1 = 0 then
 (gR S 7 a0 2).bind fun v14 =>
 (aI S .int v14 a2 ν13).bind fun v15 =>
 (if v15 = a3 then
 k4 (0, a2 + 1, ν13)
 else
 k4 (1, a2 + 1, ν13))
 else
 k4 (1, a2 + 1, ν13))
set_option maxRecDepth 100000 in
set_option maxHeartbeats 4000000 in
theorem s_X7_spread_71 {γ : GE} {p : Program} {l : Launch} {e : Env} {s : State} {m : MethodId} {args : Array Value} {below : List Frame} {meth : Method} {c : Code} {S : SH} {X : (Int32 × Mem)} (F : FX γ p s m args meth c cX7_spread RX7 7) (hr : meth.sig.returnType = (some .boolean)) (a0 : Nat) (a1 : Int32) (a2 : Int32) (a3 : Int32) (a4 : Int32) (a5 : Int32)  (k4 : (Int32 × Int32 × Mem) → Option (Int32 × Mem)) (hk4 : ∀ (x4_1 : Int32) (x4_2 : Int32) (ν : Mem), k4 (x4_1, x4_2, ν) = some X → JJ γ p l e rm_X7_spread s m args below meth c 7 0 0 (QI below γ S X args s 0 0) S ν 4 [(0, .ref (gb γ + a0)), (1, .int x4_1), (2, .int x4_2)] []) (t0 : Int32) (t1 : Int32) (μ : Mem) (h : b_X7_spread_71 S k4 a0 a1 a2 a3 a4 a5 t0 t1 μ = some X) : JJ γ p l e rm_X7_spread s m args below meth c 7 0 0 (QI below γ S X args s 0 0) S μ 71 [(0, .ref (gb γ + a0)), (1, .int a1), (2, .int a2), (3, .int a3), (4, .int a4), (5, .int a5)] [.int t0, .int t1] := by
  unfold b_X7_spread_71 at h
  refine j_ior F dX7_spread_71 ?_
  refine j_nmI h (fun y9 h => ?_)
  refine j_istore F [(6, .int y9), (0, .ref (gb γ + a0)), (1, .int a1), (2, .int a2), (3, .int a3), (4, .int a4), (5, .int a5)] dX7_spread_72 (by decide) rfl ?_
  refine j_aload_n F 1 dX7_spread_74 rfl ?_
  refine j_gR F fl_RX7_18 rfl dX7_spread_75 h (fun v10 h => ?_)
  refine j_iload_n F 3 dX7_spread_78 rfl ?_
  refine j_iload_n F 4 dX7_spread_79 rfl ?_
  refine j_iload F 5 dX7_spread_80 rfl ?_
  refine j_ior F dX7_spread_82 ?_
  refine j_iload F 6 dX7_spread_83 rfl ?_
  refine j_ior F dX7_spread_85 ?_
  refine j_iload F 0 dX7_spread_86 rfl ?_
  refine j_ior F dX7_spread_88 ?_
  refine j_aload_n F 1 dX7_spread_89 rfl ?_
  refine j_gR F fl_RX7_9 rfl dX7_spread_90 h (fun v11 h => ?_)
  refine j_iload_n F 3 dX7_spread_93 rfl ?_
  refine j_iald F dX7_spread_94 h (fun v12 h => ?_)
  refine j_iand F dX7_spread_95 ?_
  refine j_iast F dX7_spread_96 h (fun ν13 h => ?_)
  refine j_iload_n F 2 dX7_spread_97 rfl ?_
  refine j_ifne F 111 dX7_spread_98 (by decide) h (fun _ h => ?_) (fun _ h => ?_)
  · refine j_iconst F 1 dX7_spread_111 (by decide) ?_
    refine j_goto F 116 dX7_spread_112 (by decide) ?_
    refine j_istore_n F [(1, .int 1), (6, .int y9), (0, .ref (gb γ + a0)), (2, .int a2), (3, .int a3), (4, .int a4), (5, .int a5)] dX7_spread_116 rfl (by decide) rfl ?_
    refine j_iinc F 1 3 [(2, .int (a2 + 1)), (1, .int 1), (6, .int y9), (0, .ref (gb γ + a0)), (3, .int a3), (4, .int a4), (5, .int a5)] dX7_spread_117 rfl (by decide) (by decide) rfl ?_
    refine j_goto F 4 dX7_spread_120 (by decide) ?_
    refine j_lv [(0, .ref (gb γ + a0)), (1, .int 1), (2, .int (a2 + 1))] [3, 1, 0] rfl ?_
    exact hk4 _ _ _ h
  · refine j_aload_n F 1 dX7_spread_101 rfl ?_
    refine j_gR F fl_RX7_18 rfl dX7_spread_102 h (fun v14 h => ?_)
    refine j_iload_n F 3 dX7_spread_105 rfl ?_
    refine j_iald F dX7_spread_106 h (fun v15 h => ?_)
    refine j_iload_n F 4 dX7_spread_107 rfl ?_
    refine j_icmpeq F 115 dX7_spread_108 (by decide) h (fun _ h => ?_) (fun _ h => ?_)
    · refine j_iconst F 0 dX7_spread_115 (by decide) ?_
      refine j_istore_n F [(1, .int 0), (6, .int y9), (0, .ref (gb γ + a0)), (2, .int a2), (3, .int a3), (4, .int a4), (5, .int a5)] dX7_spread_116 rfl (by decide) rfl ?_
      refine j_iinc F 1 3 [(2, .int (a2 + 1)), (1, .int 0), (6, .int y9), (0, .ref (gb γ + a0)), (3, .int a3), (4, .int a4), (5, .int a5)] dX7_spread_117 rfl (by decide) (by decide) rfl ?_
      refine j_goto F 4 dX7_spread_120 (by decide) ?_
      refine j_lv [(0, .ref (gb γ + a0)), (1, .int 0), (2, .int (a2 + 1))] [3, 1, 0] rfl ?_
      exact hk4 _ _ _ h
    · refine j_iconst F 1 dX7_spread_111 (by decide) ?_
      refine j_goto F 116 dX7_spread_112 (by decide) ?_
      refine j_istore_n F [(1, .int 1), (6, .int y9), (0, .ref (gb γ + a0)), (2, .int a2), (3, .int a3), (4, .int a4), (5, .int a5)] dX7_spread_116 rfl (by decide) rfl ?_
      refine j_iinc F 1 3 [(2, .int (a2 + 1)), (1, .int 1), (6, .int y9), (0, .ref (gb γ + a0)), (3, .int a3), (4, .int a4), (5, .int a5)] dX7_spread_117 rfl (by decide) (by decide) rfl ?_
      refine j_goto F 4 dX7_spread_120 (by decide) ?_
      refine j_lv [(0, .ref (gb γ + a0)), (1, .int 1), (2, .int (a2 + 1))] [3, 1, 0] rfl ?_
      exact hk4 _ _ _ h
def b_X7_spread_53 (S : SH) (k4 : (Int32 × Int32 × Mem) → Option (Int32 × Mem)) (a0 : Nat) (a1 : Int32) (a2 : Int32) (a3 : Int32) (a4 : Int32) (a5 : Int32) (t0 : Int32) (μ : Mem) : Option (Int32 × Mem) :=
 (if 60 ≤ a2 then
 b_X7_spread_71 S k4 a0 a1 a2 a3 a4 a5 0 t0 μ
 else
 (gR S 7 a0 1).bind fun v16 =>
 (aI S .int v16 (a2 + 1) μ).bind fun v17 =>
 b_X7_spread_71 S k4 a0 a1 a2 a3 a4 a5 v17 t0 μ)
set_option maxRecDepth 100000 in
set_option maxHeartbeats 4000000 in
theorem s_X7_spread_53 {γ : GE} {p : Program} {l : Launch} {e : Env} {s : State} {m : MethodId} {args : Array Value} {below : List Frame} {meth : Method} {c : Code} {S : SH} {X : (Int32 × Mem)} (F : FX γ p s m args meth c cX7_spread RX7 7) (hr : meth.sig.returnType = (some .boolean)) (a0 : Nat) (a1 : Int32) (a2 : Int32) (a3 : Int32) (a4 : Int32) (a5 : Int32)  (k4 : (Int32 × Int32 × Mem) → Option (Int32 × Mem)) (hk4 : ∀ (x4_1 : Int32) (x4_2 : Int32) (ν : Mem), k4 (x4_1, x4_2, ν) = some X → JJ γ p l e rm_X7_spread s m args below meth c 7 0 0 (QI below γ S X args s 0 0) S ν 4 [(0, .ref (gb γ + a0)), (1, .int x4_1), (2, .int x4_2)] []) (t0 : Int32) (μ : Mem) (h : b_X7_spread_53 S k4 a0 a1 a2 a3 a4 a5 t0 μ = some X) : JJ γ p l e rm_X7_spread s m args below meth c 7 0 0 (QI below γ S X args s 0 0) S μ 53 [(0, .ref (gb γ + a0)), (1, .int a1), (2, .int a2), (3, .int a3), (4, .int a4), (5, .int a5)] [.int t0] := by
  unfold b_X7_spread_53 at h
  refine j_iload_n F 2 dX7_spread_53 rfl ?_
  refine j_bipush F 60 dX7_spread_54 (by decide) ?_
  refine j_icmpge F 70 dX7_spread_56 (by decide) h (fun _ h => ?_) (fun _ h => ?_)
  · refine j_iconst F 0 dX7_spread_70 (by decide) ?_
    exact s_X7_spread_71 F hr _ _ _ _ _ _ _ hk4 _ _ _ h
  · refine j_aload_n F 0 dX7_spread_59 rfl ?_
    refine j_gR F fl_RX7_15 rfl dX7_spread_60 h (fun v16 h => ?_)
    refine j_iload_n F 2 dX7_spread_63 rfl ?_
    refine j_iconst F 1 dX7_spread_64 (by decide) ?_
    refine j_iadd F dX7_spread_65 ?_
    refine j_iald F dX7_spread_66 h (fun v17 h => ?_)
    refine j_goto F 71 dX7_spread_67 (by decide) ?_
    exact s_X7_spread_71 F hr _ _ _ _ _ _ _ hk4 _ _ _ h
def l_X7_spread_4 (S : SH) (a0 : Nat) (k4 : (Int32 × Int32 × Mem) → Option (Int32 × Mem)) (x : (Int32 × Int32 × Mem)) : Option (Int32 × Mem) :=
 (if 61 ≤ x.2.1 then
 b_X7_spread_123 S a0 x.1 x.2.2
 else
 (gR S 7 a0 1).bind fun v5 =>
 (aI S .int v5 x.2.1 x.2.2).bind fun v6 =>
 (some ((v6 <<< (1 &&& 31)) ||| (v6 >>> (19 &&& 31)))).bind fun y7 =>
 (some ((v6 >>> (1 &&& 31)) ||| (v6 <<< (19 &&& 31)))).bind fun y8 =>
 (if x.2.1 ≤ 0 then
 b_X7_spread_53 S k4 a0 x.1 x.2.1 v6 y7 y8 0 x.2.2
 else
 (gR S 7 a0 1).bind fun v18 =>
 (aI S .int v18 (x.2.1 - 1) x.2.2).bind fun v19 =>
 b_X7_spread_53 S k4 a0 x.1 x.2.1 v6 y7 y8 v19 x.2.2))
set_option maxRecDepth 100000 in
set_option maxHeartbeats 4000000 in
theorem t_X7_spread_4 {γ : GE} {p : Program} {l : Launch} {e : Env} {s : State} {m : MethodId} {args : Array Value} {below : List Frame} {meth : Method} {c : Code} {S : SH} {X : (Int32 × Mem)} (F : FX γ p s m args meth c cX7_spread RX7 7) (hr : meth.sig.returnType = (some .boolean)) (a0 : Nat) (k4 : (Int32 × Int32 × Mem) → Option (Int32 × Mem)) (hk4 : ∀ (x4_1 : Int32) (x4_2 : Int32) (ν : Mem), k4 (x4_1, x4_2, ν) = some X → JJ γ p l e rm_X7_spread s m args below meth c 7 0 0 (QI below γ S X args s 0 0) S ν 4 [(0, .ref (gb γ + a0)), (1, .int x4_1), (2, .int x4_2)] []) (x : (Int32 × Int32 × Mem)) (h : l_X7_spread_4 S a0 k4 x = some X) : JJ γ p l e rm_X7_spread s m args below meth c 7 0 0 (QI below γ S X args s 0 0) S x.2.2 4 [(0, .ref (gb γ + a0)), (1, .int x.1), (2, .int x.2.1)] [] := by
  unfold l_X7_spread_4 at h
  refine j_iload_n F 2 dX7_spread_4 rfl ?_
  refine j_bipush F 61 dX7_spread_5 (by decide) ?_
  refine j_icmpge F 123 dX7_spread_7 (by decide) h (fun _ h => ?_) (fun _ h => ?_)
  · refine j_lv [(0, .ref (gb γ + a0)), (1, .int x.1)] [0, 1] rfl ?_
    exact s_X7_spread_123 F hr _ _ _ h
  · refine j_aload_n F 0 dX7_spread_10 rfl ?_
    refine j_gR F fl_RX7_15 rfl dX7_spread_11 h (fun v5 h => ?_)
    refine j_iload_n F 2 dX7_spread_14 rfl ?_
    refine j_iald F dX7_spread_15 h (fun v6 h => ?_)
    refine j_istore_n F [(3, .int v6), (0, .ref (gb γ + a0)), (1, .int x.1), (2, .int x.2.1)] dX7_spread_16 rfl (by decide) rfl ?_
    refine j_iload_n F 0 dX7_spread_17 rfl ?_
    refine j_iconst F 1 dX7_spread_18 (by decide) ?_
    refine j_ishl F dX7_spread_19 ?_
    refine j_iload_n F 0 dX7_spread_20 rfl ?_
    refine j_bipush F 19 dX7_spread_21 (by decide) ?_
    refine j_ishr F dX7_spread_23 ?_
    refine j_ior F dX7_spread_24 ?_
    refine j_nmI h (fun y7 h => ?_)
    refine j_istore F [(4, .int y7), (3, .int v6), (0, .ref (gb γ + a0)), (1, .int x.1), (2, .int x.2.1)] dX7_spread_25 (by decide) rfl ?_
    refine j_iload_n F 1 dX7_spread_27 rfl ?_
    refine j_iconst F 1 dX7_spread_28 (by decide) ?_
    refine j_ishr F dX7_spread_29 ?_
    refine j_iload_n F 1 dX7_spread_30 rfl ?_
    refine j_bipush F 19 dX7_spread_31 (by decide) ?_
    refine j_ishl F dX7_spread_33 ?_
    refine j_ior F dX7_spread_34 ?_
    refine j_nmI h (fun y8 h => ?_)
    refine j_istore F [(5, .int y8), (4, .int y7), (3, .int v6), (0, .ref (gb γ + a0)), (1, .int x.1), (2, .int x.2.1)] dX7_spread_35 (by decide) rfl ?_
    refine j_iload_n F 5 dX7_spread_37 rfl ?_
    refine j_ifle F 52 dX7_spread_38 (by decide) h (fun _ h => ?_) (fun _ h => ?_)
    · refine j_iconst F 0 dX7_spread_52 (by decide) ?_
      refine j_lv [(0, .ref (gb γ + a0)), (1, .int x.1), (2, .int x.2.1), (3, .int v6), (4, .int y7), (5, .int y8)] [3, 4, 5, 2, 1, 0] rfl ?_
      exact s_X7_spread_53 F hr _ _ _ _ _ _ _ hk4 _ _ h
    · refine j_aload_n F 3 dX7_spread_41 rfl ?_
      refine j_gR F fl_RX7_15 rfl dX7_spread_42 h (fun v18 h => ?_)
      refine j_iload_n F 5 dX7_spread_45 rfl ?_
      refine j_iconst F 1 dX7_spread_46 (by decide) ?_
      refine j_isub F dX7_spread_47 ?_
      refine j_iald F dX7_spread_48 h (fun v19 h => ?_)
      refine j_goto F 53 dX7_spread_49 (by decide) ?_
      refine j_lv [(0, .ref (gb γ + a0)), (1, .int x.1), (2, .int x.2.1), (3, .int v6), (4, .int y7), (5, .int y8)] [3, 4, 5, 2, 1, 0] rfl ?_
      exact s_X7_spread_53 F hr _ _ _ _ _ _ _ hk4 _ _ h
theorem s_X7_spread_4 {γ : GE} {p : Program} {l : Launch} {e : Env} {s : State} {m : MethodId} {args : Array Value} {below : List Frame} {meth : Method} {c : Code} {S : SH} {X : (Int32 × Mem)} (F : FX γ p s m args meth c cX7_spread RX7 7) (hr : meth.sig.returnType = (some .boolean)) (a0 : Nat) (x4_1 : Int32) (x4_2 : Int32) (ν : Mem) (h : lpN (l_X7_spread_4 S a0) fu (x4_1, x4_2, ν) = some X) : JJ γ p l e rm_X7_spread s m args below meth c 7 0 0 (QI below γ S X args s 0 0) S ν 4 [(0, .ref (gb γ + a0)), (1, .int x4_1), (2, .int x4_2)] [] :=
 lpN_sound (fun x => JJ γ p l e rm_X7_spread s m args below meth c 7 0 0 (QI below γ S X args s 0 0) S x.2.2 4 [(0, .ref (gb γ + a0)), (1, .int x.1), (2, .int x.2.1)] []) (fun k4 hk4 x h => t_X7_spread_4 F hr a0 k4 (fun x4_1 x4_2 ν h => hk4 (x4_1, x4_2, ν) h) x h) fu (x4_1, x4_2, ν) h
def f_X7_spread (S : SH) (a0 : Nat) (μ : Mem) : Option (Int32 × Mem) :=
  if isO S 7 a0 = true then
  lpN (l_X7_spread_4 S  a0) fu (0, 0, μ)
  else none
set_option maxRecDepth 100000 in
set_option maxHeartbeats 4000000 in
theorem c_X7_spread {l : Launch} {γ : GE} {S : SH} {a0 : Nat} {μ : Mem} {X : (Int32 × Mem)} (h : f_X7_spread S a0 μ = some X) : isO S 7 a0 = true ∧ Ct l γ yX7_spread cX7_spread 7 (some .boolean) rm_X7_spread [.ref (gb γ + a0)] S μ S X.2 (some (.int X.1)) := by
  unfold f_X7_spread at h
  obtain ⟨h0, h⟩ := if_some h
  refine ⟨h0, ?_⟩
  have hJ : ∀ (p : Program) (e : Env) (s : State) (m : MethodId) (args : Array Value) (below : List Frame) (meth : Method) (c : Code), FX γ p s m args meth c cX7_spread RX7 7 → meth.sig.returnType = (some .boolean) → JJ γ p l e rm_X7_spread s m args below meth c 7 0 0 (QI below γ S X args s 0 0) S μ 0 [(0, .ref (gb γ + a0))] [] := by
    intro p e s m args below meth c F hr
    refine j_iconst F 0 dX7_spread_0 (by decide) ?_
    refine j_istore_n F [(1, .int 0), (0, .ref (gb γ + a0))] dX7_spread_1 rfl (by decide) rfl ?_
    refine j_iconst F 0 dX7_spread_2 (by decide) ?_
    refine j_istore_n F [(2, .int 0), (1, .int 0), (0, .ref (gb γ + a0))] dX7_spread_3 rfl (by decide) rfl ?_
    refine j_lv [(0, .ref (gb γ + a0)), (1, .int 0), (2, .int 0)] [2, 1, 0] rfl ?_
    exact s_X7_spread_4 F hr _ _ _ _ h
  exact ct_of (by decide +kernel) (Nat.le_of_ble_eq_true rfl) (fun p e s m args below meth c F hr _ => hJ p e s m args below meth c F hr)
def rm_X7_movesTo : Room := { frames := 2, cells := 0, slots := 0, locals := 86 }
theorem dX7_movesTo_0 : decode cX7_movesTo 0 = .ok (.iconst 1, 1) := by decide +kernel
theorem dX7_movesTo_1 : decode cX7_movesTo 1 = .ok (.istore_n 3, 1) := by decide +kernel
theorem dX7_movesTo_2 : decode cX7_movesTo 2 = .ok (.iconst 0, 1) := by decide +kernel
theorem dX7_movesTo_3 : decode cX7_movesTo 3 = .ok (.istore 4, 2) := by decide +kernel
theorem dX7_movesTo_5 : decode cX7_movesTo 5 = .ok (.iload_n 3, 1) := by decide +kernel
theorem dX7_movesTo_6 : decode cX7_movesTo 6 = .ok (.ifCond .eq 38, 3) := by decide +kernel
theorem dX7_movesTo_9 : decode cX7_movesTo 9 = .ok (.iload 4, 2) := by decide +kernel
theorem dX7_movesTo_11 : decode cX7_movesTo 11 = .ok (.sipush 1220, 3) := by decide +kernel
theorem dX7_movesTo_14 : decode cX7_movesTo 14 = .ok (.if_icmp .gt 30, 3) := by decide +kernel
theorem dX7_movesTo_17 : decode cX7_movesTo 17 = .ok (.aload_n 0, 1) := by decide +kernel
theorem dX7_movesTo_18 : decode cX7_movesTo 18 = .ok (.getfield 15, 3) := by decide +kernel
theorem dX7_movesTo_21 : decode cX7_movesTo 21 = .ok (.iload_n 2, 1) := by decide +kernel
theorem dX7_movesTo_22 : decode cX7_movesTo 22 = .ok (.iaload, 1) := by decide +kernel
theorem dX7_movesTo_23 : decode cX7_movesTo 23 = .ok (.iconst 1, 1) := by decide +kernel
theorem dX7_movesTo_24 : decode cX7_movesTo 24 = .ok (.iload_n 1, 1) := by decide +kernel
theorem dX7_movesTo_25 : decode cX7_movesTo 25 = .ok (.ishl, 1) := by decide +kernel
theorem dX7_movesTo_26 : decode cX7_movesTo 26 = .ok (.iand, 1) := by decide +kernel
theorem dX7_movesTo_27 : decode cX7_movesTo 27 = .ok (.ifCond .eq 6, 3) := by decide +kernel
theorem dX7_movesTo_30 : decode cX7_movesTo 30 = .ok (.iload 4, 2) := by decide +kernel
theorem dX7_movesTo_32 : decode cX7_movesTo 32 = .ok (.ireturn, 1) := by decide +kernel
theorem dX7_movesTo_33 : decode cX7_movesTo 33 = .ok (.aload_n 0, 1) := by decide +kernel
theorem dX7_movesTo_34 : decode cX7_movesTo 34 = .ok (.invokevirtual 27, 3) := by decide +kernel
theorem dX7_movesTo_37 : decode cX7_movesTo 37 = .ok (.istore_n 3, 1) := by decide +kernel
theorem dX7_movesTo_38 : decode cX7_movesTo 38 = .ok (.iinc 4 1, 3) := by decide +kernel
theorem dX7_movesTo_41 : decode cX7_movesTo 41 = .ok (.goto (-36), 3) := by decide +kernel
theorem dX7_movesTo_44 : decode cX7_movesTo 44 = .ok (.bipush (-5), 2) := by decide +kernel
theorem dX7_movesTo_46 : decode cX7_movesTo 46 = .ok (.ireturn, 1) := by decide +kernel
def l_X7_movesTo_5 (S : SH) (a0 : Nat) (a1 : Int32) (a2 : Int32) (k5 : (Int32 × Int32 × Mem) → Option (Int32 × Mem)) (x : (Int32 × Int32 × Mem)) : Option (Int32 × Mem) :=
 (if x.1 = 0 then
 some ((-5), x.2.2)
 else
 (if 1220 < x.2.1 then
 some ((-5), x.2.2)
 else
 (gR S 7 a0 1).bind fun v1 =>
 (aI S .int v1 a2 x.2.2).bind fun v2 =>
 (if (v2 &&& (1 <<< (a1 &&& 31))) = 0 then
 (f_X7_spread S a0 x.2.2).bind fun q3 =>
 k5 (q3.1, x.2.1 + 1, q3.2)
 else
 some (x.2.1, x.2.2))))
set_option maxRecDepth 100000 in
set_option maxHeartbeats 4000000 in
theorem t_X7_movesTo_5 {γ : GE} {p : Program} {l : Launch} {e : Env} {s : State} {m : MethodId} {args : Array Value} {below : List Frame} {meth : Method} {c : Code} {S : SH} {X : (Int32 × Mem)} (F : FX γ p s m args meth c cX7_movesTo RX7 5) (hr : meth.sig.returnType = (some .int)) (a0 : Nat) (a1 : Int32) (a2 : Int32) (k5 : (Int32 × Int32 × Mem) → Option (Int32 × Mem)) (hk5 : ∀ (x5_3 : Int32) (x5_4 : Int32) (ν : Mem), k5 (x5_3, x5_4, ν) = some X → JJ γ p l e rm_X7_movesTo s m args below meth c 5 0 0 (QI below γ S X args s 0 0) S ν 5 [(0, .ref (gb γ + a0)), (1, .int a1), (2, .int a2), (3, .int x5_3), (4, .int x5_4)] []) (x : (Int32 × Int32 × Mem)) (h : l_X7_movesTo_5 S a0 a1 a2 k5 x = some X) : JJ γ p l e rm_X7_movesTo s m args below meth c 5 0 0 (QI below γ S X args s 0 0) S x.2.2 5 [(0, .ref (gb γ + a0)), (1, .int a1), (2, .int a2), (3, .int x.1), (4, .int x.2.1)] [] := by
  unfold l_X7_movesTo_5 at h
  refine j_iload_n F 3 dX7_movesTo_5 rfl ?_
  refine j_ifeq F 44 dX7_movesTo_6 (by decide) h (fun _ h => ?_) (fun _ h => ?_)
  · refine j_bipush F (-5) dX7_movesTo_44 (by decide) ?_
    exact j_iret F hr dX7_movesTo_46 h
  · refine j_iload F 4 dX7_movesTo_9 rfl ?_
    refine j_sipush F 1220 dX7_movesTo_11 (by decide) ?_
    refine j_icmpgt F 44 dX7_movesTo_14 (by decide) h (fun _ h => ?_) (fun _ h => ?_)
    · refine j_bipush F (-5) dX7_movesTo_44 (by decide) ?_
      exact j_iret F hr dX7_movesTo_46 h
    · refine j_aload_n F 0 dX7_movesTo_17 rfl ?_
      refine j_gR F fl_RX7_15 rfl dX7_movesTo_18 h (fun v1 h => ?_)
      refine j_iload_n F 2 dX7_movesTo_21 rfl ?_
      refine j_iald F dX7_movesTo_22 h (fun v2 h => ?_)
      refine j_iconst F 1 dX7_movesTo_23 (by decide) ?_
      refine j_iload_n F 1 dX7_movesTo_24 rfl ?_
      refine j_ishl F dX7_movesTo_25 ?_
      refine j_iand F dX7_movesTo_26 ?_
      refine j_ifeq F 33 dX7_movesTo_27 (by decide) h (fun _ h => ?_) (fun _ h => ?_)
      · refine j_aload_n F 0 dX7_movesTo_33 rfl ?_
        refine j_cVI F mi_X7_spread w_720 (rest := []) h (fun _ g => c_X7_spread g) rfl rfl (Nat.le_of_ble_eq_true rfl) ⟨Nat.le_of_ble_eq_true rfl, Nat.le_of_ble_eq_true rfl⟩ ⟨Nat.le_of_ble_eq_true rfl, Nat.le_of_ble_eq_true rfl⟩ dX7_movesTo_34 (fun q3 h => ?_)
        refine j_istore_n F [(3, .int q3.1), (0, .ref (gb γ + a0)), (1, .int a1), (2, .int a2), (4, .int x.2.1)] dX7_movesTo_37 rfl (by decide) rfl ?_
        refine j_iinc F 1 4 [(4, .int (x.2.1 + 1)), (3, .int q3.1), (0, .ref (gb γ + a0)), (1, .int a1), (2, .int a2)] dX7_movesTo_38 rfl (by decide) (by decide) rfl ?_
        refine j_goto F 5 dX7_movesTo_41 (by decide) ?_
        refine j_lv [(0, .ref (gb γ + a0)), (1, .int a1), (2, .int a2), (3, .int q3.1), (4, .int (x.2.1 + 1))] [2, 3, 4, 1, 0] rfl ?_
        exact hk5 _ _ _ h
      · refine j_iload F 4 dX7_movesTo_30 rfl ?_
        exact j_iret F hr dX7_movesTo_32 h
theorem s_X7_movesTo_5 {γ : GE} {p : Program} {l : Launch} {e : Env} {s : State} {m : MethodId} {args : Array Value} {below : List Frame} {meth : Method} {c : Code} {S : SH} {X : (Int32 × Mem)} (F : FX γ p s m args meth c cX7_movesTo RX7 5) (hr : meth.sig.returnType = (some .int)) (a0 : Nat) (a1 : Int32) (a2 : Int32) (x5_3 : Int32) (x5_4 : Int32) (ν : Mem) (h : lpN (l_X7_movesTo_5 S a0 a1 a2) fu (x5_3, x5_4, ν) = some X) : JJ γ p l e rm_X7_movesTo s m args below meth c 5 0 0 (QI below γ S X args s 0 0) S ν 5 [(0, .ref (gb γ + a0)), (1, .int a1), (2, .int a2), (3, .int x5_3), (4, .int x5_4)] [] :=
 lpN_sound (fun x => JJ γ p l e rm_X7_movesTo s m args below meth c 5 0 0 (QI below γ S X args s 0 0) S x.2.2 5 [(0, .ref (gb γ + a0)), (1, .int a1), (2, .int a2), (3, .int x.1), (4, .int x.2.1)] []) (fun k5 hk5 x h => t_X7_movesTo_5 F hr a0 a1 a2 k5 (fun x5_3 x5_4 ν h => hk5 (x5_3, x5_4, ν) h) x h) fu (x5_3, x5_4, ν) h
def f_X7_movesTo (S : SH) (a0 : Nat) (a1 : Int32) (a2 : Int32) (μ : Mem) : Option (Int32 × Mem) :=
  if isO S 7 a0 = true then
  lpN (l_X7_movesTo_5 S  a0 a1 a2) fu (1, 0, μ)
  else none
set_option maxRecDepth 100000 in
set_option maxHeartbeats 4000000 in
theorem c_X7_movesTo {l : Launch} {γ : GE} {S : SH} {a0 : Nat} {a1 : Int32} {a2 : Int32} {μ : Mem} {X : (Int32 × Mem)} (h : f_X7_movesTo S a0 a1 a2 μ = some X) : isO S 7 a0 = true ∧ Ct l γ yX7_movesTo cX7_movesTo 5 (some .int) rm_X7_movesTo [.ref (gb γ + a0), .int a1, .int a2] S μ S X.2 (some (.int X.1)) := by
  unfold f_X7_movesTo at h
  obtain ⟨h0, h⟩ := if_some h
  refine ⟨h0, ?_⟩
  have hJ : ∀ (p : Program) (e : Env) (s : State) (m : MethodId) (args : Array Value) (below : List Frame) (meth : Method) (c : Code), FX γ p s m args meth c cX7_movesTo RX7 5 → meth.sig.returnType = (some .int) → JJ γ p l e rm_X7_movesTo s m args below meth c 5 0 0 (QI below γ S X args s 0 0) S μ 0 [(0, .ref (gb γ + a0)), (1, .int a1), (2, .int a2)] [] := by
    intro p e s m args below meth c F hr
    refine j_iconst F 1 dX7_movesTo_0 (by decide) ?_
    refine j_istore_n F [(3, .int 1), (0, .ref (gb γ + a0)), (1, .int a1), (2, .int a2)] dX7_movesTo_1 rfl (by decide) rfl ?_
    refine j_iconst F 0 dX7_movesTo_2 (by decide) ?_
    refine j_istore F [(4, .int 0), (3, .int 1), (0, .ref (gb γ + a0)), (1, .int a1), (2, .int a2)] dX7_movesTo_3 (by decide) rfl ?_
    refine j_lv [(0, .ref (gb γ + a0)), (1, .int a1), (2, .int a2), (3, .int 1), (4, .int 0)] [2, 3, 4, 1, 0] rfl ?_
    exact s_X7_movesTo_5 F hr _ _ _ _ _ _ h
  exact ct_of (by decide +kernel) (Nat.le_of_ble_eq_true rfl) (fun p e s m args below meth c F hr _ => hJ p e s m args below meth c F hr)
def rm_X8_holds : Room := { frames := 0, cells := 0, slots := 0, locals := 0 }
theorem dX8_holds_0 : decode cX8_holds 0 = .ok (.aload_n 0, 1) := by decide +kernel
theorem dX8_holds_1 : decode cX8_holds 1 = .ok (.getfield 16, 3) := by decide +kernel
theorem dX8_holds_4 : decode cX8_holds 4 = .ok (.iload_n 1, 1) := by decide +kernel
theorem dX8_holds_5 : decode cX8_holds 5 = .ok (.iaload, 1) := by decide +kernel
theorem dX8_holds_6 : decode cX8_holds 6 = .ok (.iconst (-1), 1) := by decide +kernel
theorem dX8_holds_7 : decode cX8_holds 7 = .ok (.if_icmp .eq 7, 3) := by decide +kernel
theorem dX8_holds_10 : decode cX8_holds 10 = .ok (.iconst 1, 1) := by decide +kernel
theorem dX8_holds_11 : decode cX8_holds 11 = .ok (.goto 4, 3) := by decide +kernel
theorem dX8_holds_14 : decode cX8_holds 14 = .ok (.iconst 0, 1) := by decide +kernel
theorem dX8_holds_15 : decode cX8_holds 15 = .ok (.ireturn, 1) := by decide +kernel
def f_X8_holds (S : SH) (a0 : Nat) (a1 : Int32) (μ : Mem) : Option (Int32 × Mem) :=
  if isO S 8 a0 = true then
  (gR S 8 a0 1).bind fun v1 =>
  (aI S .int v1 a1 μ).bind fun v2 =>
  (if v2 = (-1) then
  some (0, μ)
  else
  some (1, μ))
  else none
set_option maxRecDepth 100000 in
set_option maxHeartbeats 4000000 in
theorem c_X8_holds {l : Launch} {γ : GE} {S : SH} {a0 : Nat} {a1 : Int32} {μ : Mem} {X : (Int32 × Mem)} (h : f_X8_holds S a0 a1 μ = some X) : isO S 8 a0 = true ∧ Ct l γ yX8_holds cX8_holds 2 (some .boolean) rm_X8_holds [.ref (gb γ + a0), .int a1] S μ S X.2 (some (.int X.1)) := by
  unfold f_X8_holds at h
  obtain ⟨h0, h⟩ := if_some h
  refine ⟨h0, ?_⟩
  have hJ : ∀ (p : Program) (e : Env) (s : State) (m : MethodId) (args : Array Value) (below : List Frame) (meth : Method) (c : Code), FX γ p s m args meth c cX8_holds RX8 2 → meth.sig.returnType = (some .boolean) → JJ γ p l e rm_X8_holds s m args below meth c 2 0 0 (QI below γ S X args s 0 0) S μ 0 [(0, .ref (gb γ + a0)), (1, .int a1)] [] := by
    intro p e s m args below meth c F hr
    refine j_aload_n F 0 dX8_holds_0 rfl ?_
    refine j_gR F fl_RX8_16 rfl dX8_holds_1 h (fun v1 h => ?_)
    refine j_iload_n F 1 dX8_holds_4 rfl ?_
    refine j_iald F dX8_holds_5 h (fun v2 h => ?_)
    refine j_iconst F (-1) dX8_holds_6 (by decide) ?_
    refine j_icmpeq F 14 dX8_holds_7 (by decide) h (fun _ h => ?_) (fun _ h => ?_)
    · refine j_iconst F 0 dX8_holds_14 (by decide) ?_
      exact j_zret F hr (Or.inl rfl) dX8_holds_15 h
    · refine j_iconst F 1 dX8_holds_10 (by decide) ?_
      refine j_goto F 15 dX8_holds_11 (by decide) ?_
      exact j_zret F hr (Or.inr rfl) dX8_holds_15 h
  exact ct_of (by decide +kernel) (Nat.le_of_ble_eq_true rfl) (fun p e s m args below meth c F hr _ => hJ p e s m args below meth c F hr)
def rm_X8_hasPlace : Room := { frames := 0, cells := 0, slots := 0, locals := 0 }
theorem dX8_hasPlace_0 : decode cX8_hasPlace 0 = .ok (.iload_n 2, 1) := by decide +kernel
theorem dX8_hasPlace_1 : decode cX8_hasPlace 1 = .ok (.ifCond .lt 17, 3) := by decide +kernel
theorem dX8_hasPlace_4 : decode cX8_hasPlace 4 = .ok (.iload_n 2, 1) := by decide +kernel
theorem dX8_hasPlace_5 : decode cX8_hasPlace 5 = .ok (.aload_n 0, 1) := by decide +kernel
theorem dX8_hasPlace_6 : decode cX8_hasPlace 6 = .ok (.getfield 16, 3) := by decide +kernel
theorem dX8_hasPlace_9 : decode cX8_hasPlace 9 = .ok (.iload_n 1, 1) := by decide +kernel
theorem dX8_hasPlace_10 : decode cX8_hasPlace 10 = .ok (.iaload, 1) := by decide +kernel
theorem dX8_hasPlace_11 : decode cX8_hasPlace 11 = .ok (.if_icmp .ge 7, 3) := by decide +kernel
theorem dX8_hasPlace_14 : decode cX8_hasPlace 14 = .ok (.iconst 1, 1) := by decide +kernel
theorem dX8_hasPlace_15 : decode cX8_hasPlace 15 = .ok (.goto 4, 3) := by decide +kernel
theorem dX8_hasPlace_18 : decode cX8_hasPlace 18 = .ok (.iconst 0, 1) := by decide +kernel
theorem dX8_hasPlace_19 : decode cX8_hasPlace 19 = .ok (.ireturn, 1) := by decide +kernel
def f_X8_hasPlace (S : SH) (a0 : Nat) (a1 : Int32) (a2 : Int32) (μ : Mem) : Option (Int32 × Mem) :=
  if isO S 8 a0 = true then
  (if a2 < 0 then
  some (0, μ)
  else
  (gR S 8 a0 1).bind fun v1 =>
  (aI S .int v1 a1 μ).bind fun v2 =>
  (if v2 ≤ a2 then
  some (0, μ)
  else
  some (1, μ)))
  else none
set_option maxRecDepth 100000 in
set_option maxHeartbeats 4000000 in
theorem c_X8_hasPlace {l : Launch} {γ : GE} {S : SH} {a0 : Nat} {a1 : Int32} {a2 : Int32} {μ : Mem} {X : (Int32 × Mem)} (h : f_X8_hasPlace S a0 a1 a2 μ = some X) : isO S 8 a0 = true ∧ Ct l γ yX8_hasPlace cX8_hasPlace 3 (some .boolean) rm_X8_hasPlace [.ref (gb γ + a0), .int a1, .int a2] S μ S X.2 (some (.int X.1)) := by
  unfold f_X8_hasPlace at h
  obtain ⟨h0, h⟩ := if_some h
  refine ⟨h0, ?_⟩
  have hJ : ∀ (p : Program) (e : Env) (s : State) (m : MethodId) (args : Array Value) (below : List Frame) (meth : Method) (c : Code), FX γ p s m args meth c cX8_hasPlace RX8 3 → meth.sig.returnType = (some .boolean) → JJ γ p l e rm_X8_hasPlace s m args below meth c 3 0 0 (QI below γ S X args s 0 0) S μ 0 [(0, .ref (gb γ + a0)), (1, .int a1), (2, .int a2)] [] := by
    intro p e s m args below meth c F hr
    refine j_iload_n F 2 dX8_hasPlace_0 rfl ?_
    refine j_iflt F 18 dX8_hasPlace_1 (by decide) h (fun _ h => ?_) (fun _ h => ?_)
    · refine j_iconst F 0 dX8_hasPlace_18 (by decide) ?_
      exact j_zret F hr (Or.inl rfl) dX8_hasPlace_19 h
    · refine j_iload_n F 2 dX8_hasPlace_4 rfl ?_
      refine j_aload_n F 0 dX8_hasPlace_5 rfl ?_
      refine j_gR F fl_RX8_16 rfl dX8_hasPlace_6 h (fun v1 h => ?_)
      refine j_iload_n F 1 dX8_hasPlace_9 rfl ?_
      refine j_iald F dX8_hasPlace_10 h (fun v2 h => ?_)
      refine j_icmpge F 18 dX8_hasPlace_11 (by decide) h (fun _ h => ?_) (fun _ h => ?_)
      · refine j_iconst F 0 dX8_hasPlace_18 (by decide) ?_
        exact j_zret F hr (Or.inl rfl) dX8_hasPlace_19 h
      · refine j_iconst F 1 dX8_hasPlace_14 (by decide) ?_
        refine j_goto F 19 dX8_hasPlace_15 (by decide) ?_
        exact j_zret F hr (Or.inr rfl) dX8_hasPlace_19 h
  exact ct_of (by decide +kernel) (Nat.le_of_ble_eq_true rfl) (fun p e s m args below meth c F hr _ => hJ p e s m args below meth c F hr)
def rm_J7_fill_d0a16 : Room := { frames := 0, cells := 0, slots := 0, locals := 0 }
theorem dJ7_fill_d0a16_0 : decode cJ7_fill_d0a16 0 = .ok (.iconst 0, 1) := by decide +kernel
theorem dJ7_fill_d0a16_1 : decode cJ7_fill_d0a16 1 = .ok (.istore_n 3, 1) := by decide +kernel
theorem dJ7_fill_d0a16_2 : decode cJ7_fill_d0a16 2 = .ok (.aload_n 0, 1) := by decide +kernel
theorem dJ7_fill_d0a16_3 : decode cJ7_fill_d0a16 3 = .ok (.arraylength, 1) := by decide +kernel
theorem dJ7_fill_d0a16_4 : decode cJ7_fill_d0a16 4 = .ok (.istore 4, 2) := by decide +kernel
theorem dJ7_fill_d0a16_6 : decode cJ7_fill_d0a16 6 = .ok (.iload_n 3, 1) := by decide +kernel
theorem dJ7_fill_d0a16_7 : decode cJ7_fill_d0a16 7 = .ok (.iload 4, 2) := by decide +kernel
theorem dJ7_fill_d0a16_9 : decode cJ7_fill_d0a16 9 = .ok (.if_icmp .ge 13, 3) := by decide +kernel
theorem dJ7_fill_d0a16_12 : decode cJ7_fill_d0a16 12 = .ok (.aload_n 0, 1) := by decide +kernel
theorem dJ7_fill_d0a16_13 : decode cJ7_fill_d0a16 13 = .ok (.iload_n 3, 1) := by decide +kernel
theorem dJ7_fill_d0a16_14 : decode cJ7_fill_d0a16 14 = .ok (.lload_n 1, 1) := by decide +kernel
theorem dJ7_fill_d0a16_15 : decode cJ7_fill_d0a16 15 = .ok (.lastore, 1) := by decide +kernel
theorem dJ7_fill_d0a16_16 : decode cJ7_fill_d0a16 16 = .ok (.iinc 3 1, 3) := by decide +kernel
theorem dJ7_fill_d0a16_19 : decode cJ7_fill_d0a16 19 = .ok (.goto (-13), 3) := by decide +kernel
theorem dJ7_fill_d0a16_22 : decode cJ7_fill_d0a16 22 = .ok (.return_, 1) := by decide +kernel
def l_J7_fill_d0a16_6 (S : SH) (a0 : Nat) (a1 : Int64) (a4 : Int32) (k6 : (Int32 × Mem) → Option (Unit × Mem)) (x : (Int32 × Mem)) : Option (Unit × Mem) :=
 (if a4 ≤ x.1 then
 some ((), x.2)
 else
 (sL S a0 x.1 a1 x.2).bind fun ν2 =>
 k6 (x.1 + 1, ν2))
set_option maxRecDepth 100000 in
set_option maxHeartbeats 4000000 in
theorem t_J7_fill_d0a16_6 {γ : GE} {p : Program} {l : Launch} {e : Env} {s : State} {m : MethodId} {args : Array Value} {below : List Frame} {meth : Method} {c : Code} {S : SH} {X : (Unit × Mem)} (F : FX γ p s m args meth c cJ7_fill_d0a16 RJ7 5) (hr : meth.sig.returnType = (none)) (a0 : Nat) (a1 : Int64) (a4 : Int32) (k6 : (Int32 × Mem) → Option (Unit × Mem)) (hk6 : ∀ (x6_3 : Int32) (ν : Mem), k6 (x6_3, ν) = some X → JJ γ p l e rm_J7_fill_d0a16 s m args below meth c 5 0 0 (QV below γ S X args s 0 0) S ν 6 [(0, .ref (gb γ + a0)), (1, .long a1), (3, .int x6_3), (4, .int a4)] []) (x : (Int32 × Mem)) (h : l_J7_fill_d0a16_6 S a0 a1 a4 k6 x = some X) : JJ γ p l e rm_J7_fill_d0a16 s m args below meth c 5 0 0 (QV below γ S X args s 0 0) S x.2 6 [(0, .ref (gb γ + a0)), (1, .long a1), (3, .int x.1), (4, .int a4)] [] := by
  unfold l_J7_fill_d0a16_6 at h
  refine j_iload_n F 2 dJ7_fill_d0a16_6 rfl ?_
  refine j_iload F 3 dJ7_fill_d0a16_7 rfl ?_
  refine j_icmpge F 22 dJ7_fill_d0a16_9 (by decide) h (fun _ h => ?_) (fun _ h => ?_)
  · exact j_vret F hr dJ7_fill_d0a16_22 h
  · refine j_aload_n F 0 dJ7_fill_d0a16_12 rfl ?_
    refine j_iload_n F 2 dJ7_fill_d0a16_13 rfl ?_
    refine j_lload_n F 1 dJ7_fill_d0a16_14 rfl ?_
    refine j_last F dJ7_fill_d0a16_15 h (fun ν2 h => ?_)
    refine j_iinc F 1 2 [(3, .int (x.1 + 1)), (0, .ref (gb γ + a0)), (1, .long a1), (4, .int a4)] dJ7_fill_d0a16_16 rfl (by decide) (by decide) rfl ?_
    refine j_goto F 6 dJ7_fill_d0a16_19 (by decide) ?_
    refine j_lv [(0, .ref (gb γ + a0)), (1, .long a1), (3, .int (x.1 + 1)), (4, .int a4)] [1, 2, 0, 3] rfl ?_
    exact hk6 _ _ h
theorem s_J7_fill_d0a16_6 {γ : GE} {p : Program} {l : Launch} {e : Env} {s : State} {m : MethodId} {args : Array Value} {below : List Frame} {meth : Method} {c : Code} {S : SH} {X : (Unit × Mem)} (F : FX γ p s m args meth c cJ7_fill_d0a16 RJ7 5) (hr : meth.sig.returnType = (none)) (a0 : Nat) (a1 : Int64) (a4 : Int32) (x6_3 : Int32) (ν : Mem) (h : lpN (l_J7_fill_d0a16_6 S a0 a1 a4) fu (x6_3, ν) = some X) : JJ γ p l e rm_J7_fill_d0a16 s m args below meth c 5 0 0 (QV below γ S X args s 0 0) S ν 6 [(0, .ref (gb γ + a0)), (1, .long a1), (3, .int x6_3), (4, .int a4)] [] :=
 lpN_sound (fun x => JJ γ p l e rm_J7_fill_d0a16 s m args below meth c 5 0 0 (QV below γ S X args s 0 0) S x.2 6 [(0, .ref (gb γ + a0)), (1, .long a1), (3, .int x.1), (4, .int a4)] []) (fun k6 hk6 x h => t_J7_fill_d0a16_6 F hr a0 a1 a4 k6 (fun x6_3 ν h => hk6 (x6_3, ν) h) x h) fu (x6_3, ν) h
def f_J7_fill_d0a16 (S : SH) (a0 : Nat) (a1 : Int64) (μ : Mem) : Option (Unit × Mem) :=
  (aN S .long a0).bind fun v1 =>
  lpN (l_J7_fill_d0a16_6 S  a0 a1 v1) fu (0, μ)
set_option maxRecDepth 100000 in
set_option maxHeartbeats 4000000 in
theorem c_J7_fill_d0a16 {l : Launch} {γ : GE} {S : SH} {a0 : Nat} {a1 : Int64} {μ : Mem} {X : (Unit × Mem)} (h : f_J7_fill_d0a16 S a0 a1 μ = some X) : Ct l γ yJ7_fill_d0a16 cJ7_fill_d0a16 5 (none) rm_J7_fill_d0a16 [.ref (gb γ + a0), .long a1] S μ S X.2 none := by
  unfold f_J7_fill_d0a16 at h
  have hJ : ∀ (p : Program) (e : Env) (s : State) (m : MethodId) (args : Array Value) (below : List Frame) (meth : Method) (c : Code), FX γ p s m args meth c cJ7_fill_d0a16 RJ7 5 → meth.sig.returnType = (none) → JJ γ p l e rm_J7_fill_d0a16 s m args below meth c 5 0 0 (QV below γ S X args s 0 0) S μ 0 [(0, .ref (gb γ + a0)), (1, .long a1)] [] := by
    intro p e s m args below meth c F hr
    refine j_iconst F 0 dJ7_fill_d0a16_0 (by decide) ?_
    refine j_istore_n F [(3, .int 0), (0, .ref (gb γ + a0)), (1, .long a1)] dJ7_fill_d0a16_1 rfl (by decide) rfl ?_
    refine j_aload_n F 1 dJ7_fill_d0a16_2 rfl ?_
    refine j_alen F 1 rfl dJ7_fill_d0a16_3 h (fun v1 h => ?_)
    refine j_istore F [(4, .int v1), (3, .int 0), (0, .ref (gb γ + a0)), (1, .long a1)] dJ7_fill_d0a16_4 (by decide) rfl ?_
    refine j_lv [(0, .ref (gb γ + a0)), (1, .long a1), (3, .int 0), (4, .int v1)] [2, 3, 1, 0] rfl ?_
    exact s_J7_fill_d0a16_6 F hr _ _ _ _ _ h
  exact ct_of (by decide +kernel) (Nat.le_of_ble_eq_true rfl) (fun p e s m args below meth c F hr _ => hJ p e s m args below meth c F hr)
def rm_X8_begin : Room := { frames := 1, cells := 0, slots := 0, locals := 24 }
theorem dX8_begin_0 : decode cX8_begin 0 = .ok (.aload_n 0, 1) := by decide +kernel
theorem dX8_begin_1 : decode cX8_begin 1 = .ok (.getfield 11, 3) := by decide +kernel
theorem dX8_begin_4 : decode cX8_begin 4 = .ok (.iload_n 1, 1) := by decide +kernel
theorem dX8_begin_5 : decode cX8_begin 5 = .ok (.aaload, 1) := by decide +kernel
theorem dX8_begin_6 : decode cX8_begin 6 = .ok (.lconst 0, 1) := by decide +kernel
theorem dX8_begin_7 : decode cX8_begin 7 = .ok (.invokestatic 20, 3) := by decide +kernel
theorem dX8_begin_10 : decode cX8_begin 10 = .ok (.aload_n 0, 1) := by decide +kernel
theorem dX8_begin_11 : decode cX8_begin 11 = .ok (.getfield 16, 3) := by decide +kernel
theorem dX8_begin_14 : decode cX8_begin 14 = .ok (.iload_n 1, 1) := by decide +kernel
theorem dX8_begin_15 : decode cX8_begin 15 = .ok (.iload_n 2, 1) := by decide +kernel
theorem dX8_begin_16 : decode cX8_begin 16 = .ok (.iastore, 1) := by decide +kernel
theorem dX8_begin_17 : decode cX8_begin 17 = .ok (.return_, 1) := by decide +kernel
def f_X8_begin (S : SH) (a0 : Nat) (a1 : Int32) (a2 : Int32) (μ : Mem) : Option (Unit × Mem) :=
  if isO S 8 a0 = true then
  (gR S 8 a0 0).bind fun v1 =>
  (aR S (.array .long) v1 a1).bind fun v2 =>
  (f_J7_fill_d0a16 S v2 0 μ).bind fun q3 =>
  (gR S 8 a0 1).bind fun v4 =>
  (sI S v4 a1 a2 q3.2).bind fun ν5 =>
  some ((), ν5)
  else none
set_option maxRecDepth 100000 in
set_option maxHeartbeats 4000000 in
theorem c_X8_begin {l : Launch} {γ : GE} {S : SH} {a0 : Nat} {a1 : Int32} {a2 : Int32} {μ : Mem} {X : (Unit × Mem)} (h : f_X8_begin S a0 a1 a2 μ = some X) : isO S 8 a0 = true ∧ Ct l γ yX8_begin cX8_begin 3 (none) rm_X8_begin [.ref (gb γ + a0), .int a1, .int a2] S μ S X.2 none := by
  unfold f_X8_begin at h
  obtain ⟨h0, h⟩ := if_some h
  refine ⟨h0, ?_⟩
  have hJ : ∀ (p : Program) (e : Env) (s : State) (m : MethodId) (args : Array Value) (below : List Frame) (meth : Method) (c : Code), FX γ p s m args meth c cX8_begin RX8 3 → meth.sig.returnType = (none) → JJ γ p l e rm_X8_begin s m args below meth c 3 0 0 (QV below γ S X args s 0 0) S μ 0 [(0, .ref (gb γ + a0)), (1, .int a1), (2, .int a2)] [] := by
    intro p e s m args below meth c F hr
    refine j_aload_n F 0 dX8_begin_0 rfl ?_
    refine j_gR F fl_RX8_11 rfl dX8_begin_1 h (fun v1 h => ?_)
    refine j_iload_n F 1 dX8_begin_4 rfl ?_
    refine j_aald F 5 rfl rfl rfl dX8_begin_5 h (fun v2 h => ?_)
    refine j_lconst F 0 dX8_begin_6 (by decide) ?_
    refine j_cSV F mi_J7_fill_d0a16 w_940 (rest := []) h (fun _ g => c_J7_fill_d0a16 g) rfl rfl (Nat.le_of_ble_eq_true rfl) ⟨Nat.le_of_ble_eq_true rfl, Nat.le_of_ble_eq_true rfl⟩ ⟨Nat.le_of_ble_eq_true rfl, Nat.le_of_ble_eq_true rfl⟩ dX8_begin_7 (fun q3 h => ?_)
    refine j_aload_n F 0 dX8_begin_10 rfl ?_
    refine j_gR F fl_RX8_16 rfl dX8_begin_11 h (fun v4 h => ?_)
    refine j_iload_n F 1 dX8_begin_14 rfl ?_
    refine j_iload_n F 2 dX8_begin_15 rfl ?_
    refine j_iast F dX8_begin_16 h (fun ν5 h => ?_)
    exact j_vret F hr dX8_begin_17 h
  exact ct_of (by decide +kernel) (Nat.le_of_ble_eq_true rfl) (fun p e s m args below meth c F hr _ => hJ p e s m args below meth c F hr)
def rm_X9_append : Room := { frames := 0, cells := 0, slots := 0, locals := 0 }
theorem dX9_append_0 : decode cX9_append 0 = .ok (.aload_n 0, 1) := by decide +kernel
theorem dX9_append_1 : decode cX9_append 1 = .ok (.getfield 9, 3) := by decide +kernel
theorem dX9_append_4 : decode cX9_append 4 = .ok (.aload_n 0, 1) := by decide +kernel
theorem dX9_append_5 : decode cX9_append 5 = .ok (.getfield 15, 3) := by decide +kernel
theorem dX9_append_8 : decode cX9_append 8 = .ok (.iload_n 1, 1) := by decide +kernel
theorem dX9_append_9 : decode cX9_append 9 = .ok (.i2b, 1) := by decide +kernel
theorem dX9_append_10 : decode cX9_append 10 = .ok (.bastore, 1) := by decide +kernel
theorem dX9_append_11 : decode cX9_append 11 = .ok (.aload_n 0, 1) := by decide +kernel
theorem dX9_append_12 : decode cX9_append 12 = .ok (.dup, 1) := by decide +kernel
theorem dX9_append_13 : decode cX9_append 13 = .ok (.getfield 15, 3) := by decide +kernel
theorem dX9_append_16 : decode cX9_append 16 = .ok (.iconst 1, 1) := by decide +kernel
theorem dX9_append_17 : decode cX9_append 17 = .ok (.iadd, 1) := by decide +kernel
theorem dX9_append_18 : decode cX9_append 18 = .ok (.putfield 15, 3) := by decide +kernel
theorem dX9_append_21 : decode cX9_append 21 = .ok (.aload_n 0, 1) := by decide +kernel
theorem dX9_append_22 : decode cX9_append 22 = .ok (.getfield 15, 3) := by decide +kernel
theorem dX9_append_25 : decode cX9_append 25 = .ok (.ireturn, 1) := by decide +kernel
def f_X9_append (S : SH) (a0 : Nat) (a1 : Int32) (μ : Mem) : Option (Int32 × Mem) :=
  if isO S 9 a0 = true then
  (gR S 9 a0 0).bind fun v1 =>
  (gI S 9 a0 1 μ).bind fun v2 =>
  (sB S v1 v2 a1.toInt8.toInt32 μ).bind fun ν3 =>
  (gI S 9 a0 1 ν3).bind fun v4 =>
  (pI S 9 a0 1 (v4 + 1) ν3).bind fun ν5 =>
  (gI S 9 a0 1 ν5).bind fun v6 =>
  some (v6, ν5)
  else none
set_option maxRecDepth 100000 in
set_option maxHeartbeats 4000000 in
theorem c_X9_append {l : Launch} {γ : GE} {S : SH} {a0 : Nat} {a1 : Int32} {μ : Mem} {X : (Int32 × Mem)} (h : f_X9_append S a0 a1 μ = some X) : isO S 9 a0 = true ∧ Ct l γ yX9_append cX9_append 2 (some .int) rm_X9_append [.ref (gb γ + a0), .int a1] S μ S X.2 (some (.int X.1)) := by
  unfold f_X9_append at h
  obtain ⟨h0, h⟩ := if_some h
  refine ⟨h0, ?_⟩
  have hJ : ∀ (p : Program) (e : Env) (s : State) (m : MethodId) (args : Array Value) (below : List Frame) (meth : Method) (c : Code), FX γ p s m args meth c cX9_append RX9 2 → meth.sig.returnType = (some .int) → JJ γ p l e rm_X9_append s m args below meth c 2 0 0 (QI below γ S X args s 0 0) S μ 0 [(0, .ref (gb γ + a0)), (1, .int a1)] [] := by
    intro p e s m args below meth c F hr
    refine j_aload_n F 0 dX9_append_0 rfl ?_
    refine j_gR F fl_RX9_9 rfl dX9_append_1 h (fun v1 h => ?_)
    refine j_aload_n F 0 dX9_append_4 rfl ?_
    refine j_gI F fl_RX9_15.l rfl dX9_append_5 h (fun v2 h => ?_)
    refine j_iload_n F 1 dX9_append_8 rfl ?_
    refine j_i2b F dX9_append_9 ?_
    refine j_bast F dX9_append_10 h (fun ν3 h => ?_)
    refine j_aload_n F 0 dX9_append_11 rfl ?_
    refine j_dup F dX9_append_12 rfl ?_
    refine j_gI F fl_RX9_15.l rfl dX9_append_13 h (fun v4 h => ?_)
    refine j_iconst F 1 dX9_append_16 (by decide) ?_
    refine j_iadd F dX9_append_17 ?_
    refine j_pI F fl_RX9_15 rfl dX9_append_18 h (fun ν5 h => ?_)
    refine j_aload_n F 0 dX9_append_21 rfl ?_
    refine j_gI F fl_RX9_15.l rfl dX9_append_22 h (fun v6 h => ?_)
    exact j_iret F hr dX9_append_25 h
  exact ct_of (by decide +kernel) (Nat.le_of_ble_eq_true rfl) (fun p e s m args below meth c F hr _ => hJ p e s m args below meth c F hr)
def rm_X9_spells : Room := { frames := 4, cells := 0, slots := 0, locals := 140 }
theorem dX9_spells_0 : decode cX9_spells 0 = .ok (.aload_n 0, 1) := by decide +kernel
theorem dX9_spells_1 : decode cX9_spells 1 = .ok (.getfield 22, 3) := by decide +kernel
theorem dX9_spells_4 : decode cX9_spells 4 = .ok (.iload_n 1, 1) := by decide +kernel
theorem dX9_spells_5 : decode cX9_spells 5 = .ok (.isub, 1) := by decide +kernel
theorem dX9_spells_6 : decode cX9_spells 6 = .ok (.aload_n 2, 1) := by decide +kernel
theorem dX9_spells_7 : decode cX9_spells 7 = .ok (.invokevirtual 65, 3) := by decide +kernel
theorem dX9_spells_10 : decode cX9_spells 10 = .ok (.if_icmp .eq 5, 3) := by decide +kernel
theorem dX9_spells_13 : decode cX9_spells 13 = .ok (.iconst 0, 1) := by decide +kernel
theorem dX9_spells_14 : decode cX9_spells 14 = .ok (.ireturn, 1) := by decide +kernel
theorem dX9_spells_15 : decode cX9_spells 15 = .ok (.iconst 0, 1) := by decide +kernel
theorem dX9_spells_16 : decode cX9_spells 16 = .ok (.istore_n 3, 1) := by decide +kernel
theorem dX9_spells_17 : decode cX9_spells 17 = .ok (.iload_n 3, 1) := by decide +kernel
theorem dX9_spells_18 : decode cX9_spells 18 = .ok (.aload_n 2, 1) := by decide +kernel
theorem dX9_spells_19 : decode cX9_spells 19 = .ok (.invokevirtual 65, 3) := by decide +kernel
theorem dX9_spells_22 : decode cX9_spells 22 = .ok (.if_icmp .ge 27, 3) := by decide +kernel
theorem dX9_spells_25 : decode cX9_spells 25 = .ok (.aload_n 0, 1) := by decide +kernel
theorem dX9_spells_26 : decode cX9_spells 26 = .ok (.getfield 9, 3) := by decide +kernel
theorem dX9_spells_29 : decode cX9_spells 29 = .ok (.iload_n 1, 1) := by decide +kernel
theorem dX9_spells_30 : decode cX9_spells 30 = .ok (.iload_n 3, 1) := by decide +kernel
theorem dX9_spells_31 : decode cX9_spells 31 = .ok (.iadd, 1) := by decide +kernel
theorem dX9_spells_32 : decode cX9_spells 32 = .ok (.baload, 1) := by decide +kernel
theorem dX9_spells_33 : decode cX9_spells 33 = .ok (.aload_n 2, 1) := by decide +kernel
theorem dX9_spells_34 : decode cX9_spells 34 = .ok (.iload_n 3, 1) := by decide +kernel
theorem dX9_spells_35 : decode cX9_spells 35 = .ok (.invokevirtual 71, 3) := by decide +kernel
theorem dX9_spells_38 : decode cX9_spells 38 = .ok (.if_icmp .eq 5, 3) := by decide +kernel
theorem dX9_spells_41 : decode cX9_spells 41 = .ok (.iconst 0, 1) := by decide +kernel
theorem dX9_spells_42 : decode cX9_spells 42 = .ok (.ireturn, 1) := by decide +kernel
theorem dX9_spells_43 : decode cX9_spells 43 = .ok (.iinc 3 1, 3) := by decide +kernel
theorem dX9_spells_46 : decode cX9_spells 46 = .ok (.goto (-29), 3) := by decide +kernel
theorem dX9_spells_49 : decode cX9_spells 49 = .ok (.iconst 1, 1) := by decide +kernel
theorem dX9_spells_50 : decode cX9_spells 50 = .ok (.ireturn, 1) := by decide +kernel
def l_X9_spells_17 (S : SH) (a0 : Nat) (a1 : Int32) (a2 : Nat) (k17 : (Int32 × Mem) → Option (Int32 × Mem)) (x : (Int32 × Mem)) : Option (Int32 × Mem) :=
 (tLen a2).bind fun v3 =>
 (if v3 ≤ x.1 then
 some (1, x.2)
 else
 (gR S 9 a0 0).bind fun v4 =>
 (aI S .byte v4 (a1 + x.1) x.2).bind fun v5 =>
 (tAt a2 x.1).bind fun v6 =>
 (if v5 = v6 then
 k17 (x.1 + 1, x.2)
 else
 some (0, x.2)))
set_option maxRecDepth 100000 in
set_option maxHeartbeats 4000000 in
theorem t_X9_spells_17 {γ : GE} {p : Program} {l : Launch} {e : Env} {s : State} {m : MethodId} {args : Array Value} {below : List Frame} {meth : Method} {c : Code} {S : SH} {X : (Int32 × Mem)} (F : FX γ p s m args meth c cX9_spells RX9 4) (hr : meth.sig.returnType = (some .boolean)) (a0 : Nat) (a1 : Int32) (a2 : Nat) (k17 : (Int32 × Mem) → Option (Int32 × Mem)) (hk17 : ∀ (x17_3 : Int32) (ν : Mem), k17 (x17_3, ν) = some X → JJ γ p l e rm_X9_spells s m args below meth c 4 0 0 (QI below γ S X args s 0 0) S ν 17 [(0, .ref (gb γ + a0)), (1, .int a1), (2, .ref (gK γ a2)), (3, .int x17_3)] []) (x : (Int32 × Mem)) (h : l_X9_spells_17 S a0 a1 a2 k17 x = some X) : JJ γ p l e rm_X9_spells s m args below meth c 4 0 0 (QI below γ S X args s 0 0) S x.2 17 [(0, .ref (gb γ + a0)), (1, .int a1), (2, .ref (gK γ a2)), (3, .int x.1)] [] := by
  unfold l_X9_spells_17 at h
  refine j_iload_n F 3 dX9_spells_17 rfl ?_
  refine j_aload_n F 2 dX9_spells_18 rfl ?_
  refine j_slen F w_758 (rest := [.int x.1]) (Nat.le_of_ble_eq_true rfl) ⟨Nat.le_of_ble_eq_true rfl, Nat.le_of_ble_eq_true rfl⟩ ⟨Nat.le_of_ble_eq_true rfl, Nat.le_of_ble_eq_true rfl⟩ dX9_spells_19 h (fun v3 h => ?_)
  refine j_icmpge F 49 dX9_spells_22 (by decide) h (fun _ h => ?_) (fun _ h => ?_)
  · refine j_iconst F 1 dX9_spells_49 (by decide) ?_
    exact j_zret F hr (Or.inr rfl) dX9_spells_50 h
  · refine j_aload_n F 0 dX9_spells_25 rfl ?_
    refine j_gR F fl_RX9_9 rfl dX9_spells_26 h (fun v4 h => ?_)
    refine j_iload_n F 1 dX9_spells_29 rfl ?_
    refine j_iload_n F 3 dX9_spells_30 rfl ?_
    refine j_iadd F dX9_spells_31 ?_
    refine j_bald F dX9_spells_32 h (fun v5 h => ?_)
    refine j_aload_n F 2 dX9_spells_33 rfl ?_
    refine j_iload_n F 3 dX9_spells_34 rfl ?_
    refine j_sat F w_768 (rest := [.int v5]) (Nat.le_of_ble_eq_true rfl) ⟨Nat.le_of_ble_eq_true rfl, Nat.le_of_ble_eq_true rfl⟩ ⟨Nat.le_of_ble_eq_true rfl, Nat.le_of_ble_eq_true rfl⟩ dX9_spells_35 h (fun v6 h => ?_)
    refine j_icmpeq F 43 dX9_spells_38 (by decide) h (fun _ h => ?_) (fun _ h => ?_)
    · refine j_iinc F 1 3 [(3, .int (x.1 + 1)), (0, .ref (gb γ + a0)), (1, .int a1), (2, .ref (gK γ a2))] dX9_spells_43 rfl (by decide) (by decide) rfl ?_
      refine j_goto F 17 dX9_spells_46 (by decide) ?_
      refine j_lv [(0, .ref (gb γ + a0)), (1, .int a1), (2, .ref (gK γ a2)), (3, .int (x.1 + 1))] [1, 2, 3, 0] rfl ?_
      exact hk17 _ _ h
    · refine j_iconst F 0 dX9_spells_41 (by decide) ?_
      exact j_zret F hr (Or.inl rfl) dX9_spells_42 h
theorem s_X9_spells_17 {γ : GE} {p : Program} {l : Launch} {e : Env} {s : State} {m : MethodId} {args : Array Value} {below : List Frame} {meth : Method} {c : Code} {S : SH} {X : (Int32 × Mem)} (F : FX γ p s m args meth c cX9_spells RX9 4) (hr : meth.sig.returnType = (some .boolean)) (a0 : Nat) (a1 : Int32) (a2 : Nat) (x17_3 : Int32) (ν : Mem) (h : lpN (l_X9_spells_17 S a0 a1 a2) fu (x17_3, ν) = some X) : JJ γ p l e rm_X9_spells s m args below meth c 4 0 0 (QI below γ S X args s 0 0) S ν 17 [(0, .ref (gb γ + a0)), (1, .int a1), (2, .ref (gK γ a2)), (3, .int x17_3)] [] :=
 lpN_sound (fun x => JJ γ p l e rm_X9_spells s m args below meth c 4 0 0 (QI below γ S X args s 0 0) S x.2 17 [(0, .ref (gb γ + a0)), (1, .int a1), (2, .ref (gK γ a2)), (3, .int x.1)] []) (fun k17 hk17 x h => t_X9_spells_17 F hr a0 a1 a2 k17 (fun x17_3 ν h => hk17 (x17_3, ν) h) x h) fu (x17_3, ν) h
def f_X9_spells (S : SH) (a0 : Nat) (a1 : Int32) (a2 : Nat) (μ : Mem) : Option (Int32 × Mem) :=
  if isO S 9 a0 = true then
  (gI S 9 a0 2 μ).bind fun v1 =>
  (tLen a2).bind fun v2 =>
  (if (v1 - a1) = v2 then
  lpN (l_X9_spells_17 S  a0 a1 a2) fu (0, μ)
  else
  some (0, μ))
  else none
set_option maxRecDepth 100000 in
set_option maxHeartbeats 4000000 in
theorem c_X9_spells {l : Launch} {γ : GE} {S : SH} {a0 : Nat} {a1 : Int32} {a2 : Nat} {μ : Mem} {X : (Int32 × Mem)} (h : f_X9_spells S a0 a1 a2 μ = some X) : isO S 9 a0 = true ∧ Ct l γ yX9_spells cX9_spells 4 (some .boolean) rm_X9_spells [.ref (gb γ + a0), .int a1, .ref (gK γ a2)] S μ S X.2 (some (.int X.1)) := by
  unfold f_X9_spells at h
  obtain ⟨h0, h⟩ := if_some h
  refine ⟨h0, ?_⟩
  have hJ : ∀ (p : Program) (e : Env) (s : State) (m : MethodId) (args : Array Value) (below : List Frame) (meth : Method) (c : Code), FX γ p s m args meth c cX9_spells RX9 4 → meth.sig.returnType = (some .boolean) → JJ γ p l e rm_X9_spells s m args below meth c 4 0 0 (QI below γ S X args s 0 0) S μ 0 [(0, .ref (gb γ + a0)), (1, .int a1), (2, .ref (gK γ a2))] [] := by
    intro p e s m args below meth c F hr
    refine j_aload_n F 0 dX9_spells_0 rfl ?_
    refine j_gI F fl_RX9_22.l rfl dX9_spells_1 h (fun v1 h => ?_)
    refine j_iload_n F 1 dX9_spells_4 rfl ?_
    refine j_isub F dX9_spells_5 ?_
    refine j_aload_n F 2 dX9_spells_6 rfl ?_
    refine j_slen F w_758 (rest := [.int (v1 - a1)]) (Nat.le_of_ble_eq_true rfl) ⟨Nat.le_of_ble_eq_true rfl, Nat.le_of_ble_eq_true rfl⟩ ⟨Nat.le_of_ble_eq_true rfl, Nat.le_of_ble_eq_true rfl⟩ dX9_spells_7 h (fun v2 h => ?_)
    refine j_icmpeq F 15 dX9_spells_10 (by decide) h (fun _ h => ?_) (fun _ h => ?_)
    · refine j_iconst F 0 dX9_spells_15 (by decide) ?_
      refine j_istore_n F [(3, .int 0), (0, .ref (gb γ + a0)), (1, .int a1), (2, .ref (gK γ a2))] dX9_spells_16 rfl (by decide) rfl ?_
      refine j_lv [(0, .ref (gb γ + a0)), (1, .int a1), (2, .ref (gK γ a2)), (3, .int 0)] [1, 2, 3, 0] rfl ?_
      exact s_X9_spells_17 F hr _ _ _ _ _ h
    · refine j_iconst F 0 dX9_spells_13 (by decide) ?_
      exact j_zret F hr (Or.inl rfl) dX9_spells_14 h
  exact ct_of (by decide +kernel) (Nat.le_of_ble_eq_true rfl) (fun p e s m args below meth c F hr _ => hJ p e s m args below meth c F hr)
def rm_X9_dialOfWord : Room := { frames := 5, cells := 0, slots := 0, locals := 163 }
theorem dX9_dialOfWord_0 : decode cX9_dialOfWord 0 = .ok (.aload_n 0, 1) := by decide +kernel
theorem dX9_dialOfWord_1 : decode cX9_dialOfWord 1 = .ok (.iload_n 1, 1) := by decide +kernel
theorem dX9_dialOfWord_2 : decode cX9_dialOfWord 2 = .ok (.ldc 57, 2) := by decide +kernel
theorem dX9_dialOfWord_4 : decode cX9_dialOfWord 4 = .ok (.invokevirtual 31, 3) := by decide +kernel
theorem dX9_dialOfWord_7 : decode cX9_dialOfWord 7 = .ok (.ifCond .eq 5, 3) := by decide +kernel
theorem dX9_dialOfWord_10 : decode cX9_dialOfWord 10 = .ok (.iconst 3, 1) := by decide +kernel
theorem dX9_dialOfWord_11 : decode cX9_dialOfWord 11 = .ok (.ireturn, 1) := by decide +kernel
theorem dX9_dialOfWord_12 : decode cX9_dialOfWord 12 = .ok (.aload_n 0, 1) := by decide +kernel
theorem dX9_dialOfWord_13 : decode cX9_dialOfWord 13 = .ok (.iload_n 1, 1) := by decide +kernel
theorem dX9_dialOfWord_14 : decode cX9_dialOfWord 14 = .ok (.ldc 59, 2) := by decide +kernel
theorem dX9_dialOfWord_16 : decode cX9_dialOfWord 16 = .ok (.invokevirtual 31, 3) := by decide +kernel
theorem dX9_dialOfWord_19 : decode cX9_dialOfWord 19 = .ok (.ifCond .eq 5, 3) := by decide +kernel
theorem dX9_dialOfWord_22 : decode cX9_dialOfWord 22 = .ok (.iconst 0, 1) := by decide +kernel
theorem dX9_dialOfWord_23 : decode cX9_dialOfWord 23 = .ok (.ireturn, 1) := by decide +kernel
theorem dX9_dialOfWord_24 : decode cX9_dialOfWord 24 = .ok (.aload_n 0, 1) := by decide +kernel
theorem dX9_dialOfWord_25 : decode cX9_dialOfWord 25 = .ok (.iload_n 1, 1) := by decide +kernel
theorem dX9_dialOfWord_26 : decode cX9_dialOfWord 26 = .ok (.ldc 61, 2) := by decide +kernel
theorem dX9_dialOfWord_28 : decode cX9_dialOfWord 28 = .ok (.invokevirtual 31, 3) := by decide +kernel
theorem dX9_dialOfWord_31 : decode cX9_dialOfWord 31 = .ok (.ifCond .eq 5, 3) := by decide +kernel
theorem dX9_dialOfWord_34 : decode cX9_dialOfWord 34 = .ok (.iconst 1, 1) := by decide +kernel
theorem dX9_dialOfWord_35 : decode cX9_dialOfWord 35 = .ok (.ireturn, 1) := by decide +kernel
theorem dX9_dialOfWord_36 : decode cX9_dialOfWord 36 = .ok (.aload_n 0, 1) := by decide +kernel
theorem dX9_dialOfWord_37 : decode cX9_dialOfWord 37 = .ok (.iload_n 1, 1) := by decide +kernel
theorem dX9_dialOfWord_38 : decode cX9_dialOfWord 38 = .ok (.ldc 63, 2) := by decide +kernel
theorem dX9_dialOfWord_40 : decode cX9_dialOfWord 40 = .ok (.invokevirtual 31, 3) := by decide +kernel
theorem dX9_dialOfWord_43 : decode cX9_dialOfWord 43 = .ok (.ifCond .eq 8, 3) := by decide +kernel
theorem dX9_dialOfWord_46 : decode cX9_dialOfWord 46 = .ok (.bipush 6, 2) := by decide +kernel
theorem dX9_dialOfWord_48 : decode cX9_dialOfWord 48 = .ok (.goto 4, 3) := by decide +kernel
theorem dX9_dialOfWord_51 : decode cX9_dialOfWord 51 = .ok (.iconst (-1), 1) := by decide +kernel
theorem dX9_dialOfWord_52 : decode cX9_dialOfWord 52 = .ok (.ireturn, 1) := by decide +kernel
def f_X9_dialOfWord (S : SH) (a0 : Nat) (a1 : Int32) (μ : Mem) : Option (Int32 × Mem) :=
  if isO S 9 a0 = true then
  (f_X9_spells S a0 a1 1 μ).bind fun q1 =>
  (if q1.1 = 0 then
  (f_X9_spells S a0 a1 2 q1.2).bind fun q2 =>
  (if q2.1 = 0 then
  (f_X9_spells S a0 a1 3 q2.2).bind fun q3 =>
  (if q3.1 = 0 then
  (f_X9_spells S a0 a1 4 q3.2).bind fun q4 =>
  (if q4.1 = 0 then
  some ((-1), q4.2)
  else
  some (6, q4.2))
  else
  some (1, q3.2))
  else
  some (0, q2.2))
  else
  some (3, q1.2))
  else none
set_option maxRecDepth 100000 in
set_option maxHeartbeats 4000000 in
theorem c_X9_dialOfWord {l : Launch} {γ : GE} {S : SH} {a0 : Nat} {a1 : Int32} {μ : Mem} {X : (Int32 × Mem)} (h : f_X9_dialOfWord S a0 a1 μ = some X) : isO S 9 a0 = true ∧ Ct l γ yX9_dialOfWord cX9_dialOfWord 2 (some .int) rm_X9_dialOfWord [.ref (gb γ + a0), .int a1] S μ S X.2 (some (.int X.1)) := by
  unfold f_X9_dialOfWord at h
  obtain ⟨h0, h⟩ := if_some h
  refine ⟨h0, ?_⟩
  have hJ : ∀ (p : Program) (e : Env) (s : State) (m : MethodId) (args : Array Value) (below : List Frame) (meth : Method) (c : Code), FX γ p s m args meth c cX9_dialOfWord RX9 2 → meth.sig.returnType = (some .int) → JJ γ p l e rm_X9_dialOfWord s m args below meth c 2 0 0 (QI below γ S X args s 0 0) S μ 0 [(0, .ref (gb γ + a0)), (1, .int a1)] [] := by
    intro p e s m args below meth c F hr
    refine j_aload_n F 0 dX9_dialOfWord_0 rfl ?_
    refine j_iload_n F 1 dX9_dialOfWord_1 rfl ?_
    refine j_ldcS F 1 (by decide) rfl rfl dX9_dialOfWord_2 ?_
    refine j_cVI F mi_X9_spells w_754 (rest := []) h (fun _ g => c_X9_spells g) rfl rfl (Nat.le_of_ble_eq_true rfl) ⟨Nat.le_of_ble_eq_true rfl, Nat.le_of_ble_eq_true rfl⟩ ⟨Nat.le_of_ble_eq_true rfl, Nat.le_of_ble_eq_true rfl⟩ dX9_dialOfWord_4 (fun q1 h => ?_)
    refine j_ifeq F 12 dX9_dialOfWord_7 (by decide) h (fun _ h => ?_) (fun _ h => ?_)
    · refine j_aload_n F 0 dX9_dialOfWord_12 rfl ?_
      refine j_iload_n F 1 dX9_dialOfWord_13 rfl ?_
      refine j_ldcS F 2 (by decide) rfl rfl dX9_dialOfWord_14 ?_
      refine j_cVI F mi_X9_spells w_754 (rest := []) h (fun _ g => c_X9_spells g) rfl rfl (Nat.le_of_ble_eq_true rfl) ⟨Nat.le_of_ble_eq_true rfl, Nat.le_of_ble_eq_true rfl⟩ ⟨Nat.le_of_ble_eq_true rfl, Nat.le_of_ble_eq_true rfl⟩ dX9_dialOfWord_16 (fun q2 h => ?_)
      refine j_ifeq F 24 dX9_dialOfWord_19 (by decide) h (fun _ h => ?_) (fun _ h => ?_)
      · refine j_aload_n F 0 dX9_dialOfWord_24 rfl ?_
        refine j_iload_n F 1 dX9_dialOfWord_25 rfl ?_
        refine j_ldcS F 3 (by decide) rfl rfl dX9_dialOfWord_26 ?_
        refine j_cVI F mi_X9_spells w_754 (rest := []) h (fun _ g => c_X9_spells g) rfl rfl (Nat.le_of_ble_eq_true rfl) ⟨Nat.le_of_ble_eq_true rfl, Nat.le_of_ble_eq_true rfl⟩ ⟨Nat.le_of_ble_eq_true rfl, Nat.le_of_ble_eq_true rfl⟩ dX9_dialOfWord_28 (fun q3 h => ?_)
        refine j_ifeq F 36 dX9_dialOfWord_31 (by decide) h (fun _ h => ?_) (fun _ h => ?_)
        · refine j_aload_n F 0 dX9_dialOfWord_36 rfl ?_
          refine j_iload_n F 1 dX9_dialOfWord_37 rfl ?_
          refine j_ldcS F 4 (by decide) rfl rfl dX9_dialOfWord_38 ?_
          refine j_cVI F mi_X9_spells w_754 (rest := []) h (fun _ g => c_X9_spells g) rfl rfl (Nat.le_of_ble_eq_true rfl) ⟨Nat.le_of_ble_eq_true rfl, Nat.le_of_ble_eq_true rfl⟩ ⟨Nat.le_of_ble_eq_true rfl, Nat.le_of_ble_eq_true rfl⟩ dX9_dialOfWord_40 (fun q4 h => ?_)
          refine j_ifeq F 51 dX9_dialOfWord_43 (by decide) h (fun _ h => ?_) (fun _ h => ?_)
          · refine j_iconst F (-1) dX9_dialOfWord_51 (by decide) ?_
            exact j_iret F hr dX9_dialOfWord_52 h
          · refine j_bipush F 6 dX9_dialOfWord_46 (by decide) ?_
            refine j_goto F 52 dX9_dialOfWord_48 (by decide) ?_
            exact j_iret F hr dX9_dialOfWord_52 h
        · refine j_iconst F 1 dX9_dialOfWord_34 (by decide) ?_
          exact j_iret F hr dX9_dialOfWord_35 h
      · refine j_iconst F 0 dX9_dialOfWord_22 (by decide) ?_
        exact j_iret F hr dX9_dialOfWord_23 h
    · refine j_iconst F 3 dX9_dialOfWord_10 (by decide) ?_
      exact j_iret F hr dX9_dialOfWord_11 h
  exact ct_of (by decide +kernel) (Nat.le_of_ble_eq_true rfl) (fun p e s m args below meth c F hr _ => hJ p e s m args below meth c F hr)
def rm_X11_within : Room := { frames := 0, cells := 0, slots := 0, locals := 0 }
theorem dX11_within_0 : decode cX11_within 0 = .ok (.iload_n 0, 1) := by decide +kernel
theorem dX11_within_1 : decode cX11_within 1 = .ok (.iload_n 1, 1) := by decide +kernel
theorem dX11_within_2 : decode cX11_within 2 = .ok (.if_icmp .lt 12, 3) := by decide +kernel
theorem dX11_within_5 : decode cX11_within 5 = .ok (.iload_n 0, 1) := by decide +kernel
theorem dX11_within_6 : decode cX11_within 6 = .ok (.iload_n 2, 1) := by decide +kernel
theorem dX11_within_7 : decode cX11_within 7 = .ok (.if_icmp .gt 7, 3) := by decide +kernel
theorem dX11_within_10 : decode cX11_within 10 = .ok (.iconst 1, 1) := by decide +kernel
theorem dX11_within_11 : decode cX11_within 11 = .ok (.goto 4, 3) := by decide +kernel
theorem dX11_within_14 : decode cX11_within 14 = .ok (.iconst 0, 1) := by decide +kernel
theorem dX11_within_15 : decode cX11_within 15 = .ok (.ireturn, 1) := by decide +kernel
def f_X11_within (S : SH) (a0 : Int32) (a1 : Int32) (a2 : Int32) (μ : Mem) : Option (Int32 × Mem) :=
  (if a0 < a1 then
  some (0, μ)
  else
  (if a2 < a0 then
  some (0, μ)
  else
  some (1, μ)))
set_option maxRecDepth 100000 in
set_option maxHeartbeats 4000000 in
theorem c_X11_within {l : Launch} {γ : GE} {S : SH} {a0 : Int32} {a1 : Int32} {a2 : Int32} {μ : Mem} {X : (Int32 × Mem)} (h : f_X11_within S a0 a1 a2 μ = some X) : Ct l γ yX11_within cX11_within 3 (some .boolean) rm_X11_within [.int a0, .int a1, .int a2] S μ S X.2 (some (.int X.1)) := by
  unfold f_X11_within at h
  have hJ : ∀ (p : Program) (e : Env) (s : State) (m : MethodId) (args : Array Value) (below : List Frame) (meth : Method) (c : Code), FX γ p s m args meth c cX11_within RX11 3 → meth.sig.returnType = (some .boolean) → JJ γ p l e rm_X11_within s m args below meth c 3 0 0 (QI below γ S X args s 0 0) S μ 0 [(0, .int a0), (1, .int a1), (2, .int a2)] [] := by
    intro p e s m args below meth c F hr
    refine j_iload_n F 0 dX11_within_0 rfl ?_
    refine j_iload_n F 1 dX11_within_1 rfl ?_
    refine j_icmplt F 14 dX11_within_2 (by decide) h (fun _ h => ?_) (fun _ h => ?_)
    · refine j_iconst F 0 dX11_within_14 (by decide) ?_
      exact j_zret F hr (Or.inl rfl) dX11_within_15 h
    · refine j_iload_n F 0 dX11_within_5 rfl ?_
      refine j_iload_n F 2 dX11_within_6 rfl ?_
      refine j_icmpgt F 14 dX11_within_7 (by decide) h (fun _ h => ?_) (fun _ h => ?_)
      · refine j_iconst F 0 dX11_within_14 (by decide) ?_
        exact j_zret F hr (Or.inl rfl) dX11_within_15 h
      · refine j_iconst F 1 dX11_within_10 (by decide) ?_
        refine j_goto F 15 dX11_within_11 (by decide) ?_
        exact j_zret F hr (Or.inr rfl) dX11_within_15 h
  exact ct_of (by decide +kernel) (Nat.le_of_ble_eq_true rfl) (fun p e s m args below meth c F hr _ => hJ p e s m args below meth c F hr)
def rm_X11_fitsDial : Room := { frames := 1, cells := 0, slots := 0, locals := 22 }
theorem dX11_fitsDial_0 : decode cX11_fitsDial 0 = .ok (.iload_n 1, 1) := by decide +kernel
theorem dX11_fitsDial_1 : decode cX11_fitsDial 1 = .ok (.getstatic 333, 3) := by decide +kernel
theorem dX11_fitsDial_4 : decode cX11_fitsDial 4 = .ok (.iload_n 0, 1) := by decide +kernel
theorem dX11_fitsDial_5 : decode cX11_fitsDial 5 = .ok (.iaload, 1) := by decide +kernel
theorem dX11_fitsDial_6 : decode cX11_fitsDial 6 = .ok (.getstatic 336, 3) := by decide +kernel
theorem dX11_fitsDial_9 : decode cX11_fitsDial 9 = .ok (.iload_n 0, 1) := by decide +kernel
theorem dX11_fitsDial_10 : decode cX11_fitsDial 10 = .ok (.iaload, 1) := by decide +kernel
theorem dX11_fitsDial_11 : decode cX11_fitsDial 11 = .ok (.invokestatic 84, 3) := by decide +kernel
theorem dX11_fitsDial_14 : decode cX11_fitsDial 14 = .ok (.ireturn, 1) := by decide +kernel
def f_X11_fitsDial (S : SH) (a0 : Int32) (a1 : Int32) (μ : Mem) : Option (Int32 × Mem) :=
  (aT 1 a0).bind fun v1 =>
  (aT 2 a0).bind fun v2 =>
  (f_X11_within S a1 v1 v2 μ).bind fun q3 =>
  (oz q3.1).bind fun z4 => some (z4, q3.2)
set_option maxRecDepth 100000 in
set_option maxHeartbeats 4000000 in
theorem c_X11_fitsDial {l : Launch} {γ : GE} {S : SH} {a0 : Int32} {a1 : Int32} {μ : Mem} {X : (Int32 × Mem)} (h : f_X11_fitsDial S a0 a1 μ = some X) : Ct l γ yX11_fitsDial cX11_fitsDial 2 (some .boolean) rm_X11_fitsDial [.int a0, .int a1] S μ S X.2 (some (.int X.1)) := by
  unfold f_X11_fitsDial at h
  have hJ : ∀ (p : Program) (e : Env) (s : State) (m : MethodId) (args : Array Value) (below : List Frame) (meth : Method) (c : Code), FX γ p s m args meth c cX11_fitsDial RX11 2 → meth.sig.returnType = (some .boolean) → JJ γ p l e rm_X11_fitsDial s m args below meth c 2 0 0 (QI below γ S X args s 0 0) S μ 0 [(0, .int a0), (1, .int a1)] [] := by
    intro p e s m args below meth c F hr
    refine j_iload_n F 1 dX11_fitsDial_0 rfl ?_
    refine j_gets F 1 (by decide) w_505 dX11_fitsDial_1 ?_
    refine j_iload_n F 0 dX11_fitsDial_4 rfl ?_
    refine j_tald F (by decide) dX11_fitsDial_5 h (fun v1 h => ?_)
    refine j_gets F 2 (by decide) w_507 dX11_fitsDial_6 ?_
    refine j_iload_n F 0 dX11_fitsDial_9 rfl ?_
    refine j_tald F (by decide) dX11_fitsDial_10 h (fun v2 h => ?_)
    refine j_cSI F mi_X11_within w_464 (rest := []) h (fun _ g => c_X11_within g) rfl rfl (Nat.le_of_ble_eq_true rfl) ⟨Nat.le_of_ble_eq_true rfl, Nat.le_of_ble_eq_true rfl⟩ ⟨Nat.le_of_ble_eq_true rfl, Nat.le_of_ble_eq_true rfl⟩ dX11_fitsDial_11 (fun q3 h => ?_)
    exact j_zretG F hr dX11_fitsDial_14 h
  exact ct_of (by decide +kernel) (Nat.le_of_ble_eq_true rfl) (fun p e s m args below meth c F hr _ => hJ p e s m args below meth c F hr)
