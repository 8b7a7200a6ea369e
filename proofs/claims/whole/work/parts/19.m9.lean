def rm_X12_in : Room := { frames := 0, cells := 0, slots := 0, locals := 0 }
theorem dX12_in_0 : decode cX12_in 0 = .ok (.iload_n 0, 1) := by decide +kernel
theorem dX12_in_1 : decode cX12_in 1 = .ok (.iload_n 1, 1) := by decide +kernel
theorem dX12_in_2 : decode cX12_in 2 = .ok (.if_icmp .lt 12, 3) := by decide +kernel
theorem dX12_in_5 : decode cX12_in 5 = .ok (.iload_n 0, 1) := by decide +kernel
theorem dX12_in_6 : decode cX12_in 6 = .ok (.iload_n 2, 1) := by decide +kernel
theorem dX12_in_7 : decode cX12_in 7 = .ok (.if_icmp .gt 7, 3) := by decide +kernel
theorem dX12_in_10 : decode cX12_in 10 = .ok (.iconst 1, 1) := by decide +kernel
theorem dX12_in_11 : decode cX12_in 11 = .ok (.goto 4, 3) := by decide +kernel
theorem dX12_in_14 : decode cX12_in 14 = .ok (.iconst 0, 1) := by decide +kernel
theorem dX12_in_15 : decode cX12_in 15 = .ok (.ireturn, 1) := by decide +kernel
def f_X12_in (S : SH) (a0 : Int32) (a1 : Int32) (a2 : Int32) (μ : Mem) : Option (Int32 × Mem) :=
  (if a0 < a1 then
  some (0, μ)
  else
  (if a2 < a0 then
  some (0, μ)
  else
  some (1, μ)))
set_option maxRecDepth 100000 in
set_option maxHeartbeats 4000000 in
theorem c_X12_in {l : Launch} {γ : GE} {S : SH} {a0 : Int32} {a1 : Int32} {a2 : Int32} {μ : Mem} {X : (Int32 × Mem)} (h : f_X12_in S a0 a1 a2 μ = some X) : Ct l γ yX12_in cX12_in 3 (some .boolean) rm_X12_in [.int a0, .int a1, .int a2] S μ S X.2 (some (.int X.1)) := by
  unfold f_X12_in at h
  have hJ : ∀ (p : Program) (e : Env) (s : State) (m : MethodId) (args : Array Value) (below : List Frame) (meth : Method) (c : Code), FX γ p s m args meth c cX12_in RX12 3 → meth.sig.returnType = (some .boolean) → JJ γ p l e rm_X12_in s m args below meth c 3 0 0 (QI below γ S X args s 0 0) S μ 0 [(0, .int a0), (1, .int a1), (2, .int a2)] [] := by
    intro p e s m args below meth c F hr
    refine j_iload_n F 0 dX12_in_0 rfl ?_
    refine j_iload_n F 1 dX12_in_1 rfl ?_
    refine j_icmplt F 14 dX12_in_2 (by decide) h (fun _ h => ?_) (fun _ h => ?_)
    · refine j_iconst F 0 dX12_in_14 (by decide) ?_
      exact j_zret F hr (Or.inl rfl) dX12_in_15 h
    · refine j_iload_n F 0 dX12_in_5 rfl ?_
      refine j_iload_n F 2 dX12_in_6 rfl ?_
      refine j_icmpgt F 14 dX12_in_7 (by decide) h (fun _ h => ?_) (fun _ h => ?_)
      · refine j_iconst F 0 dX12_in_14 (by decide) ?_
        exact j_zret F hr (Or.inl rfl) dX12_in_15 h
      · refine j_iconst F 1 dX12_in_10 (by decide) ?_
        refine j_goto F 15 dX12_in_11 (by decide) ?_
        exact j_zret F hr (Or.inr rfl) dX12_in_15 h
  exact ct_of (by decide +kernel) (Nat.le_of_ble_eq_true rfl) (fun p e s m args below meth c F hr _ => hJ p e s m args below meth c F hr)
def rm_X12_divisor : Room := { frames := 0, cells := 0, slots := 0, locals := 0 }
theorem dX12_divisor_0 : decode cX12_divisor 0 = .ok (.lload_n 0, 1) := by decide +kernel
theorem dX12_divisor_1 : decode cX12_divisor 1 = .ok (.lconst 0, 1) := by decide +kernel
theorem dX12_divisor_2 : decode cX12_divisor 2 = .ok (.lcmp, 1) := by decide +kernel
theorem dX12_divisor_3 : decode cX12_divisor 3 = .ok (.ifCond .ge 8, 3) := by decide +kernel
theorem dX12_divisor_6 : decode cX12_divisor 6 = .ok (.lload_n 0, 1) := by decide +kernel
theorem dX12_divisor_7 : decode cX12_divisor 7 = .ok (.lneg, 1) := by decide +kernel
theorem dX12_divisor_8 : decode cX12_divisor 8 = .ok (.goto 4, 3) := by decide +kernel
theorem dX12_divisor_11 : decode cX12_divisor 11 = .ok (.lload_n 0, 1) := by decide +kernel
theorem dX12_divisor_12 : decode cX12_divisor 12 = .ok (.lstore 4, 2) := by decide +kernel
theorem dX12_divisor_14 : decode cX12_divisor 14 = .ok (.lload_n 2, 1) := by decide +kernel
theorem dX12_divisor_15 : decode cX12_divisor 15 = .ok (.lstore 6, 2) := by decide +kernel
theorem dX12_divisor_17 : decode cX12_divisor 17 = .ok (.lload 6, 2) := by decide +kernel
theorem dX12_divisor_19 : decode cX12_divisor 19 = .ok (.lconst 0, 1) := by decide +kernel
theorem dX12_divisor_20 : decode cX12_divisor 20 = .ok (.lcmp, 1) := by decide +kernel
theorem dX12_divisor_21 : decode cX12_divisor 21 = .ok (.ifCond .eq 21, 3) := by decide +kernel
theorem dX12_divisor_24 : decode cX12_divisor 24 = .ok (.lload 4, 2) := by decide +kernel
theorem dX12_divisor_26 : decode cX12_divisor 26 = .ok (.lload 6, 2) := by decide +kernel
theorem dX12_divisor_28 : decode cX12_divisor 28 = .ok (.lrem, 1) := by decide +kernel
theorem dX12_divisor_29 : decode cX12_divisor 29 = .ok (.lstore 8, 2) := by decide +kernel
theorem dX12_divisor_31 : decode cX12_divisor 31 = .ok (.lload 6, 2) := by decide +kernel
theorem dX12_divisor_33 : decode cX12_divisor 33 = .ok (.lstore 4, 2) := by decide +kernel
theorem dX12_divisor_35 : decode cX12_divisor 35 = .ok (.lload 8, 2) := by decide +kernel
theorem dX12_divisor_37 : decode cX12_divisor 37 = .ok (.lstore 6, 2) := by decide +kernel
theorem dX12_divisor_39 : decode cX12_divisor 39 = .ok (.goto (-22), 3) := by decide +kernel
theorem dX12_divisor_42 : decode cX12_divisor 42 = .ok (.lload 4, 2) := by decide +kernel
theorem dX12_divisor_44 : decode cX12_divisor 44 = .ok (.lreturn, 1) := by decide +kernel
def l_X12_divisor_17 (S : SH) (k17 : (Int64 × Int64 × Mem) → Option (Int64 × Mem)) (x : (Int64 × Int64 × Mem)) : Option (Int64 × Mem) :=
 (if x.2.1 = 0 then
 some (x.1, x.2.2)
 else
 (o_lrem x.1 x.2.1).bind fun v1 =>
 k17 (x.2.1, v1, x.2.2))
set_option maxRecDepth 100000 in
set_option maxHeartbeats 4000000 in
theorem t_X12_divisor_17 {γ : GE} {p : Program} {l : Launch} {e : Env} {s : State} {m : MethodId} {args : Array Value} {below : List Frame} {meth : Method} {c : Code} {S : SH} {X : (Int64 × Mem)} (F : FX γ p s m args meth c cX12_divisor RX12 10) (hr : meth.sig.returnType = (some .long)) (k17 : (Int64 × Int64 × Mem) → Option (Int64 × Mem)) (hk17 : ∀ (x17_4 : Int64) (x17_6 : Int64) (ν : Mem), k17 (x17_4, x17_6, ν) = some X → JJ γ p l e rm_X12_divisor s m args below meth c 10 0 0 (QL below γ S X args s 0 0) S ν 17 [(4, .long x17_4), (6, .long x17_6)] []) (x : (Int64 × Int64 × Mem)) (h : l_X12_divisor_17 S k17 x = some X) : JJ γ p l e rm_X12_divisor s m args below meth c 10 0 0 (QL below γ S X args s 0 0) S x.2.2 17 [(4, .long x.1), (6, .long x.2.1)] [] := by
  unfold l_X12_divisor_17 at h
  refine j_lload F 1 dX12_divisor_17 rfl ?_
  refine j_lconst F 0 dX12_divisor_19 (by decide) ?_
  refine j_lcmpeq F 42 dX12_divisor_20 dX12_divisor_21 (by decide) h (fun _ h => ?_) (fun _ h => ?_)
  · refine j_lload F 0 dX12_divisor_42 rfl ?_
    exact j_lret F hr dX12_divisor_44 h
  · refine j_lload F 0 dX12_divisor_24 rfl ?_
    refine j_lload F 1 dX12_divisor_26 rfl ?_
    refine j_lrem F dX12_divisor_28 h (fun v1 h => ?_)
    refine j_lstore F [(8, .long v1), (4, .long x.1), (6, .long x.2.1)] dX12_divisor_29 (by decide) rfl ?_
    refine j_lload F 2 dX12_divisor_31 rfl ?_
    refine j_lstore F [(4, .long x.2.1), (8, .long v1), (6, .long x.2.1)] dX12_divisor_33 (by decide) rfl ?_
    refine j_lload F 1 dX12_divisor_35 rfl ?_
    refine j_lstore F [(6, .long v1), (4, .long x.2.1), (8, .long v1)] dX12_divisor_37 (by decide) rfl ?_
    refine j_goto F 17 dX12_divisor_39 (by decide) ?_
    refine j_lv [(4, .long x.2.1), (6, .long v1)] [1, 0] rfl ?_
    exact hk17 _ _ _ h
theorem s_X12_divisor_17 {γ : GE} {p : Program} {l : Launch} {e : Env} {s : State} {m : MethodId} {args : Array Value} {below : List Frame} {meth : Method} {c : Code} {S : SH} {X : (Int64 × Mem)} (F : FX γ p s m args meth c cX12_divisor RX12 10) (hr : meth.sig.returnType = (some .long)) (x17_4 : Int64) (x17_6 : Int64) (ν : Mem) (h : lpN (l_X12_divisor_17 S ) fu (x17_4, x17_6, ν) = some X) : JJ γ p l e rm_X12_divisor s m args below meth c 10 0 0 (QL below γ S X args s 0 0) S ν 17 [(4, .long x17_4), (6, .long x17_6)] [] :=
 lpN_sound (fun x => JJ γ p l e rm_X12_divisor s m args below meth c 10 0 0 (QL below γ S X args s 0 0) S x.2.2 17 [(4, .long x.1), (6, .long x.2.1)] []) (fun k17 hk17 x h => t_X12_divisor_17 F hr k17 (fun x17_4 x17_6 ν h => hk17 (x17_4, x17_6, ν) h) x h) fu (x17_4, x17_6, ν) h
def b_X12_divisor_12 (S : SH) (a2 : Int64) (t0 : Int64) (μ : Mem) : Option (Int64 × Mem) :=
 lpN (l_X12_divisor_17 S ) fu (t0, a2, μ)
set_option maxRecDepth 100000 in
set_option maxHeartbeats 4000000 in
theorem s_X12_divisor_12 {γ : GE} {p : Program} {l : Launch} {e : Env} {s : State} {m : MethodId} {args : Array Value} {below : List Frame} {meth : Method} {c : Code} {S : SH} {X : (Int64 × Mem)} (F : FX γ p s m args meth c cX12_divisor RX12 10) (hr : meth.sig.returnType = (some .long)) (a2 : Int64)   (t0 : Int64) (μ : Mem) (h : b_X12_divisor_12 S a2 t0 μ = some X) : JJ γ p l e rm_X12_divisor s m args below meth c 10 0 0 (QL below γ S X args s 0 0) S μ 12 [(2, .long a2)] [.long t0] := by
  unfold b_X12_divisor_12 at h
  refine j_lstore F [(4, .long t0), (2, .long a2)] dX12_divisor_12 (by decide) rfl ?_
  refine j_lload_n F 1 dX12_divisor_14 rfl ?_
  refine j_lstore F [(6, .long a2), (4, .long t0), (2, .long a2)] dX12_divisor_15 (by decide) rfl ?_
  refine j_lv [(4, .long t0), (6, .long a2)] [1, 0] rfl ?_
  exact s_X12_divisor_17 F hr _ _ _ h
def f_X12_divisor (S : SH) (a0 : Int64) (a2 : Int64) (μ : Mem) : Option (Int64 × Mem) :=
  (if 0 ≤ a0 then
  b_X12_divisor_12 S a2 a0 μ
  else
  b_X12_divisor_12 S a2 (-a0) μ)
set_option maxRecDepth 100000 in
set_option maxHeartbeats 4000000 in
theorem c_X12_divisor {l : Launch} {γ : GE} {S : SH} {a0 : Int64} {a2 : Int64} {μ : Mem} {X : (Int64 × Mem)} (h : f_X12_divisor S a0 a2 μ = some X) : Ct l γ yX12_divisor cX12_divisor 10 (some .long) rm_X12_divisor [.long a0, .long a2] S μ S X.2 (some (.long X.1)) := by
  unfold f_X12_divisor at h
  have hJ : ∀ (p : Program) (e : Env) (s : State) (m : MethodId) (args : Array Value) (below : List Frame) (meth : Method) (c : Code), FX γ p s m args meth c cX12_divisor RX12 10 → meth.sig.returnType = (some .long) → JJ γ p l e rm_X12_divisor s m args below meth c 10 0 0 (QL below γ S X args s 0 0) S μ 0 [(0, .long a0), (2, .long a2)] [] := by
    intro p e s m args below meth c F hr
    refine j_lload_n F 0 dX12_divisor_0 rfl ?_
    refine j_lconst F 0 dX12_divisor_1 (by decide) ?_
    refine j_lcmpge F 11 dX12_divisor_2 dX12_divisor_3 (by decide) h (fun _ h => ?_) (fun _ h => ?_)
    · refine j_lload_n F 0 dX12_divisor_11 rfl ?_
      refine j_lv [(2, .long a2)] [1] rfl ?_
      exact s_X12_divisor_12 F hr _ _ _ h
    · refine j_lload_n F 0 dX12_divisor_6 rfl ?_
      refine j_lneg F dX12_divisor_7 ?_
      refine j_goto F 12 dX12_divisor_8 (by decide) ?_
      refine j_lv [(2, .long a2)] [1] rfl ?_
      exact s_X12_divisor_12 F hr _ _ _ h
  exact ct_of (by decide +kernel) (Nat.le_of_ble_eq_true rfl) (fun p e s m args below meth c F hr _ => hJ p e s m args below meth c F hr)
def rm_X12_part : Room := { frames := 1, cells := 0, slots := 0, locals := 29 }
theorem dX12_part_0 : decode cX12_part 0 = .ok (.iload 4, 2) := by decide +kernel
theorem dX12_part_2 : decode cX12_part 2 = .ok (.ifCond .ne 7, 3) := by decide +kernel
theorem dX12_part_5 : decode cX12_part 5 = .ok (.lload_n 0, 1) := by decide +kernel
theorem dX12_part_6 : decode cX12_part 6 = .ok (.goto 4, 3) := by decide +kernel
theorem dX12_part_9 : decode cX12_part 9 = .ok (.lload_n 2, 1) := by decide +kernel
theorem dX12_part_10 : decode cX12_part 10 = .ok (.lload_n 0, 1) := by decide +kernel
theorem dX12_part_11 : decode cX12_part 11 = .ok (.lload_n 2, 1) := by decide +kernel
theorem dX12_part_12 : decode cX12_part 12 = .ok (.invokestatic 91, 3) := by decide +kernel
theorem dX12_part_15 : decode cX12_part 15 = .ok (.ldiv, 1) := by decide +kernel
theorem dX12_part_16 : decode cX12_part 16 = .ok (.lreturn, 1) := by decide +kernel
def f_X12_part (S : SH) (a0 : Int64) (a2 : Int64) (a4 : Int32) (μ : Mem) : Option (Int64 × Mem) :=
  (if a4 = 0 then
  (f_X12_divisor S a0 a2 μ).bind fun q3 =>
  (o_ldiv a0 q3.1).bind fun v4 =>
  some (v4, q3.2)
  else
  (f_X12_divisor S a0 a2 μ).bind fun q1 =>
  (o_ldiv a2 q1.1).bind fun v2 =>
  some (v2, q1.2))
set_option maxRecDepth 100000 in
set_option maxHeartbeats 4000000 in
theorem c_X12_part {l : Launch} {γ : GE} {S : SH} {a0 : Int64} {a2 : Int64} {a4 : Int32} {μ : Mem} {X : (Int64 × Mem)} (h : f_X12_part S a0 a2 a4 μ = some X) : Ct l γ yX12_part cX12_part 5 (some .long) rm_X12_part [.long a0, .long a2, .int a4] S μ S X.2 (some (.long X.1)) := by
  unfold f_X12_part at h
  have hJ : ∀ (p : Program) (e : Env) (s : State) (m : MethodId) (args : Array Value) (below : List Frame) (meth : Method) (c : Code), FX γ p s m args meth c cX12_part RX12 5 → meth.sig.returnType = (some .long) → JJ γ p l e rm_X12_part s m args below meth c 5 0 0 (QL below γ S X args s 0 0) S μ 0 [(0, .long a0), (2, .long a2), (4, .int a4)] [] := by
    intro p e s m args below meth c F hr
    refine j_iload F 2 dX12_part_0 rfl ?_
    refine j_ifne F 9 dX12_part_2 (by decide) h (fun _ h => ?_) (fun _ h => ?_)
    · refine j_lload_n F 1 dX12_part_9 rfl ?_
      refine j_lload_n F 0 dX12_part_10 rfl ?_
      refine j_lload_n F 1 dX12_part_11 rfl ?_
      refine j_cSJ F mi_X12_divisor w_1238 (rest := [.long a2]) h (fun _ g => c_X12_divisor g) rfl rfl (Nat.le_of_ble_eq_true rfl) ⟨Nat.le_of_ble_eq_true rfl, Nat.le_of_ble_eq_true rfl⟩ ⟨Nat.le_of_ble_eq_true rfl, Nat.le_of_ble_eq_true rfl⟩ dX12_part_12 (fun q1 h => ?_)
      refine j_ldiv F dX12_part_15 h (fun v2 h => ?_)
      exact j_lret F hr dX12_part_16 h
    · refine j_lload_n F 0 dX12_part_5 rfl ?_
      refine j_goto F 10 dX12_part_6 (by decide) ?_
      refine j_lload_n F 0 dX12_part_10 rfl ?_
      refine j_lload_n F 1 dX12_part_11 rfl ?_
      refine j_cSJ F mi_X12_divisor w_1238 (rest := [.long a0]) h (fun _ g => c_X12_divisor g) rfl rfl (Nat.le_of_ble_eq_true rfl) ⟨Nat.le_of_ble_eq_true rfl, Nat.le_of_ble_eq_true rfl⟩ ⟨Nat.le_of_ble_eq_true rfl, Nat.le_of_ble_eq_true rfl⟩ dX12_part_12 (fun q3 h => ?_)
      refine j_ldiv F dX12_part_15 h (fun v4 h => ?_)
      exact j_lret F hr dX12_part_16 h
  exact ct_of (by decide +kernel) (Nat.le_of_ble_eq_true rfl) (fun p e s m args below meth c F hr _ => hJ p e s m args below meth c F hr)
def rm_X12_isPart : Room := { frames := 1, cells := 0, slots := 0, locals := 22 }
theorem dX12_isPart_0 : decode cX12_isPart 0 = .ok (.iload_n 0, 1) := by decide +kernel
theorem dX12_isPart_1 : decode cX12_isPart 1 = .ok (.iconst 0, 1) := by decide +kernel
theorem dX12_isPart_2 : decode cX12_isPart 2 = .ok (.iconst 1, 1) := by decide +kernel
theorem dX12_isPart_3 : decode cX12_isPart 3 = .ok (.invokestatic 95, 3) := by decide +kernel
theorem dX12_isPart_6 : decode cX12_isPart 6 = .ok (.ireturn, 1) := by decide +kernel
def f_X12_isPart (S : SH) (a0 : Int32) (μ : Mem) : Option (Int32 × Mem) :=
  (f_X12_in S a0 0 1 μ).bind fun q1 =>
  (oz q1.1).bind fun z2 => some (z2, q1.2)
set_option maxRecDepth 100000 in
set_option maxHeartbeats 4000000 in
theorem c_X12_isPart {l : Launch} {γ : GE} {S : SH} {a0 : Int32} {μ : Mem} {X : (Int32 × Mem)} (h : f_X12_isPart S a0 μ = some X) : Ct l γ yX12_isPart cX12_isPart 1 (some .boolean) rm_X12_isPart [.int a0] S μ S X.2 (some (.int X.1)) := by
  unfold f_X12_isPart at h
  have hJ : ∀ (p : Program) (e : Env) (s : State) (m : MethodId) (args : Array Value) (below : List Frame) (meth : Method) (c : Code), FX γ p s m args meth c cX12_isPart RX12 1 → meth.sig.returnType = (some .boolean) → JJ γ p l e rm_X12_isPart s m args below meth c 1 0 0 (QI below γ S X args s 0 0) S μ 0 [(0, .int a0)] [] := by
    intro p e s m args below meth c F hr
    refine j_iload_n F 0 dX12_isPart_0 rfl ?_
    refine j_iconst F 0 dX12_isPart_1 (by decide) ?_
    refine j_iconst F 1 dX12_isPart_2 (by decide) ?_
    refine j_cSI F mi_X12_in w_1104 (rest := []) h (fun _ g => c_X12_in g) rfl rfl (Nat.le_of_ble_eq_true rfl) ⟨Nat.le_of_ble_eq_true rfl, Nat.le_of_ble_eq_true rfl⟩ ⟨Nat.le_of_ble_eq_true rfl, Nat.le_of_ble_eq_true rfl⟩ dX12_isPart_3 (fun q1 h => ?_)
    exact j_zretG F hr dX12_isPart_6 h
  exact ct_of (by decide +kernel) (Nat.le_of_ble_eq_true rfl) (fun p e s m args below meth c F hr _ => hJ p e s m args below meth c F hr)
def rm_X12_isPad : Room := { frames := 1, cells := 0, slots := 0, locals := 22 }
theorem dX12_isPad_0 : decode cX12_isPad 0 = .ok (.iload_n 0, 1) := by decide +kernel
theorem dX12_isPad_1 : decode cX12_isPad 1 = .ok (.iconst 0, 1) := by decide +kernel
theorem dX12_isPad_2 : decode cX12_isPad 2 = .ok (.iconst 3, 1) := by decide +kernel
theorem dX12_isPad_3 : decode cX12_isPad 3 = .ok (.invokestatic 95, 3) := by decide +kernel
theorem dX12_isPad_6 : decode cX12_isPad 6 = .ok (.ireturn, 1) := by decide +kernel
def f_X12_isPad (S : SH) (a0 : Int32) (μ : Mem) : Option (Int32 × Mem) :=
  (f_X12_in S a0 0 3 μ).bind fun q1 =>
  (oz q1.1).bind fun z2 => some (z2, q1.2)
set_option maxRecDepth 100000 in
set_option maxHeartbeats 4000000 in
theorem c_X12_isPad {l : Launch} {γ : GE} {S : SH} {a0 : Int32} {μ : Mem} {X : (Int32 × Mem)} (h : f_X12_isPad S a0 μ = some X) : Ct l γ yX12_isPad cX12_isPad 1 (some .boolean) rm_X12_isPad [.int a0] S μ S X.2 (some (.int X.1)) := by
  unfold f_X12_isPad at h
  have hJ : ∀ (p : Program) (e : Env) (s : State) (m : MethodId) (args : Array Value) (below : List Frame) (meth : Method) (c : Code), FX γ p s m args meth c cX12_isPad RX12 1 → meth.sig.returnType = (some .boolean) → JJ γ p l e rm_X12_isPad s m args below meth c 1 0 0 (QI below γ S X args s 0 0) S μ 0 [(0, .int a0)] [] := by
    intro p e s m args below meth c F hr
    refine j_iload_n F 0 dX12_isPad_0 rfl ?_
    refine j_iconst F 0 dX12_isPad_1 (by decide) ?_
    refine j_iconst F 3 dX12_isPad_2 (by decide) ?_
    refine j_cSI F mi_X12_in w_1104 (rest := []) h (fun _ g => c_X12_in g) rfl rfl (Nat.le_of_ble_eq_true rfl) ⟨Nat.le_of_ble_eq_true rfl, Nat.le_of_ble_eq_true rfl⟩ ⟨Nat.le_of_ble_eq_true rfl, Nat.le_of_ble_eq_true rfl⟩ dX12_isPad_3 (fun q1 h => ?_)
    exact j_zretG F hr dX12_isPad_6 h
  exact ct_of (by decide +kernel) (Nat.le_of_ble_eq_true rfl) (fun p e s m args below meth c F hr _ => hJ p e s m args below meth c F hr)
def rm_X12_x : Room := { frames := 0, cells := 0, slots := 0, locals := 0 }
theorem dX12_x_0 : decode cX12_x 0 = .ok (.aload_n 0, 1) := by decide +kernel
theorem dX12_x_1 : decode cX12_x 1 = .ok (.getfield 9, 3) := by decide +kernel
theorem dX12_x_4 : decode cX12_x 4 = .ok (.iconst 3, 1) := by decide +kernel
theorem dX12_x_5 : decode cX12_x 5 = .ok (.iload_n 1, 1) := by decide +kernel
theorem dX12_x_6 : decode cX12_x 6 = .ok (.iconst 4, 1) := by decide +kernel
theorem dX12_x_7 : decode cX12_x 7 = .ok (.irem, 1) := by decide +kernel
theorem dX12_x_8 : decode cX12_x 8 = .ok (.imul, 1) := by decide +kernel
theorem dX12_x_9 : decode cX12_x 9 = .ok (.iaload, 1) := by decide +kernel
theorem dX12_x_10 : decode cX12_x 10 = .ok (.ireturn, 1) := by decide +kernel
def f_X12_x (S : SH) (a0 : Nat) (a1 : Int32) (μ : Mem) : Option (Int32 × Mem) :=
  if isO S 12 a0 = true then
  (gR S 12 a0 0).bind fun v1 =>
  (aI S .int v1 (3 * (a1 - a1 / 4 * 4)) μ).bind fun v2 =>
  some (v2, μ)
  else none
set_option maxRecDepth 100000 in
set_option maxHeartbeats 4000000 in
theorem c_X12_x {l : Launch} {γ : GE} {S : SH} {a0 : Nat} {a1 : Int32} {μ : Mem} {X : (Int32 × Mem)} (h : f_X12_x S a0 a1 μ = some X) : isO S 12 a0 = true ∧ Ct l γ yX12_x cX12_x 2 (some .int) rm_X12_x [.ref (gb γ + a0), .int a1] S μ S X.2 (some (.int X.1)) := by
  unfold f_X12_x at h
  obtain ⟨h0, h⟩ := if_some h
  refine ⟨h0, ?_⟩
  have hJ : ∀ (p : Program) (e : Env) (s : State) (m : MethodId) (args : Array Value) (below : List Frame) (meth : Method) (c : Code), FX γ p s m args meth c cX12_x RX12 2 → meth.sig.returnType = (some .int) → JJ γ p l e rm_X12_x s m args below meth c 2 0 0 (QI below γ S X args s 0 0) S μ 0 [(0, .ref (gb γ + a0)), (1, .int a1)] [] := by
    intro p e s m args below meth c F hr
    refine j_aload_n F 0 dX12_x_0 rfl ?_
    refine j_gR F fl_RX12_9 rfl dX12_x_1 h (fun v1 h => ?_)
    refine j_iconst F 3 dX12_x_4 (by decide) ?_
    refine j_iload_n F 1 dX12_x_5 rfl ?_
    refine j_iconst F 4 dX12_x_6 (by decide) ?_
    refine j_iremc F dX12_x_7 (by decide) ?_
    refine j_imul F dX12_x_8 ?_
    refine j_iald F dX12_x_9 h (fun v2 h => ?_)
    exact j_iret F hr dX12_x_10 h
  exact ct_of (by decide +kernel) (Nat.le_of_ble_eq_true rfl) (fun p e s m args below meth c F hr _ => hJ p e s m args below meth c F hr)
def rm_X12_y : Room := { frames := 0, cells := 0, slots := 0, locals := 0 }
theorem dX12_y_0 : decode cX12_y 0 = .ok (.aload_n 0, 1) := by decide +kernel
theorem dX12_y_1 : decode cX12_y 1 = .ok (.getfield 9, 3) := by decide +kernel
theorem dX12_y_4 : decode cX12_y 4 = .ok (.iconst 3, 1) := by decide +kernel
theorem dX12_y_5 : decode cX12_y 5 = .ok (.iload_n 1, 1) := by decide +kernel
theorem dX12_y_6 : decode cX12_y 6 = .ok (.iconst 4, 1) := by decide +kernel
theorem dX12_y_7 : decode cX12_y 7 = .ok (.irem, 1) := by decide +kernel
theorem dX12_y_8 : decode cX12_y 8 = .ok (.imul, 1) := by decide +kernel
theorem dX12_y_9 : decode cX12_y 9 = .ok (.iconst 1, 1) := by decide +kernel
theorem dX12_y_10 : decode cX12_y 10 = .ok (.iadd, 1) := by decide +kernel
theorem dX12_y_11 : decode cX12_y 11 = .ok (.iaload, 1) := by decide +kernel
theorem dX12_y_12 : decode cX12_y 12 = .ok (.ireturn, 1) := by decide +kernel
def f_X12_y (S : SH) (a0 : Nat) (a1 : Int32) (μ : Mem) : Option (Int32 × Mem) :=
  if isO S 12 a0 = true then
  (gR S 12 a0 0).bind fun v1 =>
  (aI S .int v1 ((3 * (a1 - a1 / 4 * 4)) + 1) μ).bind fun v2 =>
  some (v2, μ)
  else none
set_option maxRecDepth 100000 in
set_option maxHeartbeats 4000000 in
theorem c_X12_y {l : Launch} {γ : GE} {S : SH} {a0 : Nat} {a1 : Int32} {μ : Mem} {X : (Int32 × Mem)} (h : f_X12_y S a0 a1 μ = some X) : isO S 12 a0 = true ∧ Ct l γ yX12_y cX12_y 2 (some .int) rm_X12_y [.ref (gb γ + a0), .int a1] S μ S X.2 (some (.int X.1)) := by
  unfold f_X12_y at h
  obtain ⟨h0, h⟩ := if_some h
  refine ⟨h0, ?_⟩
  have hJ : ∀ (p : Program) (e : Env) (s : State) (m : MethodId) (args : Array Value) (below : List Frame) (meth : Method) (c : Code), FX γ p s m args meth c cX12_y RX12 2 → meth.sig.returnType = (some .int) → JJ γ p l e rm_X12_y s m args below meth c 2 0 0 (QI below γ S X args s 0 0) S μ 0 [(0, .ref (gb γ + a0)), (1, .int a1)] [] := by
    intro p e s m args below meth c F hr
    refine j_aload_n F 0 dX12_y_0 rfl ?_
    refine j_gR F fl_RX12_9 rfl dX12_y_1 h (fun v1 h => ?_)
    refine j_iconst F 3 dX12_y_4 (by decide) ?_
    refine j_iload_n F 1 dX12_y_5 rfl ?_
    refine j_iconst F 4 dX12_y_6 (by decide) ?_
    refine j_iremc F dX12_y_7 (by decide) ?_
    refine j_imul F dX12_y_8 ?_
    refine j_iconst F 1 dX12_y_9 (by decide) ?_
    refine j_iadd F dX12_y_10 ?_
    refine j_iald F dX12_y_11 h (fun v2 h => ?_)
    exact j_iret F hr dX12_y_12 h
  exact ct_of (by decide +kernel) (Nat.le_of_ble_eq_true rfl) (fun p e s m args below meth c F hr _ => hJ p e s m args below meth c F hr)
def rm_X12_stands : Room := { frames := 1, cells := 0, slots := 0, locals := 21 }
theorem dX12_stands_0 : decode cX12_stands 0 = .ok (.iconst 0, 1) := by decide +kernel
theorem dX12_stands_1 : decode cX12_stands 1 = .ok (.istore_n 1, 1) := by decide +kernel
theorem dX12_stands_2 : decode cX12_stands 2 = .ok (.iload_n 1, 1) := by decide +kernel
theorem dX12_stands_3 : decode cX12_stands 3 = .ok (.iconst 4, 1) := by decide +kernel
theorem dX12_stands_4 : decode cX12_stands 4 = .ok (.if_icmp .ge 75, 3) := by decide +kernel
theorem dX12_stands_7 : decode cX12_stands 7 = .ok (.aload_n 0, 1) := by decide +kernel
theorem dX12_stands_8 : decode cX12_stands 8 = .ok (.iload_n 1, 1) := by decide +kernel
theorem dX12_stands_9 : decode cX12_stands 9 = .ok (.iconst 1, 1) := by decide +kernel
theorem dX12_stands_10 : decode cX12_stands 10 = .ok (.iadd, 1) := by decide +kernel
theorem dX12_stands_11 : decode cX12_stands 11 = .ok (.invokevirtual 99, 3) := by decide +kernel
theorem dX12_stands_14 : decode cX12_stands 14 = .ok (.aload_n 0, 1) := by decide +kernel
theorem dX12_stands_15 : decode cX12_stands 15 = .ok (.iload_n 1, 1) := by decide +kernel
theorem dX12_stands_16 : decode cX12_stands 16 = .ok (.invokevirtual 99, 3) := by decide +kernel
theorem dX12_stands_19 : decode cX12_stands 19 = .ok (.isub, 1) := by decide +kernel
theorem dX12_stands_20 : decode cX12_stands 20 = .ok (.aload_n 0, 1) := by decide +kernel
theorem dX12_stands_21 : decode cX12_stands 21 = .ok (.iload_n 1, 1) := by decide +kernel
theorem dX12_stands_22 : decode cX12_stands 22 = .ok (.iconst 2, 1) := by decide +kernel
theorem dX12_stands_23 : decode cX12_stands 23 = .ok (.iadd, 1) := by decide +kernel
theorem dX12_stands_24 : decode cX12_stands 24 = .ok (.invokevirtual 103, 3) := by decide +kernel
theorem dX12_stands_27 : decode cX12_stands 27 = .ok (.aload_n 0, 1) := by decide +kernel
theorem dX12_stands_28 : decode cX12_stands 28 = .ok (.iload_n 1, 1) := by decide +kernel
theorem dX12_stands_29 : decode cX12_stands 29 = .ok (.iconst 1, 1) := by decide +kernel
theorem dX12_stands_30 : decode cX12_stands 30 = .ok (.iadd, 1) := by decide +kernel
theorem dX12_stands_31 : decode cX12_stands 31 = .ok (.invokevirtual 103, 3) := by decide +kernel
theorem dX12_stands_34 : decode cX12_stands 34 = .ok (.isub, 1) := by decide +kernel
theorem dX12_stands_35 : decode cX12_stands 35 = .ok (.imul, 1) := by decide +kernel
theorem dX12_stands_36 : decode cX12_stands 36 = .ok (.aload_n 0, 1) := by decide +kernel
theorem dX12_stands_37 : decode cX12_stands 37 = .ok (.iload_n 1, 1) := by decide +kernel
theorem dX12_stands_38 : decode cX12_stands 38 = .ok (.iconst 2, 1) := by decide +kernel
theorem dX12_stands_39 : decode cX12_stands 39 = .ok (.iadd, 1) := by decide +kernel
theorem dX12_stands_40 : decode cX12_stands 40 = .ok (.invokevirtual 99, 3) := by decide +kernel
theorem dX12_stands_43 : decode cX12_stands 43 = .ok (.aload_n 0, 1) := by decide +kernel
theorem dX12_stands_44 : decode cX12_stands 44 = .ok (.iload_n 1, 1) := by decide +kernel
theorem dX12_stands_45 : decode cX12_stands 45 = .ok (.iconst 1, 1) := by decide +kernel
theorem dX12_stands_46 : decode cX12_stands 46 = .ok (.iadd, 1) := by decide +kernel
theorem dX12_stands_47 : decode cX12_stands 47 = .ok (.invokevirtual 99, 3) := by decide +kernel
theorem dX12_stands_50 : decode cX12_stands 50 = .ok (.isub, 1) := by decide +kernel
theorem dX12_stands_51 : decode cX12_stands 51 = .ok (.aload_n 0, 1) := by decide +kernel
theorem dX12_stands_52 : decode cX12_stands 52 = .ok (.iload_n 1, 1) := by decide +kernel
theorem dX12_stands_53 : decode cX12_stands 53 = .ok (.iconst 1, 1) := by decide +kernel
theorem dX12_stands_54 : decode cX12_stands 54 = .ok (.iadd, 1) := by decide +kernel
theorem dX12_stands_55 : decode cX12_stands 55 = .ok (.invokevirtual 103, 3) := by decide +kernel
theorem dX12_stands_58 : decode cX12_stands 58 = .ok (.aload_n 0, 1) := by decide +kernel
theorem dX12_stands_59 : decode cX12_stands 59 = .ok (.iload_n 1, 1) := by decide +kernel
theorem dX12_stands_60 : decode cX12_stands 60 = .ok (.invokevirtual 103, 3) := by decide +kernel
theorem dX12_stands_63 : decode cX12_stands 63 = .ok (.isub, 1) := by decide +kernel
theorem dX12_stands_64 : decode cX12_stands 64 = .ok (.imul, 1) := by decide +kernel
theorem dX12_stands_65 : decode cX12_stands 65 = .ok (.isub, 1) := by decide +kernel
theorem dX12_stands_66 : decode cX12_stands 66 = .ok (.istore_n 2, 1) := by decide +kernel
theorem dX12_stands_67 : decode cX12_stands 67 = .ok (.iload_n 2, 1) := by decide +kernel
theorem dX12_stands_68 : decode cX12_stands 68 = .ok (.ifCond .gt 5, 3) := by decide +kernel
theorem dX12_stands_71 : decode cX12_stands 71 = .ok (.iconst 0, 1) := by decide +kernel
theorem dX12_stands_72 : decode cX12_stands 72 = .ok (.ireturn, 1) := by decide +kernel
theorem dX12_stands_73 : decode cX12_stands 73 = .ok (.iinc 1 1, 3) := by decide +kernel
theorem dX12_stands_76 : decode cX12_stands 76 = .ok (.goto (-74), 3) := by decide +kernel
theorem dX12_stands_79 : decode cX12_stands 79 = .ok (.iconst 1, 1) := by decide +kernel
theorem dX12_stands_80 : decode cX12_stands 80 = .ok (.ireturn, 1) := by decide +kernel
def l_X12_stands_2 (S : SH) (a0 : Nat) (k2 : (Int32 × Mem) → Option (Int32 × Mem)) (x : (Int32 × Mem)) : Option (Int32 × Mem) :=
 (if 4 ≤ x.1 then
 some (1, x.2)
 else
 (f_X12_x S a0 (x.1 + 1) x.2).bind fun q1 =>
 (f_X12_x S a0 x.1 q1.2).bind fun q2 =>
 (f_X12_y S a0 (x.1 + 2) q2.2).bind fun q3 =>
 (f_X12_y S a0 (x.1 + 1) q3.2).bind fun q4 =>
 (f_X12_x S a0 (x.1 + 2) q4.2).bind fun q5 =>
 (f_X12_x S a0 (x.1 + 1) q5.2).bind fun q6 =>
 (f_X12_y S a0 (x.1 + 1) q6.2).bind fun q7 =>
 (f_X12_y S a0 x.1 q7.2).bind fun q8 =>
 (some (((q1.1 - q2.1) * (q3.1 - q4.1)) - ((q5.1 - q6.1) * (q7.1 - q8.1)))).bind fun y9 =>
 (if 0 < y9 then
 k2 (x.1 + 1, q8.2)
 else
 some (0, q8.2)))
set_option maxRecDepth 100000 in
set_option maxHeartbeats 4000000 in
theorem t_X12_stands_2 {γ : GE} {p : Program} {l : Launch} {e : Env} {s : State} {m : MethodId} {args : Array Value} {below : List Frame} {meth : Method} {c : Code} {S : SH} {X : (Int32 × Mem)} (F : FX γ p s m args meth c cX12_stands RX12 3) (hr : meth.sig.returnType = (some .boolean)) (a0 : Nat) (k2 : (Int32 × Mem) → Option (Int32 × Mem)) (hk2 : ∀ (x2_1 : Int32) (ν : Mem), k2 (x2_1, ν) = some X → JJ γ p l e rm_X12_stands s m args below meth c 3 0 0 (QI below γ S X args s 0 0) S ν 2 [(0, .ref (gb γ + a0)), (1, .int x2_1)] []) (x : (Int32 × Mem)) (h : l_X12_stands_2 S a0 k2 x = some X) : JJ γ p l e rm_X12_stands s m args below meth c 3 0 0 (QI below γ S X args s 0 0) S x.2 2 [(0, .ref (gb γ + a0)), (1, .int x.1)] [] := by
  unfold l_X12_stands_2 at h
  refine j_iload_n F 1 dX12_stands_2 rfl ?_
  refine j_iconst F 4 dX12_stands_3 (by decide) ?_
  refine j_icmpge F 79 dX12_stands_4 (by decide) h (fun _ h => ?_) (fun _ h => ?_)
  · refine j_iconst F 1 dX12_stands_79 (by decide) ?_
    exact j_zret F hr (Or.inr rfl) dX12_stands_80 h
  · refine j_aload_n F 0 dX12_stands_7 rfl ?_
    refine j_iload_n F 1 dX12_stands_8 rfl ?_
    refine j_iconst F 1 dX12_stands_9 (by decide) ?_
    refine j_iadd F dX12_stands_10 ?_
    refine j_cVI F mi_X12_x w_1111 (rest := []) h (fun _ g => c_X12_x g) rfl rfl (Nat.le_of_ble_eq_true rfl) ⟨Nat.le_of_ble_eq_true rfl, Nat.le_of_ble_eq_true rfl⟩ ⟨Nat.le_of_ble_eq_true rfl, Nat.le_of_ble_eq_true rfl⟩ dX12_stands_11 (fun q1 h => ?_)
    refine j_aload_n F 0 dX12_stands_14 rfl ?_
    refine j_iload_n F 1 dX12_stands_15 rfl ?_
    refine j_cVI F mi_X12_x w_1111 (rest := [.int q1.1]) h (fun _ g => c_X12_x g) rfl rfl (Nat.le_of_ble_eq_true rfl) ⟨Nat.le_of_ble_eq_true rfl, Nat.le_of_ble_eq_true rfl⟩ ⟨Nat.le_of_ble_eq_true rfl, Nat.le_of_ble_eq_true rfl⟩ dX12_stands_16 (fun q2 h => ?_)
    refine j_isub F dX12_stands_19 ?_
    refine j_aload_n F 0 dX12_stands_20 rfl ?_
    refine j_iload_n F 1 dX12_stands_21 rfl ?_
    refine j_iconst F 2 dX12_stands_22 (by decide) ?_
    refine j_iadd F dX12_stands_23 ?_
    refine j_cVI F mi_X12_y w_1115 (rest := [.int (q1.1 - q2.1)]) h (fun _ g => c_X12_y g) rfl rfl (Nat.le_of_ble_eq_true rfl) ⟨Nat.le_of_ble_eq_true rfl, Nat.le_of_ble_eq_true rfl⟩ ⟨Nat.le_of_ble_eq_true rfl, Nat.le_of_ble_eq_true rfl⟩ dX12_stands_24 (fun q3 h => ?_)
    refine j_aload_n F 0 dX12_stands_27 rfl ?_
    refine j_iload_n F 1 dX12_stands_28 rfl ?_
    refine j_iconst F 1 dX12_stands_29 (by decide) ?_
    refine j_iadd F dX12_stands_30 ?_
    refine j_cVI F mi_X12_y w_1115 (rest := [.int q3.1, .int (q1.1 - q2.1)]) h (fun _ g => c_X12_y g) rfl rfl (Nat.le_of_ble_eq_true rfl) ⟨Nat.le_of_ble_eq_true rfl, Nat.le_of_ble_eq_true rfl⟩ ⟨Nat.le_of_ble_eq_true rfl, Nat.le_of_ble_eq_true rfl⟩ dX12_stands_31 (fun q4 h => ?_)
    refine j_isub F dX12_stands_34 ?_
    refine j_imul F dX12_stands_35 ?_
    refine j_aload_n F 0 dX12_stands_36 rfl ?_
    refine j_iload_n F 1 dX12_stands_37 rfl ?_
    refine j_iconst F 2 dX12_stands_38 (by decide) ?_
    refine j_iadd F dX12_stands_39 ?_
    refine j_cVI F mi_X12_x w_1111 (rest := [.int ((q1.1 - q2.1) * (q3.1 - q4.1))]) h (fun _ g => c_X12_x g) rfl rfl (Nat.le_of_ble_eq_true rfl) ⟨Nat.le_of_ble_eq_true rfl, Nat.le_of_ble_eq_true rfl⟩ ⟨Nat.le_of_ble_eq_true rfl, Nat.le_of_ble_eq_true rfl⟩ dX12_stands_40 (fun q5 h => ?_)
    refine j_aload_n F 0 dX12_stands_43 rfl ?_
    refine j_iload_n F 1 dX12_stands_44 rfl ?_
    refine j_iconst F 1 dX12_stands_45 (by decide) ?_
    refine j_iadd F dX12_stands_46 ?_
    refine j_cVI F mi_X12_x w_1111 (rest := [.int q5.1, .int ((q1.1 - q2.1) * (q3.1 - q4.1))]) h (fun _ g => c_X12_x g) rfl rfl (Nat.le_of_ble_eq_true rfl) ⟨Nat.le_of_ble_eq_true rfl, Nat.le_of_ble_eq_true rfl⟩ ⟨Nat.le_of_ble_eq_true rfl, Nat.le_of_ble_eq_true rfl⟩ dX12_stands_47 (fun q6 h => ?_)
    refine j_isub F dX12_stands_50 ?_
    refine j_aload_n F 0 dX12_stands_51 rfl ?_
    refine j_iload_n F 1 dX12_stands_52 rfl ?_
    refine j_iconst F 1 dX12_stands_53 (by decide) ?_
    refine j_iadd F dX12_stands_54 ?_
    refine j_cVI F mi_X12_y w_1115 (rest := [.int (q5.1 - q6.1), .int ((q1.1 - q2.1) * (q3.1 - q4.1))]) h (fun _ g => c_X12_y g) rfl rfl (Nat.le_of_ble_eq_true rfl) ⟨Nat.le_of_ble_eq_true rfl, Nat.le_of_ble_eq_true rfl⟩ ⟨Nat.le_of_ble_eq_true rfl, Nat.le_of_ble_eq_true rfl⟩ dX12_stands_55 (fun q7 h => ?_)
    refine j_aload_n F 0 dX12_stands_58 rfl ?_
    refine j_iload_n F 1 dX12_stands_59 rfl ?_
    refine j_cVI F mi_X12_y w_1115 (rest := [.int q7.1, .int (q5.1 - q6.1), .int ((q1.1 - q2.1) * (q3.1 - q4.1))]) h (fun _ g => c_X12_y g) rfl rfl (Nat.le_of_ble_eq_true rfl) ⟨Nat.le_of_ble_eq_true rfl, Nat.le_of_ble_eq_true rfl⟩ ⟨Nat.le_of_ble_eq_true rfl, Nat.le_of_ble_eq_true rfl⟩ dX12_stands_60 (fun q8 h => ?_)
    refine j_isub F dX12_stands_63 ?_
    refine j_imul F dX12_stands_64 ?_
    refine j_isub F dX12_stands_65 ?_
    refine j_nmI h (fun y9 h => ?_)
    refine j_istore_n F [(2, .int y9), (0, .ref (gb γ + a0)), (1, .int x.1)] dX12_stands_66 rfl (by decide) rfl ?_
    refine j_iload_n F 0 dX12_stands_67 rfl ?_
    refine j_ifgt F 73 dX12_stands_68 (by decide) h (fun _ h => ?_) (fun _ h => ?_)
    · refine j_iinc F 1 2 [(1, .int (x.1 + 1)), (2, .int y9), (0, .ref (gb γ + a0))] dX12_stands_73 rfl (by decide) (by decide) rfl ?_
      refine j_goto F 2 dX12_stands_76 (by decide) ?_
      refine j_lv [(0, .ref (gb γ + a0)), (1, .int (x.1 + 1))] [2, 0] rfl ?_
      exact hk2 _ _ h
    · refine j_iconst F 0 dX12_stands_71 (by decide) ?_
      exact j_zret F hr (Or.inl rfl) dX12_stands_72 h
theorem s_X12_stands_2 {γ : GE} {p : Program} {l : Launch} {e : Env} {s : State} {m : MethodId} {args : Array Value} {below : List Frame} {meth : Method} {c : Code} {S : SH} {X : (Int32 × Mem)} (F : FX γ p s m args meth c cX12_stands RX12 3) (hr : meth.sig.returnType = (some .boolean)) (a0 : Nat) (x2_1 : Int32) (ν : Mem) (h : lpN (l_X12_stands_2 S a0) fu (x2_1, ν) = some X) : JJ γ p l e rm_X12_stands s m args below meth c 3 0 0 (QI below γ S X args s 0 0) S ν 2 [(0, .ref (gb γ + a0)), (1, .int x2_1)] [] :=
 lpN_sound (fun x => JJ γ p l e rm_X12_stands s m args below meth c 3 0 0 (QI below γ S X args s 0 0) S x.2 2 [(0, .ref (gb γ + a0)), (1, .int x.1)] []) (fun k2 hk2 x h => t_X12_stands_2 F hr a0 k2 (fun x2_1 ν h => hk2 (x2_1, ν) h) x h) fu (x2_1, ν) h
def f_X12_stands (S : SH) (a0 : Nat) (μ : Mem) : Option (Int32 × Mem) :=
  if isO S 12 a0 = true then
  lpN (l_X12_stands_2 S  a0) fu (0, μ)
  else none
set_option maxRecDepth 100000 in
set_option maxHeartbeats 4000000 in
theorem c_X12_stands {l : Launch} {γ : GE} {S : SH} {a0 : Nat} {μ : Mem} {X : (Int32 × Mem)} (h : f_X12_stands S a0 μ = some X) : isO S 12 a0 = true ∧ Ct l γ yX12_stands cX12_stands 3 (some .boolean) rm_X12_stands [.ref (gb γ + a0)] S μ S X.2 (some (.int X.1)) := by
  unfold f_X12_stands at h
  obtain ⟨h0, h⟩ := if_some h
  refine ⟨h0, ?_⟩
  have hJ : ∀ (p : Program) (e : Env) (s : State) (m : MethodId) (args : Array Value) (below : List Frame) (meth : Method) (c : Code), FX γ p s m args meth c cX12_stands RX12 3 → meth.sig.returnType = (some .boolean) → JJ γ p l e rm_X12_stands s m args below meth c 3 0 0 (QI below γ S X args s 0 0) S μ 0 [(0, .ref (gb γ + a0))] [] := by
    intro p e s m args below meth c F hr
    refine j_iconst F 0 dX12_stands_0 (by decide) ?_
    refine j_istore_n F [(1, .int 0), (0, .ref (gb γ + a0))] dX12_stands_1 rfl (by decide) rfl ?_
    refine j_lv [(0, .ref (gb γ + a0)), (1, .int 0)] [1, 0] rfl ?_
    exact s_X12_stands_2 F hr _ _ _ h
  exact ct_of (by decide +kernel) (Nat.le_of_ble_eq_true rfl) (fun p e s m args below meth c F hr _ => hJ p e s m args below meth c F hr)
def rm_X12_pad : Room := { frames := 2, cells := 0, slots := 0, locals := 43 }
theorem dX12_pad_0 : decode cX12_pad 0 = .ok (.iload_n 1, 1) := by decide +kernel
theorem dX12_pad_1 : decode cX12_pad 1 = .ok (.invokestatic 106, 3) := by decide +kernel
theorem dX12_pad_4 : decode cX12_pad 4 = .ok (.ifCond .ne 5, 3) := by decide +kernel
theorem dX12_pad_7 : decode cX12_pad 7 = .ok (.iconst (-1), 1) := by decide +kernel
theorem dX12_pad_8 : decode cX12_pad 8 = .ok (.ireturn, 1) := by decide +kernel
theorem dX12_pad_9 : decode cX12_pad 9 = .ok (.iload_n 2, 1) := by decide +kernel
theorem dX12_pad_10 : decode cX12_pad 10 = .ok (.bipush (-30), 2) := by decide +kernel
theorem dX12_pad_12 : decode cX12_pad 12 = .ok (.bipush 30, 2) := by decide +kernel
theorem dX12_pad_14 : decode cX12_pad 14 = .ok (.invokestatic 95, 3) := by decide +kernel
theorem dX12_pad_17 : decode cX12_pad 17 = .ok (.ifCond .eq 26, 3) := by decide +kernel
theorem dX12_pad_20 : decode cX12_pad 20 = .ok (.iload_n 3, 1) := by decide +kernel
theorem dX12_pad_21 : decode cX12_pad 21 = .ok (.bipush (-30), 2) := by decide +kernel
theorem dX12_pad_23 : decode cX12_pad 23 = .ok (.bipush 30, 2) := by decide +kernel
theorem dX12_pad_25 : decode cX12_pad 25 = .ok (.invokestatic 95, 3) := by decide +kernel
theorem dX12_pad_28 : decode cX12_pad 28 = .ok (.ifCond .eq 15, 3) := by decide +kernel
theorem dX12_pad_31 : decode cX12_pad 31 = .ok (.iload 4, 2) := by decide +kernel
theorem dX12_pad_33 : decode cX12_pad 33 = .ok (.iconst 0, 1) := by decide +kernel
theorem dX12_pad_34 : decode cX12_pad 34 = .ok (.sipush 9999, 3) := by decide +kernel
theorem dX12_pad_37 : decode cX12_pad 37 = .ok (.invokestatic 95, 3) := by decide +kernel
theorem dX12_pad_40 : decode cX12_pad 40 = .ok (.ifCond .ne 6, 3) := by decide +kernel
theorem dX12_pad_43 : decode cX12_pad 43 = .ok (.bipush (-2), 2) := by decide +kernel
theorem dX12_pad_45 : decode cX12_pad 45 = .ok (.ireturn, 1) := by decide +kernel
theorem dX12_pad_46 : decode cX12_pad 46 = .ok (.aload_n 0, 1) := by decide +kernel
theorem dX12_pad_47 : decode cX12_pad 47 = .ok (.getfield 9, 3) := by decide +kernel
theorem dX12_pad_50 : decode cX12_pad 50 = .ok (.iconst 3, 1) := by decide +kernel
theorem dX12_pad_51 : decode cX12_pad 51 = .ok (.iload_n 1, 1) := by decide +kernel
theorem dX12_pad_52 : decode cX12_pad 52 = .ok (.imul, 1) := by decide +kernel
theorem dX12_pad_53 : decode cX12_pad 53 = .ok (.iload_n 2, 1) := by decide +kernel
theorem dX12_pad_54 : decode cX12_pad 54 = .ok (.iastore, 1) := by decide +kernel
theorem dX12_pad_55 : decode cX12_pad 55 = .ok (.aload_n 0, 1) := by decide +kernel
theorem dX12_pad_56 : decode cX12_pad 56 = .ok (.getfield 9, 3) := by decide +kernel
theorem dX12_pad_59 : decode cX12_pad 59 = .ok (.iconst 3, 1) := by decide +kernel
theorem dX12_pad_60 : decode cX12_pad 60 = .ok (.iload_n 1, 1) := by decide +kernel
theorem dX12_pad_61 : decode cX12_pad 61 = .ok (.imul, 1) := by decide +kernel
theorem dX12_pad_62 : decode cX12_pad 62 = .ok (.iconst 1, 1) := by decide +kernel
theorem dX12_pad_63 : decode cX12_pad 63 = .ok (.iadd, 1) := by decide +kernel
theorem dX12_pad_64 : decode cX12_pad 64 = .ok (.iload_n 3, 1) := by decide +kernel
theorem dX12_pad_65 : decode cX12_pad 65 = .ok (.iastore, 1) := by decide +kernel
theorem dX12_pad_66 : decode cX12_pad 66 = .ok (.aload_n 0, 1) := by decide +kernel
theorem dX12_pad_67 : decode cX12_pad 67 = .ok (.getfield 9, 3) := by decide +kernel
theorem dX12_pad_70 : decode cX12_pad 70 = .ok (.iconst 3, 1) := by decide +kernel
theorem dX12_pad_71 : decode cX12_pad 71 = .ok (.iload_n 1, 1) := by decide +kernel
theorem dX12_pad_72 : decode cX12_pad 72 = .ok (.imul, 1) := by decide +kernel
theorem dX12_pad_73 : decode cX12_pad 73 = .ok (.iconst 2, 1) := by decide +kernel
theorem dX12_pad_74 : decode cX12_pad 74 = .ok (.iadd, 1) := by decide +kernel
theorem dX12_pad_75 : decode cX12_pad 75 = .ok (.iload 4, 2) := by decide +kernel
theorem dX12_pad_77 : decode cX12_pad 77 = .ok (.iastore, 1) := by decide +kernel
theorem dX12_pad_78 : decode cX12_pad 78 = .ok (.aload_n 0, 1) := by decide +kernel
theorem dX12_pad_79 : decode cX12_pad 79 = .ok (.invokevirtual 110, 3) := by decide +kernel
theorem dX12_pad_82 : decode cX12_pad 82 = .ok (.ifCond .eq 7, 3) := by decide +kernel
theorem dX12_pad_85 : decode cX12_pad 85 = .ok (.iconst 1, 1) := by decide +kernel
theorem dX12_pad_86 : decode cX12_pad 86 = .ok (.goto 4, 3) := by decide +kernel
theorem dX12_pad_89 : decode cX12_pad 89 = .ok (.iconst 0, 1) := by decide +kernel
theorem dX12_pad_90 : decode cX12_pad 90 = .ok (.ireturn, 1) := by decide +kernel
def f_X12_pad (S : SH) (a0 : Nat) (a1 : Int32) (a2 : Int32) (a3 : Int32) (a4 : Int32) (μ : Mem) : Option (Int32 × Mem) :=
  if isO S 12 a0 = true then
  (f_X12_isPad S a1 μ).bind fun q1 =>
  (if q1.1 = 0 then
  some ((-1), q1.2)
  else
  (f_X12_in S a2 (-30) 30 q1.2).bind fun q2 =>
  (if q2.1 = 0 then
  some ((-2), q2.2)
  else
  (f_X12_in S a3 (-30) 30 q2.2).bind fun q3 =>
  (if q3.1 = 0 then
  some ((-2), q3.2)
  else
  (f_X12_in S a4 0 9999 q3.2).bind fun q4 =>
  (if q4.1 = 0 then
  some ((-2), q4.2)
  else
  (gR S 12 a0 0).bind fun v5 =>
  (sI S v5 (3 * a1) a2 q4.2).bind fun ν6 =>
  (gR S 12 a0 0).bind fun v7 =>
  (sI S v7 ((3 * a1) + 1) a3 ν6).bind fun ν8 =>
  (gR S 12 a0 0).bind fun v9 =>
  (sI S v9 ((3 * a1) + 2) a4 ν8).bind fun ν10 =>
  (f_X12_stands S a0 ν10).bind fun q11 =>
  (if q11.1 = 0 then
  some (0, q11.2)
  else
  some (1, q11.2))))))
  else none
set_option maxRecDepth 100000 in
set_option maxHeartbeats 4000000 in
theorem c_X12_pad {l : Launch} {γ : GE} {S : SH} {a0 : Nat} {a1 : Int32} {a2 : Int32} {a3 : Int32} {a4 : Int32} {μ : Mem} {X : (Int32 × Mem)} (h : f_X12_pad S a0 a1 a2 a3 a4 μ = some X) : isO S 12 a0 = true ∧ Ct l γ yX12_pad cX12_pad 5 (some .int) rm_X12_pad [.ref (gb γ + a0), .int a1, .int a2, .int a3, .int a4] S μ S X.2 (some (.int X.1)) := by
  unfold f_X12_pad at h
  obtain ⟨h0, h⟩ := if_some h
  refine ⟨h0, ?_⟩
  have hJ : ∀ (p : Program) (e : Env) (s : State) (m : MethodId) (args : Array Value) (below : List Frame) (meth : Method) (c : Code), FX γ p s m args meth c cX12_pad RX12 5 → meth.sig.returnType = (some .int) → JJ γ p l e rm_X12_pad s m args below meth c 5 0 0 (QI below γ S X args s 0 0) S μ 0 [(0, .ref (gb γ + a0)), (1, .int a1), (2, .int a2), (3, .int a3), (4, .int a4)] [] := by
    intro p e s m args below meth c F hr
    refine j_iload_n F 1 dX12_pad_0 rfl ?_
    refine j_cSI F mi_X12_isPad w_1101 (rest := []) h (fun _ g => c_X12_isPad g) rfl rfl (Nat.le_of_ble_eq_true rfl) ⟨Nat.le_of_ble_eq_true rfl, Nat.le_of_ble_eq_true rfl⟩ ⟨Nat.le_of_ble_eq_true rfl, Nat.le_of_ble_eq_true rfl⟩ dX12_pad_1 (fun q1 h => ?_)
    refine j_ifne F 9 dX12_pad_4 (by decide) h (fun _ h => ?_) (fun _ h => ?_)
    · refine j_iload_n F 2 dX12_pad_9 rfl ?_
      refine j_bipush F (-30) dX12_pad_10 (by decide) ?_
      refine j_bipush F 30 dX12_pad_12 (by decide) ?_
      refine j_cSI F mi_X12_in w_1104 (rest := []) h (fun _ g => c_X12_in g) rfl rfl (Nat.le_of_ble_eq_true rfl) ⟨Nat.le_of_ble_eq_true rfl, Nat.le_of_ble_eq_true rfl⟩ ⟨Nat.le_of_ble_eq_true rfl, Nat.le_of_ble_eq_true rfl⟩ dX12_pad_14 (fun q2 h => ?_)
      refine j_ifeq F 43 dX12_pad_17 (by decide) h (fun _ h => ?_) (fun _ h => ?_)
      · refine j_bipush F (-2) dX12_pad_43 (by decide) ?_
        exact j_iret F hr dX12_pad_45 h
      · refine j_iload_n F 3 dX12_pad_20 rfl ?_
        refine j_bipush F (-30) dX12_pad_21 (by decide) ?_
        refine j_bipush F 30 dX12_pad_23 (by decide) ?_
        refine j_cSI F mi_X12_in w_1104 (rest := []) h (fun _ g => c_X12_in g) rfl rfl (Nat.le_of_ble_eq_true rfl) ⟨Nat.le_of_ble_eq_true rfl, Nat.le_of_ble_eq_true rfl⟩ ⟨Nat.le_of_ble_eq_true rfl, Nat.le_of_ble_eq_true rfl⟩ dX12_pad_25 (fun q3 h => ?_)
        refine j_ifeq F 43 dX12_pad_28 (by decide) h (fun _ h => ?_) (fun _ h => ?_)
        · refine j_bipush F (-2) dX12_pad_43 (by decide) ?_
          exact j_iret F hr dX12_pad_45 h
        · refine j_iload F 4 dX12_pad_31 rfl ?_
          refine j_iconst F 0 dX12_pad_33 (by decide) ?_
          refine j_sipush F 9999 dX12_pad_34 (by decide) ?_
          refine j_cSI F mi_X12_in w_1104 (rest := []) h (fun _ g => c_X12_in g) rfl rfl (Nat.le_of_ble_eq_true rfl) ⟨Nat.le_of_ble_eq_true rfl, Nat.le_of_ble_eq_true rfl⟩ ⟨Nat.le_of_ble_eq_true rfl, Nat.le_of_ble_eq_true rfl⟩ dX12_pad_37 (fun q4 h => ?_)
          refine j_ifne F 46 dX12_pad_40 (by decide) h (fun _ h => ?_) (fun _ h => ?_)
          · refine j_aload_n F 0 dX12_pad_46 rfl ?_
            refine j_gR F fl_RX12_9 rfl dX12_pad_47 h (fun v5 h => ?_)
            refine j_iconst F 3 dX12_pad_50 (by decide) ?_
            refine j_iload_n F 1 dX12_pad_51 rfl ?_
            refine j_imul F dX12_pad_52 ?_
            refine j_iload_n F 2 dX12_pad_53 rfl ?_
            refine j_iast F dX12_pad_54 h (fun ν6 h => ?_)
            refine j_aload_n F 0 dX12_pad_55 rfl ?_
            refine j_gR F fl_RX12_9 rfl dX12_pad_56 h (fun v7 h => ?_)
            refine j_iconst F 3 dX12_pad_59 (by decide) ?_
            refine j_iload_n F 1 dX12_pad_60 rfl ?_
            refine j_imul F dX12_pad_61 ?_
            refine j_iconst F 1 dX12_pad_62 (by decide) ?_
            refine j_iadd F dX12_pad_63 ?_
            refine j_iload_n F 3 dX12_pad_64 rfl ?_
            refine j_iast F dX12_pad_65 h (fun ν8 h => ?_)
            refine j_aload_n F 0 dX12_pad_66 rfl ?_
            refine j_gR F fl_RX12_9 rfl dX12_pad_67 h (fun v9 h => ?_)
            refine j_iconst F 3 dX12_pad_70 (by decide) ?_
            refine j_iload_n F 1 dX12_pad_71 rfl ?_
            refine j_imul F dX12_pad_72 ?_
            refine j_iconst F 2 dX12_pad_73 (by decide) ?_
            refine j_iadd F dX12_pad_74 ?_
            refine j_iload F 4 dX12_pad_75 rfl ?_
            refine j_iast F dX12_pad_77 h (fun ν10 h => ?_)
            refine j_aload_n F 0 dX12_pad_78 rfl ?_
            refine j_cVI F mi_X12_stands w_1107 (rest := []) h (fun _ g => c_X12_stands g) rfl rfl (Nat.le_of_ble_eq_true rfl) ⟨Nat.le_of_ble_eq_true rfl, Nat.le_of_ble_eq_true rfl⟩ ⟨Nat.le_of_ble_eq_true rfl, Nat.le_of_ble_eq_true rfl⟩ dX12_pad_79 (fun q11 h => ?_)
            refine j_ifeq F 89 dX12_pad_82 (by decide) h (fun _ h => ?_) (fun _ h => ?_)
            · refine j_iconst F 0 dX12_pad_89 (by decide) ?_
              exact j_iret F hr dX12_pad_90 h
            · refine j_iconst F 1 dX12_pad_85 (by decide) ?_
              refine j_goto F 90 dX12_pad_86 (by decide) ?_
              exact j_iret F hr dX12_pad_90 h
          · refine j_bipush F (-2) dX12_pad_43 (by decide) ?_
            exact j_iret F hr dX12_pad_45 h
    · refine j_iconst F (-1) dX12_pad_7 (by decide) ?_
      exact j_iret F hr dX12_pad_8 h
  exact ct_of (by decide +kernel) (Nat.le_of_ble_eq_true rfl) (fun p e s m args below meth c F hr _ => hJ p e s m args below meth c F hr)
def rm_X12_part_ : Room := { frames := 1, cells := 0, slots := 0, locals := 22 }
theorem dX12_part__0 : decode cX12_part_ 0 = .ok (.iload_n 1, 1) := by decide +kernel
theorem dX12_part__1 : decode cX12_part_ 1 = .ok (.iconst 1, 1) := by decide +kernel
theorem dX12_part__2 : decode cX12_part_ 2 = .ok (.sipush 999, 3) := by decide +kernel
theorem dX12_part__5 : decode cX12_part_ 5 = .ok (.invokestatic 95, 3) := by decide +kernel
theorem dX12_part__8 : decode cX12_part_ 8 = .ok (.ifCond .eq 25, 3) := by decide +kernel
theorem dX12_part__11 : decode cX12_part_ 11 = .ok (.iload_n 2, 1) := by decide +kernel
theorem dX12_part__12 : decode cX12_part_ 12 = .ok (.bipush (-40), 2) := by decide +kernel
theorem dX12_part__14 : decode cX12_part_ 14 = .ok (.bipush 40, 2) := by decide +kernel
theorem dX12_part__16 : decode cX12_part_ 16 = .ok (.invokestatic 95, 3) := by decide +kernel
theorem dX12_part__19 : decode cX12_part_ 19 = .ok (.ifCond .eq 14, 3) := by decide +kernel
theorem dX12_part__22 : decode cX12_part_ 22 = .ok (.iload_n 3, 1) := by decide +kernel
theorem dX12_part__23 : decode cX12_part_ 23 = .ok (.bipush (-40), 2) := by decide +kernel
theorem dX12_part__25 : decode cX12_part_ 25 = .ok (.bipush 40, 2) := by decide +kernel
theorem dX12_part__27 : decode cX12_part_ 27 = .ok (.invokestatic 95, 3) := by decide +kernel
theorem dX12_part__30 : decode cX12_part_ 30 = .ok (.ifCond .ne 6, 3) := by decide +kernel
theorem dX12_part__33 : decode cX12_part_ 33 = .ok (.bipush (-2), 2) := by decide +kernel
theorem dX12_part__35 : decode cX12_part_ 35 = .ok (.ireturn, 1) := by decide +kernel
theorem dX12_part__36 : decode cX12_part_ 36 = .ok (.aload_n 0, 1) := by decide +kernel
theorem dX12_part__37 : decode cX12_part_ 37 = .ok (.getfield 114, 3) := by decide +kernel
theorem dX12_part__40 : decode cX12_part_ 40 = .ok (.bipush 8, 2) := by decide +kernel
theorem dX12_part__42 : decode cX12_part_ 42 = .ok (.if_icmp .ne 6, 3) := by decide +kernel
theorem dX12_part__45 : decode cX12_part_ 45 = .ok (.bipush (-4), 2) := by decide +kernel
theorem dX12_part__47 : decode cX12_part_ 47 = .ok (.ireturn, 1) := by decide +kernel
theorem dX12_part__48 : decode cX12_part_ 48 = .ok (.aload_n 0, 1) := by decide +kernel
theorem dX12_part__49 : decode cX12_part_ 49 = .ok (.getfield 15, 3) := by decide +kernel
theorem dX12_part__52 : decode cX12_part_ 52 = .ok (.aload_n 0, 1) := by decide +kernel
theorem dX12_part__53 : decode cX12_part_ 53 = .ok (.getfield 114, 3) := by decide +kernel
theorem dX12_part__56 : decode cX12_part_ 56 = .ok (.iload_n 1, 1) := by decide +kernel
theorem dX12_part__57 : decode cX12_part_ 57 = .ok (.iastore, 1) := by decide +kernel
theorem dX12_part__58 : decode cX12_part_ 58 = .ok (.aload_n 0, 1) := by decide +kernel
theorem dX12_part__59 : decode cX12_part_ 59 = .ok (.getfield 18, 3) := by decide +kernel
theorem dX12_part__62 : decode cX12_part_ 62 = .ok (.aload_n 0, 1) := by decide +kernel
theorem dX12_part__63 : decode cX12_part_ 63 = .ok (.getfield 114, 3) := by decide +kernel
theorem dX12_part__66 : decode cX12_part_ 66 = .ok (.iload_n 2, 1) := by decide +kernel
theorem dX12_part__67 : decode cX12_part_ 67 = .ok (.iastore, 1) := by decide +kernel
theorem dX12_part__68 : decode cX12_part_ 68 = .ok (.aload_n 0, 1) := by decide +kernel
theorem dX12_part__69 : decode cX12_part_ 69 = .ok (.getfield 21, 3) := by decide +kernel
theorem dX12_part__72 : decode cX12_part_ 72 = .ok (.aload_n 0, 1) := by decide +kernel
theorem dX12_part__73 : decode cX12_part_ 73 = .ok (.getfield 114, 3) := by decide +kernel
theorem dX12_part__76 : decode cX12_part_ 76 = .ok (.iload_n 3, 1) := by decide +kernel
theorem dX12_part__77 : decode cX12_part_ 77 = .ok (.iastore, 1) := by decide +kernel
theorem dX12_part__78 : decode cX12_part_ 78 = .ok (.aload_n 0, 1) := by decide +kernel
theorem dX12_part__79 : decode cX12_part_ 79 = .ok (.getfield 24, 3) := by decide +kernel
theorem dX12_part__82 : decode cX12_part_ 82 = .ok (.aload_n 0, 1) := by decide +kernel
theorem dX12_part__83 : decode cX12_part_ 83 = .ok (.getfield 114, 3) := by decide +kernel
theorem dX12_part__86 : decode cX12_part_ 86 = .ok (.iload 4, 2) := by decide +kernel
theorem dX12_part__88 : decode cX12_part_ 88 = .ok (.ifCond .eq 7, 3) := by decide +kernel
theorem dX12_part__91 : decode cX12_part_ 91 = .ok (.iconst 1, 1) := by decide +kernel
theorem dX12_part__92 : decode cX12_part_ 92 = .ok (.goto 4, 3) := by decide +kernel
theorem dX12_part__95 : decode cX12_part_ 95 = .ok (.iconst 0, 1) := by decide +kernel
theorem dX12_part__96 : decode cX12_part_ 96 = .ok (.iastore, 1) := by decide +kernel
theorem dX12_part__97 : decode cX12_part_ 97 = .ok (.aload_n 0, 1) := by decide +kernel
theorem dX12_part__98 : decode cX12_part_ 98 = .ok (.dup, 1) := by decide +kernel
theorem dX12_part__99 : decode cX12_part_ 99 = .ok (.getfield 114, 3) := by decide +kernel
theorem dX12_part__102 : decode cX12_part_ 102 = .ok (.iconst 1, 1) := by decide +kernel
theorem dX12_part__103 : decode cX12_part_ 103 = .ok (.iadd, 1) := by decide +kernel
theorem dX12_part__104 : decode cX12_part_ 104 = .ok (.putfield 114, 3) := by decide +kernel
theorem dX12_part__107 : decode cX12_part_ 107 = .ok (.aload_n 0, 1) := by decide +kernel
theorem dX12_part__108 : decode cX12_part_ 108 = .ok (.getfield 114, 3) := by decide +kernel
theorem dX12_part__111 : decode cX12_part_ 111 = .ok (.iconst 1, 1) := by decide +kernel
theorem dX12_part__112 : decode cX12_part_ 112 = .ok (.isub, 1) := by decide +kernel
theorem dX12_part__113 : decode cX12_part_ 113 = .ok (.ireturn, 1) := by decide +kernel
def b_X12_part__96 (S : SH) (a0 : Nat) (t0 : Int32) (t1 : Int32) (t2 : Nat) (μ : Mem) : Option (Int32 × Mem) :=
 (sI S t2 t1 t0 μ).bind fun ν16 =>
 (gI S 12 a0 1 ν16).bind fun v17 =>
 (pI S 12 a0 1 (v17 + 1) ν16).bind fun ν18 =>
 (gI S 12 a0 1 ν18).bind fun v19 =>
 some (v19 - 1, ν18)
set_option maxRecDepth 100000 in
set_option maxHeartbeats 4000000 in
theorem s_X12_part__96 {γ : GE} {p : Program} {l : Launch} {e : Env} {s : State} {m : MethodId} {args : Array Value} {below : List Frame} {meth : Method} {c : Code} {S : SH} {X : (Int32 × Mem)} (F : FX γ p s m args meth c cX12_part_ RX12 5) (hr : meth.sig.returnType = (some .int)) (a0 : Nat)   (t0 : Int32) (t1 : Int32) (t2 : Nat) (μ : Mem) (h : b_X12_part__96 S a0 t0 t1 t2 μ = some X) : JJ γ p l e rm_X12_part_ s m args below meth c 5 0 0 (QI below γ S X args s 0 0) S μ 96 [(0, .ref (gb γ + a0))] [.int t0, .int t1, .ref (gb γ + t2)] := by
  unfold b_X12_part__96 at h
  refine j_iast F dX12_part__96 h (fun ν16 h => ?_)
  refine j_aload_n F 0 dX12_part__97 rfl ?_
  refine j_dup F dX12_part__98 rfl ?_
  refine j_gI F fl_RX12_114.l rfl dX12_part__99 h (fun v17 h => ?_)
  refine j_iconst F 1 dX12_part__102 (by decide) ?_
  refine j_iadd F dX12_part__103 ?_
  refine j_pI F fl_RX12_114 rfl dX12_part__104 h (fun ν18 h => ?_)
  refine j_aload_n F 0 dX12_part__107 rfl ?_
  refine j_gI F fl_RX12_114.l rfl dX12_part__108 h (fun v19 h => ?_)
  refine j_iconst F 1 dX12_part__111 (by decide) ?_
  refine j_isub F dX12_part__112 ?_
  exact j_iret F hr dX12_part__113 h
def f_X12_part_ (S : SH) (a0 : Nat) (a1 : Int32) (a2 : Int32) (a3 : Int32) (a4 : Int32) (μ : Mem) : Option (Int32 × Mem) :=
  if isO S 12 a0 = true then
  (f_X12_in S a1 1 999 μ).bind fun q1 =>
  (if q1.1 = 0 then
  some ((-2), q1.2)
  else
  (f_X12_in S a2 (-40) 40 q1.2).bind fun q2 =>
  (if q2.1 = 0 then
  some ((-2), q2.2)
  else
  (f_X12_in S a3 (-40) 40 q2.2).bind fun q3 =>
  (if q3.1 = 0 then
  some ((-2), q3.2)
  else
  (gI S 12 a0 1 q3.2).bind fun v4 =>
  (if v4 = 8 then
  some ((-4), q3.2)
  else
  (gR S 12 a0 2).bind fun v5 =>
  (gI S 12 a0 1 q3.2).bind fun v6 =>
  (sI S v5 v6 a1 q3.2).bind fun ν7 =>
  (gR S 12 a0 3).bind fun v8 =>
  (gI S 12 a0 1 ν7).bind fun v9 =>
  (sI S v8 v9 a2 ν7).bind fun ν10 =>
  (gR S 12 a0 4).bind fun v11 =>
  (gI S 12 a0 1 ν10).bind fun v12 =>
  (sI S v11 v12 a3 ν10).bind fun ν13 =>
  (gR S 12 a0 5).bind fun v14 =>
  (gI S 12 a0 1 ν13).bind fun v15 =>
  (if a4 = 0 then
  b_X12_part__96 S a0 0 v15 v14 ν13
  else
  b_X12_part__96 S a0 1 v15 v14 ν13)))))
  else none
set_option maxRecDepth 100000 in
set_option maxHeartbeats 4000000 in
theorem c_X12_part_ {l : Launch} {γ : GE} {S : SH} {a0 : Nat} {a1 : Int32} {a2 : Int32} {a3 : Int32} {a4 : Int32} {μ : Mem} {X : (Int32 × Mem)} (h : f_X12_part_ S a0 a1 a2 a3 a4 μ = some X) : isO S 12 a0 = true ∧ Ct l γ yX12_part_ cX12_part_ 5 (some .int) rm_X12_part_ [.ref (gb γ + a0), .int a1, .int a2, .int a3, .int a4] S μ S X.2 (some (.int X.1)) := by
  unfold f_X12_part_ at h
  obtain ⟨h0, h⟩ := if_some h
  refine ⟨h0, ?_⟩
  have hJ : ∀ (p : Program) (e : Env) (s : State) (m : MethodId) (args : Array Value) (below : List Frame) (meth : Method) (c : Code), FX γ p s m args meth c cX12_part_ RX12 5 → meth.sig.returnType = (some .int) → JJ γ p l e rm_X12_part_ s m args below meth c 5 0 0 (QI below γ S X args s 0 0) S μ 0 [(0, .ref (gb γ + a0)), (1, .int a1), (2, .int a2), (3, .int a3), (4, .int a4)] [] := by
    intro p e s m args below meth c F hr
    refine j_iload_n F 1 dX12_part__0 rfl ?_
    refine j_iconst F 1 dX12_part__1 (by decide) ?_
    refine j_sipush F 999 dX12_part__2 (by decide) ?_
    refine j_cSI F mi_X12_in w_1104 (rest := []) h (fun _ g => c_X12_in g) rfl rfl (Nat.le_of_ble_eq_true rfl) ⟨Nat.le_of_ble_eq_true rfl, Nat.le_of_ble_eq_true rfl⟩ ⟨Nat.le_of_ble_eq_true rfl, Nat.le_of_ble_eq_true rfl⟩ dX12_part__5 (fun q1 h => ?_)
    refine j_ifeq F 33 dX12_part__8 (by decide) h (fun _ h => ?_) (fun _ h => ?_)
    · refine j_bipush F (-2) dX12_part__33 (by decide) ?_
      exact j_iret F hr dX12_part__35 h
    · refine j_iload_n F 2 dX12_part__11 rfl ?_
      refine j_bipush F (-40) dX12_part__12 (by decide) ?_
      refine j_bipush F 40 dX12_part__14 (by decide) ?_
      refine j_cSI F mi_X12_in w_1104 (rest := []) h (fun _ g => c_X12_in g) rfl rfl (Nat.le_of_ble_eq_true rfl) ⟨Nat.le_of_ble_eq_true rfl, Nat.le_of_ble_eq_true rfl⟩ ⟨Nat.le_of_ble_eq_true rfl, Nat.le_of_ble_eq_true rfl⟩ dX12_part__16 (fun q2 h => ?_)
      refine j_ifeq F 33 dX12_part__19 (by decide) h (fun _ h => ?_) (fun _ h => ?_)
      · refine j_bipush F (-2) dX12_part__33 (by decide) ?_
        exact j_iret F hr dX12_part__35 h
      · refine j_iload_n F 3 dX12_part__22 rfl ?_
        refine j_bipush F (-40) dX12_part__23 (by decide) ?_
        refine j_bipush F 40 dX12_part__25 (by decide) ?_
        refine j_cSI F mi_X12_in w_1104 (rest := []) h (fun _ g => c_X12_in g) rfl rfl (Nat.le_of_ble_eq_true rfl) ⟨Nat.le_of_ble_eq_true rfl, Nat.le_of_ble_eq_true rfl⟩ ⟨Nat.le_of_ble_eq_true rfl, Nat.le_of_ble_eq_true rfl⟩ dX12_part__27 (fun q3 h => ?_)
        refine j_ifne F 36 dX12_part__30 (by decide) h (fun _ h => ?_) (fun _ h => ?_)
        · refine j_aload_n F 0 dX12_part__36 rfl ?_
          refine j_gI F fl_RX12_114.l rfl dX12_part__37 h (fun v4 h => ?_)
          refine j_bipush F 8 dX12_part__40 (by decide) ?_
          refine j_icmpne F 48 dX12_part__42 (by decide) h (fun _ h => ?_) (fun _ h => ?_)
          · refine j_aload_n F 0 dX12_part__48 rfl ?_
            refine j_gR F fl_RX12_15 rfl dX12_part__49 h (fun v5 h => ?_)
            refine j_aload_n F 0 dX12_part__52 rfl ?_
            refine j_gI F fl_RX12_114.l rfl dX12_part__53 h (fun v6 h => ?_)
            refine j_iload_n F 1 dX12_part__56 rfl ?_
            refine j_iast F dX12_part__57 h (fun ν7 h => ?_)
            refine j_aload_n F 0 dX12_part__58 rfl ?_
            refine j_gR F fl_RX12_18 rfl dX12_part__59 h (fun v8 h => ?_)
            refine j_aload_n F 0 dX12_part__62 rfl ?_
            refine j_gI F fl_RX12_114.l rfl dX12_part__63 h (fun v9 h => ?_)
            refine j_iload_n F 2 dX12_part__66 rfl ?_
            refine j_iast F dX12_part__67 h (fun ν10 h => ?_)
            refine j_aload_n F 0 dX12_part__68 rfl ?_
            refine j_gR F fl_RX12_21 rfl dX12_part__69 h (fun v11 h => ?_)
            refine j_aload_n F 0 dX12_part__72 rfl ?_
            refine j_gI F fl_RX12_114.l rfl dX12_part__73 h (fun v12 h => ?_)
            refine j_iload_n F 3 dX12_part__76 rfl ?_
            refine j_iast F dX12_part__77 h (fun ν13 h => ?_)
            refine j_aload_n F 0 dX12_part__78 rfl ?_
            refine j_gR F fl_RX12_24 rfl dX12_part__79 h (fun v14 h => ?_)
            refine j_aload_n F 0 dX12_part__82 rfl ?_
            refine j_gI F fl_RX12_114.l rfl dX12_part__83 h (fun v15 h => ?_)
            refine j_iload F 4 dX12_part__86 rfl ?_
            refine j_ifeq F 95 dX12_part__88 (by decide) h (fun _ h => ?_) (fun _ h => ?_)
            · refine j_iconst F 0 dX12_part__95 (by decide) ?_
              refine j_lv [(0, .ref (gb γ + a0))] [0] rfl ?_
              exact s_X12_part__96 F hr _ _ _ _ _ h
            · refine j_iconst F 1 dX12_part__91 (by decide) ?_
              refine j_goto F 96 dX12_part__92 (by decide) ?_
              refine j_lv [(0, .ref (gb γ + a0))] [0] rfl ?_
              exact s_X12_part__96 F hr _ _ _ _ _ h
          · refine j_bipush F (-4) dX12_part__45 (by decide) ?_
            exact j_iret F hr dX12_part__47 h
        · refine j_bipush F (-2) dX12_part__33 (by decide) ?_
          exact j_iret F hr dX12_part__35 h
  exact ct_of (by decide +kernel) (Nat.le_of_ble_eq_true rfl) (fun p e s m args below meth c F hr _ => hJ p e s m args below meth c F hr)
def rm_X12_isPartOf : Room := { frames := 1, cells := 0, slots := 0, locals := 22 }
theorem dX12_isPartOf_0 : decode cX12_isPartOf 0 = .ok (.iload_n 1, 1) := by decide +kernel
theorem dX12_isPartOf_1 : decode cX12_isPartOf 1 = .ok (.iconst 0, 1) := by decide +kernel
theorem dX12_isPartOf_2 : decode cX12_isPartOf 2 = .ok (.aload_n 0, 1) := by decide +kernel
theorem dX12_isPartOf_3 : decode cX12_isPartOf 3 = .ok (.getfield 114, 3) := by decide +kernel
theorem dX12_isPartOf_6 : decode cX12_isPartOf 6 = .ok (.iconst 1, 1) := by decide +kernel
theorem dX12_isPartOf_7 : decode cX12_isPartOf 7 = .ok (.isub, 1) := by decide +kernel
theorem dX12_isPartOf_8 : decode cX12_isPartOf 8 = .ok (.invokestatic 95, 3) := by decide +kernel
theorem dX12_isPartOf_11 : decode cX12_isPartOf 11 = .ok (.ireturn, 1) := by decide +kernel
def f_X12_isPartOf (S : SH) (a0 : Nat) (a1 : Int32) (μ : Mem) : Option (Int32 × Mem) :=
  if isO S 12 a0 = true then
  (gI S 12 a0 1 μ).bind fun v1 =>
  (f_X12_in S a1 0 (v1 - 1) μ).bind fun q2 =>
  (oz q2.1).bind fun z3 => some (z3, q2.2)
  else none
set_option maxRecDepth 100000 in
set_option maxHeartbeats 4000000 in
theorem c_X12_isPartOf {l : Launch} {γ : GE} {S : SH} {a0 : Nat} {a1 : Int32} {μ : Mem} {X : (Int32 × Mem)} (h : f_X12_isPartOf S a0 a1 μ = some X) : isO S 12 a0 = true ∧ Ct l γ yX12_isPartOf cX12_isPartOf 2 (some .boolean) rm_X12_isPartOf [.ref (gb γ + a0), .int a1] S μ S X.2 (some (.int X.1)) := by
  unfold f_X12_isPartOf at h
  obtain ⟨h0, h⟩ := if_some h
  refine ⟨h0, ?_⟩
  have hJ : ∀ (p : Program) (e : Env) (s : State) (m : MethodId) (args : Array Value) (below : List Frame) (meth : Method) (c : Code), FX γ p s m args meth c cX12_isPartOf RX12 2 → meth.sig.returnType = (some .boolean) → JJ γ p l e rm_X12_isPartOf s m args below meth c 2 0 0 (QI below γ S X args s 0 0) S μ 0 [(0, .ref (gb γ + a0)), (1, .int a1)] [] := by
    intro p e s m args below meth c F hr
    refine j_iload_n F 1 dX12_isPartOf_0 rfl ?_
    refine j_iconst F 0 dX12_isPartOf_1 (by decide) ?_
    refine j_aload_n F 0 dX12_isPartOf_2 rfl ?_
    refine j_gI F fl_RX12_114.l rfl dX12_isPartOf_3 h (fun v1 h => ?_)
    refine j_iconst F 1 dX12_isPartOf_6 (by decide) ?_
    refine j_isub F dX12_isPartOf_7 ?_
    refine j_cSI F mi_X12_in w_1104 (rest := []) h (fun _ g => c_X12_in g) rfl rfl (Nat.le_of_ble_eq_true rfl) ⟨Nat.le_of_ble_eq_true rfl, Nat.le_of_ble_eq_true rfl⟩ ⟨Nat.le_of_ble_eq_true rfl, Nat.le_of_ble_eq_true rfl⟩ dX12_isPartOf_8 (fun q2 h => ?_)
    exact j_zretG F hr dX12_isPartOf_11 h
  exact ct_of (by decide +kernel) (Nat.le_of_ble_eq_true rfl) (fun p e s m args below meth c F hr _ => hJ p e s m args below meth c F hr)
def rm_X12_mass : Room := { frames := 2, cells := 0, slots := 0, locals := 43 }
theorem dX12_mass_0 : decode cX12_mass 0 = .ok (.aload_n 0, 1) := by decide +kernel
theorem dX12_mass_1 : decode cX12_mass 1 = .ok (.iload_n 1, 1) := by decide +kernel
theorem dX12_mass_2 : decode cX12_mass 2 = .ok (.invokevirtual 118, 3) := by decide +kernel
theorem dX12_mass_5 : decode cX12_mass 5 = .ok (.ifCond .ne 5, 3) := by decide +kernel
theorem dX12_mass_8 : decode cX12_mass 8 = .ok (.iconst (-1), 1) := by decide +kernel
theorem dX12_mass_9 : decode cX12_mass 9 = .ok (.ireturn, 1) := by decide +kernel
theorem dX12_mass_10 : decode cX12_mass 10 = .ok (.iload_n 2, 1) := by decide +kernel
theorem dX12_mass_11 : decode cX12_mass 11 = .ok (.iconst 1, 1) := by decide +kernel
theorem dX12_mass_12 : decode cX12_mass 12 = .ok (.sipush 999, 3) := by decide +kernel
theorem dX12_mass_15 : decode cX12_mass 15 = .ok (.invokestatic 95, 3) := by decide +kernel
theorem dX12_mass_18 : decode cX12_mass 18 = .ok (.ifCond .ne 6, 3) := by decide +kernel
theorem dX12_mass_21 : decode cX12_mass 21 = .ok (.bipush (-2), 2) := by decide +kernel
theorem dX12_mass_23 : decode cX12_mass 23 = .ok (.ireturn, 1) := by decide +kernel
theorem dX12_mass_24 : decode cX12_mass 24 = .ok (.aload_n 0, 1) := by decide +kernel
theorem dX12_mass_25 : decode cX12_mass 25 = .ok (.getfield 15, 3) := by decide +kernel
theorem dX12_mass_28 : decode cX12_mass 28 = .ok (.iload_n 1, 1) := by decide +kernel
theorem dX12_mass_29 : decode cX12_mass 29 = .ok (.iaload, 1) := by decide +kernel
theorem dX12_mass_30 : decode cX12_mass 30 = .ok (.istore_n 3, 1) := by decide +kernel
theorem dX12_mass_31 : decode cX12_mass 31 = .ok (.aload_n 0, 1) := by decide +kernel
theorem dX12_mass_32 : decode cX12_mass 32 = .ok (.getfield 15, 3) := by decide +kernel
theorem dX12_mass_35 : decode cX12_mass 35 = .ok (.iload_n 1, 1) := by decide +kernel
theorem dX12_mass_36 : decode cX12_mass 36 = .ok (.iload_n 2, 1) := by decide +kernel
theorem dX12_mass_37 : decode cX12_mass 37 = .ok (.iastore, 1) := by decide +kernel
theorem dX12_mass_38 : decode cX12_mass 38 = .ok (.iload_n 3, 1) := by decide +kernel
theorem dX12_mass_39 : decode cX12_mass 39 = .ok (.ireturn, 1) := by decide +kernel
def f_X12_mass (S : SH) (a0 : Nat) (a1 : Int32) (a2 : Int32) (μ : Mem) : Option (Int32 × Mem) :=
  if isO S 12 a0 = true then
  (f_X12_isPartOf S a0 a1 μ).bind fun q1 =>
  (if q1.1 = 0 then
  some ((-1), q1.2)
  else
  (f_X12_in S a2 1 999 q1.2).bind fun q2 =>
  (if q2.1 = 0 then
  some ((-2), q2.2)
  else
  (gR S 12 a0 2).bind fun v3 =>
  (aI S .int v3 a1 q2.2).bind fun v4 =>
  (gR S 12 a0 2).bind fun v5 =>
  (sI S v5 a1 a2 q2.2).bind fun ν6 =>
  some (v4, ν6)))
  else none
set_option maxRecDepth 100000 in
set_option maxHeartbeats 4000000 in
theorem c_X12_mass {l : Launch} {γ : GE} {S : SH} {a0 : Nat} {a1 : Int32} {a2 : Int32} {μ : Mem} {X : (Int32 × Mem)} (h : f_X12_mass S a0 a1 a2 μ = some X) : isO S 12 a0 = true ∧ Ct l γ yX12_mass cX12_mass 4 (some .int) rm_X12_mass [.ref (gb γ + a0), .int a1, .int a2] S μ S X.2 (some (.int X.1)) := by
  unfold f_X12_mass at h
  obtain ⟨h0, h⟩ := if_some h
  refine ⟨h0, ?_⟩
  have hJ : ∀ (p : Program) (e : Env) (s : State) (m : MethodId) (args : Array Value) (below : List Frame) (meth : Method) (c : Code), FX γ p s m args meth c cX12_mass RX12 4 → meth.sig.returnType = (some .int) → JJ γ p l e rm_X12_mass s m args below meth c 4 0 0 (QI below γ S X args s 0 0) S μ 0 [(0, .ref (gb γ + a0)), (1, .int a1), (2, .int a2)] [] := by
    intro p e s m args below meth c F hr
    refine j_aload_n F 0 dX12_mass_0 rfl ?_
    refine j_iload_n F 1 dX12_mass_1 rfl ?_
    refine j_cVI F mi_X12_isPartOf w_1127 (rest := []) h (fun _ g => c_X12_isPartOf g) rfl rfl (Nat.le_of_ble_eq_true rfl) ⟨Nat.le_of_ble_eq_true rfl, Nat.le_of_ble_eq_true rfl⟩ ⟨Nat.le_of_ble_eq_true rfl, Nat.le_of_ble_eq_true rfl⟩ dX12_mass_2 (fun q1 h => ?_)
    refine j_ifne F 10 dX12_mass_5 (by decide) h (fun _ h => ?_) (fun _ h => ?_)
    · refine j_iload_n F 2 dX12_mass_10 rfl ?_
      refine j_iconst F 1 dX12_mass_11 (by decide) ?_
      refine j_sipush F 999 dX12_mass_12 (by decide) ?_
      refine j_cSI F mi_X12_in w_1104 (rest := []) h (fun _ g => c_X12_in g) rfl rfl (Nat.le_of_ble_eq_true rfl) ⟨Nat.le_of_ble_eq_true rfl, Nat.le_of_ble_eq_true rfl⟩ ⟨Nat.le_of_ble_eq_true rfl, Nat.le_of_ble_eq_true rfl⟩ dX12_mass_15 (fun q2 h => ?_)
      refine j_ifne F 24 dX12_mass_18 (by decide) h (fun _ h => ?_) (fun _ h => ?_)
      · refine j_aload_n F 0 dX12_mass_24 rfl ?_
        refine j_gR F fl_RX12_15 rfl dX12_mass_25 h (fun v3 h => ?_)
        refine j_iload_n F 1 dX12_mass_28 rfl ?_
        refine j_iald F dX12_mass_29 h (fun v4 h => ?_)
        refine j_istore_n F [(3, .int v4), (0, .ref (gb γ + a0)), (1, .int a1), (2, .int a2)] dX12_mass_30 rfl (by decide) rfl ?_
        refine j_aload_n F 1 dX12_mass_31 rfl ?_
        refine j_gR F fl_RX12_15 rfl dX12_mass_32 h (fun v5 h => ?_)
        refine j_iload_n F 2 dX12_mass_35 rfl ?_
        refine j_iload_n F 3 dX12_mass_36 rfl ?_
        refine j_iast F dX12_mass_37 h (fun ν6 h => ?_)
        refine j_iload_n F 0 dX12_mass_38 rfl ?_
        exact j_iret F hr dX12_mass_39 h
      · refine j_bipush F (-2) dX12_mass_21 (by decide) ?_
        exact j_iret F hr dX12_mass_23 h
    · refine j_iconst F (-1) dX12_mass_8 (by decide) ?_
      exact j_iret F hr dX12_mass_9 h
  exact ct_of (by decide +kernel) (Nat.le_of_ble_eq_true rfl) (fun p e s m args below meth c F hr _ => hJ p e s m args below meth c F hr)
def rm_X12_isWhat : Room := { frames := 1, cells := 0, slots := 0, locals := 22 }
theorem dX12_isWhat_0 : decode cX12_isWhat 0 = .ok (.iload_n 0, 1) := by decide +kernel
theorem dX12_isWhat_1 : decode cX12_isWhat 1 = .ok (.iconst 0, 1) := by decide +kernel
theorem dX12_isWhat_2 : decode cX12_isWhat 2 = .ok (.bipush 7, 2) := by decide +kernel
theorem dX12_isWhat_4 : decode cX12_isWhat 4 = .ok (.invokestatic 95, 3) := by decide +kernel
theorem dX12_isWhat_7 : decode cX12_isWhat 7 = .ok (.ifCond .ne 14, 3) := by decide +kernel
theorem dX12_isWhat_10 : decode cX12_isWhat 10 = .ok (.iload_n 0, 1) := by decide +kernel
theorem dX12_isWhat_11 : decode cX12_isWhat 11 = .ok (.bipush 10, 2) := by decide +kernel
theorem dX12_isWhat_13 : decode cX12_isWhat 13 = .ok (.bipush 13, 2) := by decide +kernel
theorem dX12_isWhat_15 : decode cX12_isWhat 15 = .ok (.invokestatic 95, 3) := by decide +kernel
theorem dX12_isWhat_18 : decode cX12_isWhat 18 = .ok (.ifCond .eq 7, 3) := by decide +kernel
theorem dX12_isWhat_21 : decode cX12_isWhat 21 = .ok (.iconst 1, 1) := by decide +kernel
theorem dX12_isWhat_22 : decode cX12_isWhat 22 = .ok (.goto 4, 3) := by decide +kernel
theorem dX12_isWhat_25 : decode cX12_isWhat 25 = .ok (.iconst 0, 1) := by decide +kernel
theorem dX12_isWhat_26 : decode cX12_isWhat 26 = .ok (.ireturn, 1) := by decide +kernel
def f_X12_isWhat (S : SH) (a0 : Int32) (μ : Mem) : Option (Int32 × Mem) :=
  (f_X12_in S a0 0 7 μ).bind fun q1 =>
  (if q1.1 = 0 then
  (f_X12_in S a0 10 13 q1.2).bind fun q2 =>
  (if q2.1 = 0 then
  some (0, q2.2)
  else
  some (1, q2.2))
  else
  some (1, q1.2))
set_option maxRecDepth 100000 in
set_option maxHeartbeats 4000000 in
theorem c_X12_isWhat {l : Launch} {γ : GE} {S : SH} {a0 : Int32} {μ : Mem} {X : (Int32 × Mem)} (h : f_X12_isWhat S a0 μ = some X) : Ct l γ yX12_isWhat cX12_isWhat 1 (some .boolean) rm_X12_isWhat [.int a0] S μ S X.2 (some (.int X.1)) := by
  unfold f_X12_isWhat at h
  have hJ : ∀ (p : Program) (e : Env) (s : State) (m : MethodId) (args : Array Value) (below : List Frame) (meth : Method) (c : Code), FX γ p s m args meth c cX12_isWhat RX12 1 → meth.sig.returnType = (some .boolean) → JJ γ p l e rm_X12_isWhat s m args below meth c 1 0 0 (QI below γ S X args s 0 0) S μ 0 [(0, .int a0)] [] := by
    intro p e s m args below meth c F hr
    refine j_iload_n F 0 dX12_isWhat_0 rfl ?_
    refine j_iconst F 0 dX12_isWhat_1 (by decide) ?_
    refine j_bipush F 7 dX12_isWhat_2 (by decide) ?_
    refine j_cSI F mi_X12_in w_1104 (rest := []) h (fun _ g => c_X12_in g) rfl rfl (Nat.le_of_ble_eq_true rfl) ⟨Nat.le_of_ble_eq_true rfl, Nat.le_of_ble_eq_true rfl⟩ ⟨Nat.le_of_ble_eq_true rfl, Nat.le_of_ble_eq_true rfl⟩ dX12_isWhat_4 (fun q1 h => ?_)
    refine j_ifne F 21 dX12_isWhat_7 (by decide) h (fun _ h => ?_) (fun _ h => ?_)
    · refine j_iconst F 1 dX12_isWhat_21 (by decide) ?_
      refine j_goto F 26 dX12_isWhat_22 (by decide) ?_
      exact j_zret F hr (Or.inr rfl) dX12_isWhat_26 h
    · refine j_iload_n F 0 dX12_isWhat_10 rfl ?_
      refine j_bipush F 10 dX12_isWhat_11 (by decide) ?_
      refine j_bipush F 13 dX12_isWhat_13 (by decide) ?_
      refine j_cSI F mi_X12_in w_1104 (rest := []) h (fun _ g => c_X12_in g) rfl rfl (Nat.le_of_ble_eq_true rfl) ⟨Nat.le_of_ble_eq_true rfl, Nat.le_of_ble_eq_true rfl⟩ ⟨Nat.le_of_ble_eq_true rfl, Nat.le_of_ble_eq_true rfl⟩ dX12_isWhat_15 (fun q2 h => ?_)
      refine j_ifeq F 25 dX12_isWhat_18 (by decide) h (fun _ h => ?_) (fun _ h => ?_)
      · refine j_iconst F 0 dX12_isWhat_25 (by decide) ?_
        exact j_zret F hr (Or.inl rfl) dX12_isWhat_26 h
      · refine j_iconst F 1 dX12_isWhat_21 (by decide) ?_
        refine j_goto F 26 dX12_isWhat_22 (by decide) ?_
        exact j_zret F hr (Or.inr rfl) dX12_isWhat_26 h
  exact ct_of (by decide +kernel) (Nat.le_of_ble_eq_true rfl) (fun p e s m args below meth c F hr _ => hJ p e s m args below meth c F hr)
def rm_X12_most : Room := { frames := 0, cells := 0, slots := 0, locals := 0 }
theorem dX12_most_0 : decode cX12_most 0 = .ok (.iload_n 0, 1) := by decide +kernel
theorem dX12_most_1 : decode cX12_most 1 = .ok (.tableswitch 66 0 7 #[47, 50, 53, 57, 53, 61, 63, 61], 47) := by decide +kernel
theorem dX12_most_48 : decode cX12_most 48 = .ok (.bipush 19, 2) := by decide +kernel
theorem dX12_most_50 : decode cX12_most 50 = .ok (.ireturn, 1) := by decide +kernel
theorem dX12_most_51 : decode cX12_most 51 = .ok (.bipush 60, 2) := by decide +kernel
theorem dX12_most_53 : decode cX12_most 53 = .ok (.ireturn, 1) := by decide +kernel
theorem dX12_most_54 : decode cX12_most 54 = .ok (.sipush 999, 3) := by decide +kernel
theorem dX12_most_57 : decode cX12_most 57 = .ok (.ireturn, 1) := by decide +kernel
theorem dX12_most_58 : decode cX12_most 58 = .ok (.sipush 9999, 3) := by decide +kernel
theorem dX12_most_61 : decode cX12_most 61 = .ok (.ireturn, 1) := by decide +kernel
theorem dX12_most_62 : decode cX12_most 62 = .ok (.iconst 2, 1) := by decide +kernel
theorem dX12_most_63 : decode cX12_most 63 = .ok (.ireturn, 1) := by decide +kernel
theorem dX12_most_64 : decode cX12_most 64 = .ok (.bipush 9, 2) := by decide +kernel
theorem dX12_most_66 : decode cX12_most 66 = .ok (.ireturn, 1) := by decide +kernel
theorem dX12_most_67 : decode cX12_most 67 = .ok (.bipush 100, 2) := by decide +kernel
theorem dX12_most_69 : decode cX12_most 69 = .ok (.ireturn, 1) := by decide +kernel
def f_X12_most (S : SH) (a0 : Int32) (μ : Mem) : Option (Int32 × Mem) :=
  (if a0 = 0 then
  some (19, μ)
  else if a0 = 1 then
  some (60, μ)
  else if a0 = 2 then
  some (999, μ)
  else if a0 = 3 then
  some (9999, μ)
  else if a0 = 4 then
  some (999, μ)
  else if a0 = 5 then
  some (2, μ)
  else if a0 = 6 then
  some (9, μ)
  else if a0 = 7 then
  some (2, μ)
  else 
  some (100, μ))
set_option maxRecDepth 100000 in
set_option maxHeartbeats 4000000 in
theorem c_X12_most {l : Launch} {γ : GE} {S : SH} {a0 : Int32} {μ : Mem} {X : (Int32 × Mem)} (h : f_X12_most S a0 μ = some X) : Ct l γ yX12_most cX12_most 1 (some .int) rm_X12_most [.int a0] S μ S X.2 (some (.int X.1)) := by
  unfold f_X12_most at h
  have hJ : ∀ (p : Program) (e : Env) (s : State) (m : MethodId) (args : Array Value) (below : List Frame) (meth : Method) (c : Code), FX γ p s m args meth c cX12_most RX12 1 → meth.sig.returnType = (some .int) → JJ γ p l e rm_X12_most s m args below meth c 1 0 0 (QI below γ S X args s 0 0) S μ 0 [(0, .int a0)] [] := by
    intro p e s m args below meth c F hr
    refine j_iload_n F 0 dX12_most_0 rfl ?_
    by_cases e0 : a0 = 0
    · rw [if_pos e0] at h
      refine j_tin F (off := 47) 48 dX12_most_1 (by rw [e0]; decide) (by rw [e0]; decide) (by rw [e0]; rfl) (by decide) ?_
      refine j_bipush F 19 dX12_most_48 (by decide) ?_
      exact j_iret F hr dX12_most_50 h
    rw [if_neg e0] at h
    by_cases e1 : a0 = 1
    · rw [if_pos e1] at h
      refine j_tin F (off := 50) 51 dX12_most_1 (by rw [e1]; decide) (by rw [e1]; decide) (by rw [e1]; rfl) (by decide) ?_
      refine j_bipush F 60 dX12_most_51 (by decide) ?_
      exact j_iret F hr dX12_most_53 h
    rw [if_neg e1] at h
    by_cases e2 : a0 = 2
    · rw [if_pos e2] at h
      refine j_tin F (off := 53) 54 dX12_most_1 (by rw [e2]; decide) (by rw [e2]; decide) (by rw [e2]; rfl) (by decide) ?_
      refine j_sipush F 999 dX12_most_54 (by decide) ?_
      exact j_iret F hr dX12_most_57 h
    rw [if_neg e2] at h
    by_cases e3 : a0 = 3
    · rw [if_pos e3] at h
      refine j_tin F (off := 57) 58 dX12_most_1 (by rw [e3]; decide) (by rw [e3]; decide) (by rw [e3]; rfl) (by decide) ?_
      refine j_sipush F 9999 dX12_most_58 (by decide) ?_
      exact j_iret F hr dX12_most_61 h
    rw [if_neg e3] at h
    by_cases e4 : a0 = 4
    · rw [if_pos e4] at h
      refine j_tin F (off := 53) 54 dX12_most_1 (by rw [e4]; decide) (by rw [e4]; decide) (by rw [e4]; rfl) (by decide) ?_
      refine j_sipush F 999 dX12_most_54 (by decide) ?_
      exact j_iret F hr dX12_most_57 h
    rw [if_neg e4] at h
    by_cases e5 : a0 = 5
    · rw [if_pos e5] at h
      refine j_tin F (off := 61) 62 dX12_most_1 (by rw [e5]; decide) (by rw [e5]; decide) (by rw [e5]; rfl) (by decide) ?_
      refine j_iconst F 2 dX12_most_62 (by decide) ?_
      exact j_iret F hr dX12_most_63 h
    rw [if_neg e5] at h
    by_cases e6 : a0 = 6
    · rw [if_pos e6] at h
      refine j_tin F (off := 63) 64 dX12_most_1 (by rw [e6]; decide) (by rw [e6]; decide) (by rw [e6]; rfl) (by decide) ?_
      refine j_bipush F 9 dX12_most_64 (by decide) ?_
      exact j_iret F hr dX12_most_66 h
    rw [if_neg e6] at h
    by_cases e7 : a0 = 7
    · rw [if_pos e7] at h
      refine j_tin F (off := 61) 62 dX12_most_1 (by rw [e7]; decide) (by rw [e7]; decide) (by rw [e7]; rfl) (by decide) ?_
      refine j_iconst F 2 dX12_most_62 (by decide) ?_
      exact j_iret F hr dX12_most_63 h
    rw [if_neg e7] at h
    have g0 : (a0).toInt ≠ (0 : Int) := fun q => e0 (Int32.toInt_inj.mp (q.trans (by decide)))
    have g1 : (a0).toInt ≠ (1 : Int) := fun q => e1 (Int32.toInt_inj.mp (q.trans (by decide)))
    have g2 : (a0).toInt ≠ (2 : Int) := fun q => e2 (Int32.toInt_inj.mp (q.trans (by decide)))
    have g3 : (a0).toInt ≠ (3 : Int) := fun q => e3 (Int32.toInt_inj.mp (q.trans (by decide)))
    have g4 : (a0).toInt ≠ (4 : Int) := fun q => e4 (Int32.toInt_inj.mp (q.trans (by decide)))
    have g5 : (a0).toInt ≠ (5 : Int) := fun q => e5 (Int32.toInt_inj.mp (q.trans (by decide)))
    have g6 : (a0).toInt ≠ (6 : Int) := fun q => e6 (Int32.toInt_inj.mp (q.trans (by decide)))
    have g7 : (a0).toInt ≠ (7 : Int) := fun q => e7 (Int32.toInt_inj.mp (q.trans (by decide)))
    refine j_tout F 67 dX12_most_1 (by omega) (by decide) ?_
    refine j_bipush F 100 dX12_most_67 (by decide) ?_
    exact j_iret F hr dX12_most_69 h
  exact ct_of (by decide +kernel) (Nat.le_of_ble_eq_true rfl) (fun p e s m args below meth c F hr _ => hJ p e s m args below meth c F hr)
def rm_X12_isFor : Room := { frames := 1, cells := 0, slots := 0, locals := 22 }
theorem dX12_isFor_0 : decode cX12_isFor 0 = .ok (.iload_n 1, 1) := by decide +kernel
theorem dX12_isFor_1 : decode cX12_isFor 1 = .ok (.iload_n 0, 1) := by decide +kernel
theorem dX12_isFor_2 : decode cX12_isFor 2 = .ok (.iconst 4, 1) := by decide +kernel
theorem dX12_isFor_3 : decode cX12_isFor 3 = .ok (.if_icmp .ne 7, 3) := by decide +kernel
theorem dX12_isFor_6 : decode cX12_isFor 6 = .ok (.iconst 1, 1) := by decide +kernel
theorem dX12_isFor_7 : decode cX12_isFor 7 = .ok (.goto 4, 3) := by decide +kernel
theorem dX12_isFor_10 : decode cX12_isFor 10 = .ok (.iconst 0, 1) := by decide +kernel
theorem dX12_isFor_11 : decode cX12_isFor 11 = .ok (.iload_n 0, 1) := by decide +kernel
theorem dX12_isFor_12 : decode cX12_isFor 12 = .ok (.invokestatic 121, 3) := by decide +kernel
theorem dX12_isFor_15 : decode cX12_isFor 15 = .ok (.invokestatic 95, 3) := by decide +kernel
theorem dX12_isFor_18 : decode cX12_isFor 18 = .ok (.ireturn, 1) := by decide +kernel
def f_X12_isFor (S : SH) (a0 : Int32) (a1 : Int32) (μ : Mem) : Option (Int32 × Mem) :=
  (if a0 = 4 then
  (f_X12_most S a0 μ).bind fun q4 =>
  (f_X12_in S a1 1 q4.1 q4.2).bind fun q5 =>
  (oz q5.1).bind fun z6 => some (z6, q5.2)
  else
  (f_X12_most S a0 μ).bind fun q1 =>
  (f_X12_in S a1 0 q1.1 q1.2).bind fun q2 =>
  (oz q2.1).bind fun z3 => some (z3, q2.2))
set_option maxRecDepth 100000 in
set_option maxHeartbeats 4000000 in
theorem c_X12_isFor {l : Launch} {γ : GE} {S : SH} {a0 : Int32} {a1 : Int32} {μ : Mem} {X : (Int32 × Mem)} (h : f_X12_isFor S a0 a1 μ = some X) : Ct l γ yX12_isFor cX12_isFor 2 (some .boolean) rm_X12_isFor [.int a0, .int a1] S μ S X.2 (some (.int X.1)) := by
  unfold f_X12_isFor at h
  have hJ : ∀ (p : Program) (e : Env) (s : State) (m : MethodId) (args : Array Value) (below : List Frame) (meth : Method) (c : Code), FX γ p s m args meth c cX12_isFor RX12 2 → meth.sig.returnType = (some .boolean) → JJ γ p l e rm_X12_isFor s m args below meth c 2 0 0 (QI below γ S X args s 0 0) S μ 0 [(0, .int a0), (1, .int a1)] [] := by
    intro p e s m args below meth c F hr
    refine j_iload_n F 1 dX12_isFor_0 rfl ?_
    refine j_iload_n F 0 dX12_isFor_1 rfl ?_
    refine j_iconst F 4 dX12_isFor_2 (by decide) ?_
    refine j_icmpne F 10 dX12_isFor_3 (by decide) h (fun _ h => ?_) (fun _ h => ?_)
    · refine j_iconst F 0 dX12_isFor_10 (by decide) ?_
      refine j_iload_n F 0 dX12_isFor_11 rfl ?_
      refine j_cSI F mi_X12_most w_1141 (rest := [.int 0, .int a1]) h (fun _ g => c_X12_most g) rfl rfl (Nat.le_of_ble_eq_true rfl) ⟨Nat.le_of_ble_eq_true rfl, Nat.le_of_ble_eq_true rfl⟩ ⟨Nat.le_of_ble_eq_true rfl, Nat.le_of_ble_eq_true rfl⟩ dX12_isFor_12 (fun q1 h => ?_)
      refine j_cSI F mi_X12_in w_1104 (rest := []) h (fun _ g => c_X12_in g) rfl rfl (Nat.le_of_ble_eq_true rfl) ⟨Nat.le_of_ble_eq_true rfl, Nat.le_of_ble_eq_true rfl⟩ ⟨Nat.le_of_ble_eq_true rfl, Nat.le_of_ble_eq_true rfl⟩ dX12_isFor_15 (fun q2 h => ?_)
      exact j_zretG F hr dX12_isFor_18 h
    · refine j_iconst F 1 dX12_isFor_6 (by decide) ?_
      refine j_goto F 11 dX12_isFor_7 (by decide) ?_
      refine j_iload_n F 0 dX12_isFor_11 rfl ?_
      refine j_cSI F mi_X12_most w_1141 (rest := [.int 1, .int a1]) h (fun _ g => c_X12_most g) rfl rfl (Nat.le_of_ble_eq_true rfl) ⟨Nat.le_of_ble_eq_true rfl, Nat.le_of_ble_eq_true rfl⟩ ⟨Nat.le_of_ble_eq_true rfl, Nat.le_of_ble_eq_true rfl⟩ dX12_isFor_12 (fun q4 h => ?_)
      refine j_cSI F mi_X12_in w_1104 (rest := []) h (fun _ g => c_X12_in g) rfl rfl (Nat.le_of_ble_eq_true rfl) ⟨Nat.le_of_ble_eq_true rfl, Nat.le_of_ble_eq_true rfl⟩ ⟨Nat.le_of_ble_eq_true rfl, Nat.le_of_ble_eq_true rfl⟩ dX12_isFor_15 (fun q5 h => ?_)
      exact j_zretG F hr dX12_isFor_18 h
  exact ct_of (by decide +kernel) (Nat.le_of_ble_eq_true rfl) (fun p e s m args below meth c F hr _ => hJ p e s m args below meth c F hr)
def rm_X12_put : Room := { frames := 2, cells := 0, slots := 0, locals := 43 }
theorem dX12_put_0 : decode cX12_put 0 = .ok (.iload_n 1, 1) := by decide +kernel
theorem dX12_put_1 : decode cX12_put 1 = .ok (.invokestatic 124, 3) := by decide +kernel
theorem dX12_put_4 : decode cX12_put 4 = .ok (.ifCond .ne 5, 3) := by decide +kernel
theorem dX12_put_7 : decode cX12_put 7 = .ok (.iconst (-1), 1) := by decide +kernel
theorem dX12_put_8 : decode cX12_put 8 = .ok (.ireturn, 1) := by decide +kernel
theorem dX12_put_9 : decode cX12_put 9 = .ok (.iload_n 1, 1) := by decide +kernel
theorem dX12_put_10 : decode cX12_put 10 = .ok (.iload_n 2, 1) := by decide +kernel
theorem dX12_put_11 : decode cX12_put 11 = .ok (.invokestatic 127, 3) := by decide +kernel
theorem dX12_put_14 : decode cX12_put 14 = .ok (.ifCond .ne 6, 3) := by decide +kernel
theorem dX12_put_17 : decode cX12_put 17 = .ok (.bipush (-2), 2) := by decide +kernel
theorem dX12_put_19 : decode cX12_put 19 = .ok (.ireturn, 1) := by decide +kernel
theorem dX12_put_20 : decode cX12_put 20 = .ok (.aload_n 0, 1) := by decide +kernel
theorem dX12_put_21 : decode cX12_put 21 = .ok (.getfield 36, 3) := by decide +kernel
theorem dX12_put_24 : decode cX12_put 24 = .ok (.iload_n 1, 1) := by decide +kernel
theorem dX12_put_25 : decode cX12_put 25 = .ok (.iaload, 1) := by decide +kernel
theorem dX12_put_26 : decode cX12_put 26 = .ok (.istore_n 3, 1) := by decide +kernel
theorem dX12_put_27 : decode cX12_put 27 = .ok (.aload_n 0, 1) := by decide +kernel
theorem dX12_put_28 : decode cX12_put 28 = .ok (.getfield 36, 3) := by decide +kernel
theorem dX12_put_31 : decode cX12_put 31 = .ok (.iload_n 1, 1) := by decide +kernel
theorem dX12_put_32 : decode cX12_put 32 = .ok (.iload_n 2, 1) := by decide +kernel
theorem dX12_put_33 : decode cX12_put 33 = .ok (.iastore, 1) := by decide +kernel
theorem dX12_put_34 : decode cX12_put 34 = .ok (.iload_n 3, 1) := by decide +kernel
theorem dX12_put_35 : decode cX12_put 35 = .ok (.ireturn, 1) := by decide +kernel
def f_X12_put (S : SH) (a0 : Nat) (a1 : Int32) (a2 : Int32) (μ : Mem) : Option (Int32 × Mem) :=
  if isO S 12 a0 = true then
  (f_X12_isWhat S a1 μ).bind fun q1 =>
  (if q1.1 = 0 then
  some ((-1), q1.2)
  else
  (f_X12_isFor S a1 a2 q1.2).bind fun q2 =>
  (if q2.1 = 0 then
  some ((-2), q2.2)
  else
  (gR S 12 a0 9).bind fun v3 =>
  (aI S .int v3 a1 q2.2).bind fun v4 =>
  (gR S 12 a0 9).bind fun v5 =>
  (sI S v5 a1 a2 q2.2).bind fun ν6 =>
  some (v4, ν6)))
  else none
set_option maxRecDepth 100000 in
set_option maxHeartbeats 4000000 in
theorem c_X12_put {l : Launch} {γ : GE} {S : SH} {a0 : Nat} {a1 : Int32} {a2 : Int32} {μ : Mem} {X : (Int32 × Mem)} (h : f_X12_put S a0 a1 a2 μ = some X) : isO S 12 a0 = true ∧ Ct l γ yX12_put cX12_put 4 (some .int) rm_X12_put [.ref (gb γ + a0), .int a1, .int a2] S μ S X.2 (some (.int X.1)) := by
  unfold f_X12_put at h
  obtain ⟨h0, h⟩ := if_some h
  refine ⟨h0, ?_⟩
  have hJ : ∀ (p : Program) (e : Env) (s : State) (m : MethodId) (args : Array Value) (below : List Frame) (meth : Method) (c : Code), FX γ p s m args meth c cX12_put RX12 4 → meth.sig.returnType = (some .int) → JJ γ p l e rm_X12_put s m args below meth c 4 0 0 (QI below γ S X args s 0 0) S μ 0 [(0, .ref (gb γ + a0)), (1, .int a1), (2, .int a2)] [] := by
    intro p e s m args below meth c F hr
    refine j_iload_n F 1 dX12_put_0 rfl ?_
    refine j_cSI F mi_X12_isWhat w_1135 (rest := []) h (fun _ g => c_X12_isWhat g) rfl rfl (Nat.le_of_ble_eq_true rfl) ⟨Nat.le_of_ble_eq_true rfl, Nat.le_of_ble_eq_true rfl⟩ ⟨Nat.le_of_ble_eq_true rfl, Nat.le_of_ble_eq_true rfl⟩ dX12_put_1 (fun q1 h => ?_)
    refine j_ifne F 9 dX12_put_4 (by decide) h (fun _ h => ?_) (fun _ h => ?_)
    · refine j_iload_n F 1 dX12_put_9 rfl ?_
      refine j_iload_n F 2 dX12_put_10 rfl ?_
      refine j_cSI F mi_X12_isFor w_1138 (rest := []) h (fun _ g => c_X12_isFor g) rfl rfl (Nat.le_of_ble_eq_true rfl) ⟨Nat.le_of_ble_eq_true rfl, Nat.le_of_ble_eq_true rfl⟩ ⟨Nat.le_of_ble_eq_true rfl, Nat.le_of_ble_eq_true rfl⟩ dX12_put_11 (fun q2 h => ?_)
      refine j_ifne F 20 dX12_put_14 (by decide) h (fun _ h => ?_) (fun _ h => ?_)
      · refine j_aload_n F 0 dX12_put_20 rfl ?_
        refine j_gR F fl_RX12_36 rfl dX12_put_21 h (fun v3 h => ?_)
        refine j_iload_n F 1 dX12_put_24 rfl ?_
        refine j_iald F dX12_put_25 h (fun v4 h => ?_)
        refine j_istore_n F [(3, .int v4), (0, .ref (gb γ + a0)), (1, .int a1), (2, .int a2)] dX12_put_26 rfl (by decide) rfl ?_
        refine j_aload_n F 1 dX12_put_27 rfl ?_
        refine j_gR F fl_RX12_36 rfl dX12_put_28 h (fun v5 h => ?_)
        refine j_iload_n F 2 dX12_put_31 rfl ?_
        refine j_iload_n F 3 dX12_put_32 rfl ?_
        refine j_iast F dX12_put_33 h (fun ν6 h => ?_)
        refine j_iload_n F 0 dX12_put_34 rfl ?_
        exact j_iret F hr dX12_put_35 h
      · refine j_bipush F (-2) dX12_put_17 (by decide) ?_
        exact j_iret F hr dX12_put_19 h
    · refine j_iconst F (-1) dX12_put_7 (by decide) ?_
      exact j_iret F hr dX12_put_8 h
  exact ct_of (by decide +kernel) (Nat.le_of_ble_eq_true rfl) (fun p e s m args below meth c F hr _ => hJ p e s m args below meth c F hr)
def rm_X12_told : Room := { frames := 2, cells := 0, slots := 0, locals := 42 }
theorem dX12_told_0 : decode cX12_told 0 = .ok (.iload_n 1, 1) := by decide +kernel
theorem dX12_told_1 : decode cX12_told 1 = .ok (.invokestatic 124, 3) := by decide +kernel
theorem dX12_told_4 : decode cX12_told 4 = .ok (.ifCond .eq 12, 3) := by decide +kernel
theorem dX12_told_7 : decode cX12_told 7 = .ok (.aload_n 0, 1) := by decide +kernel
theorem dX12_told_8 : decode cX12_told 8 = .ok (.getfield 36, 3) := by decide +kernel
theorem dX12_told_11 : decode cX12_told 11 = .ok (.iload_n 1, 1) := by decide +kernel
theorem dX12_told_12 : decode cX12_told 12 = .ok (.iaload, 1) := by decide +kernel
theorem dX12_told_13 : decode cX12_told 13 = .ok (.goto 4, 3) := by decide +kernel
theorem dX12_told_16 : decode cX12_told 16 = .ok (.iconst (-1), 1) := by decide +kernel
theorem dX12_told_17 : decode cX12_told 17 = .ok (.ireturn, 1) := by decide +kernel
def f_X12_told (S : SH) (a0 : Nat) (a1 : Int32) (μ : Mem) : Option (Int32 × Mem) :=
  if isO S 12 a0 = true then
  (f_X12_isWhat S a1 μ).bind fun q1 =>
  (if q1.1 = 0 then
  some ((-1), q1.2)
  else
  (gR S 12 a0 9).bind fun v2 =>
  (aI S .int v2 a1 q1.2).bind fun v3 =>
  some (v3, q1.2))
  else none
set_option maxRecDepth 100000 in
set_option maxHeartbeats 4000000 in
theorem c_X12_told {l : Launch} {γ : GE} {S : SH} {a0 : Nat} {a1 : Int32} {μ : Mem} {X : (Int32 × Mem)} (h : f_X12_told S a0 a1 μ = some X) : isO S 12 a0 = true ∧ Ct l γ yX12_told cX12_told 2 (some .int) rm_X12_told [.ref (gb γ + a0), .int a1] S μ S X.2 (some (.int X.1)) := by
  unfold f_X12_told at h
  obtain ⟨h0, h⟩ := if_some h
  refine ⟨h0, ?_⟩
  have hJ : ∀ (p : Program) (e : Env) (s : State) (m : MethodId) (args : Array Value) (below : List Frame) (meth : Method) (c : Code), FX γ p s m args meth c cX12_told RX12 2 → meth.sig.returnType = (some .int) → JJ γ p l e rm_X12_told s m args below meth c 2 0 0 (QI below γ S X args s 0 0) S μ 0 [(0, .ref (gb γ + a0)), (1, .int a1)] [] := by
    intro p e s m args below meth c F hr
    refine j_iload_n F 1 dX12_told_0 rfl ?_
    refine j_cSI F mi_X12_isWhat w_1135 (rest := []) h (fun _ g => c_X12_isWhat g) rfl rfl (Nat.le_of_ble_eq_true rfl) ⟨Nat.le_of_ble_eq_true rfl, Nat.le_of_ble_eq_true rfl⟩ ⟨Nat.le_of_ble_eq_true rfl, Nat.le_of_ble_eq_true rfl⟩ dX12_told_1 (fun q1 h => ?_)
    refine j_ifeq F 16 dX12_told_4 (by decide) h (fun _ h => ?_) (fun _ h => ?_)
    · refine j_iconst F (-1) dX12_told_16 (by decide) ?_
      exact j_iret F hr dX12_told_17 h
    · refine j_aload_n F 0 dX12_told_7 rfl ?_
      refine j_gR F fl_RX12_36 rfl dX12_told_8 h (fun v2 h => ?_)
      refine j_iload_n F 1 dX12_told_11 rfl ?_
      refine j_iald F dX12_told_12 h (fun v3 h => ?_)
      refine j_goto F 17 dX12_told_13 (by decide) ?_
      exact j_iret F hr dX12_told_17 h
  exact ct_of (by decide +kernel) (Nat.le_of_ble_eq_true rfl) (fun p e s m args below meth c F hr _ => hJ p e s m args below meth c F hr)
def rm_X12_padOf : Room := { frames := 2, cells := 0, slots := 0, locals := 42 }
theorem dX12_padOf_0 : decode cX12_padOf 0 = .ok (.iload_n 1, 1) := by decide +kernel
theorem dX12_padOf_1 : decode cX12_padOf 1 = .ok (.invokestatic 106, 3) := by decide +kernel
theorem dX12_padOf_4 : decode cX12_padOf 4 = .ok (.ifCond .eq 26, 3) := by decide +kernel
theorem dX12_padOf_7 : decode cX12_padOf 7 = .ok (.iload_n 2, 1) := by decide +kernel
theorem dX12_padOf_8 : decode cX12_padOf 8 = .ok (.iconst 0, 1) := by decide +kernel
theorem dX12_padOf_9 : decode cX12_padOf 9 = .ok (.iconst 2, 1) := by decide +kernel
theorem dX12_padOf_10 : decode cX12_padOf 10 = .ok (.invokestatic 95, 3) := by decide +kernel
theorem dX12_padOf_13 : decode cX12_padOf 13 = .ok (.ifCond .eq 17, 3) := by decide +kernel
theorem dX12_padOf_16 : decode cX12_padOf 16 = .ok (.aload_n 0, 1) := by decide +kernel
theorem dX12_padOf_17 : decode cX12_padOf 17 = .ok (.getfield 9, 3) := by decide +kernel
theorem dX12_padOf_20 : decode cX12_padOf 20 = .ok (.iconst 3, 1) := by decide +kernel
theorem dX12_padOf_21 : decode cX12_padOf 21 = .ok (.iload_n 1, 1) := by decide +kernel
theorem dX12_padOf_22 : decode cX12_padOf 22 = .ok (.imul, 1) := by decide +kernel
theorem dX12_padOf_23 : decode cX12_padOf 23 = .ok (.iload_n 2, 1) := by decide +kernel
theorem dX12_padOf_24 : decode cX12_padOf 24 = .ok (.iadd, 1) := by decide +kernel
theorem dX12_padOf_25 : decode cX12_padOf 25 = .ok (.iaload, 1) := by decide +kernel
theorem dX12_padOf_26 : decode cX12_padOf 26 = .ok (.i2l, 1) := by decide +kernel
theorem dX12_padOf_27 : decode cX12_padOf 27 = .ok (.goto 6, 3) := by decide +kernel
theorem dX12_padOf_30 : decode cX12_padOf 30 = .ok (.ldc2_w 131, 3) := by decide +kernel
theorem dX12_padOf_33 : decode cX12_padOf 33 = .ok (.lreturn, 1) := by decide +kernel
def f_X12_padOf (S : SH) (a0 : Nat) (a1 : Int32) (a2 : Int32) (μ : Mem) : Option (Int64 × Mem) :=
  if isO S 12 a0 = true then
  (f_X12_isPad S a1 μ).bind fun q1 =>
  (if q1.1 = 0 then
  some ((-9223372036854775808), q1.2)
  else
  (f_X12_in S a2 0 2 q1.2).bind fun q2 =>
  (if q2.1 = 0 then
  some ((-9223372036854775808), q2.2)
  else
  (gR S 12 a0 0).bind fun v3 =>
  (aI S .int v3 ((3 * a1) + a2) q2.2).bind fun v4 =>
  some (v4.toInt64, q2.2)))
  else none
set_option maxRecDepth 100000 in
set_option maxHeartbeats 4000000 in
theorem c_X12_padOf {l : Launch} {γ : GE} {S : SH} {a0 : Nat} {a1 : Int32} {a2 : Int32} {μ : Mem} {X : (Int64 × Mem)} (h : f_X12_padOf S a0 a1 a2 μ = some X) : isO S 12 a0 = true ∧ Ct l γ yX12_padOf cX12_padOf 3 (some .long) rm_X12_padOf [.ref (gb γ + a0), .int a1, .int a2] S μ S X.2 (some (.long X.1)) := by
  unfold f_X12_padOf at h
  obtain ⟨h0, h⟩ := if_some h
  refine ⟨h0, ?_⟩
  have hJ : ∀ (p : Program) (e : Env) (s : State) (m : MethodId) (args : Array Value) (below : List Frame) (meth : Method) (c : Code), FX γ p s m args meth c cX12_padOf RX12 3 → meth.sig.returnType = (some .long) → JJ γ p l e rm_X12_padOf s m args below meth c 3 0 0 (QL below γ S X args s 0 0) S μ 0 [(0, .ref (gb γ + a0)), (1, .int a1), (2, .int a2)] [] := by
    intro p e s m args below meth c F hr
    refine j_iload_n F 1 dX12_padOf_0 rfl ?_
    refine j_cSI F mi_X12_isPad w_1101 (rest := []) h (fun _ g => c_X12_isPad g) rfl rfl (Nat.le_of_ble_eq_true rfl) ⟨Nat.le_of_ble_eq_true rfl, Nat.le_of_ble_eq_true rfl⟩ ⟨Nat.le_of_ble_eq_true rfl, Nat.le_of_ble_eq_true rfl⟩ dX12_padOf_1 (fun q1 h => ?_)
    refine j_ifeq F 30 dX12_padOf_4 (by decide) h (fun _ h => ?_) (fun _ h => ?_)
    · refine j_ldc2 F (-9223372036854775808) dX12_padOf_30 w_1152 ?_
      exact j_lret F hr dX12_padOf_33 h
    · refine j_iload_n F 2 dX12_padOf_7 rfl ?_
      refine j_iconst F 0 dX12_padOf_8 (by decide) ?_
      refine j_iconst F 2 dX12_padOf_9 (by decide) ?_
      refine j_cSI F mi_X12_in w_1104 (rest := []) h (fun _ g => c_X12_in g) rfl rfl (Nat.le_of_ble_eq_true rfl) ⟨Nat.le_of_ble_eq_true rfl, Nat.le_of_ble_eq_true rfl⟩ ⟨Nat.le_of_ble_eq_true rfl, Nat.le_of_ble_eq_true rfl⟩ dX12_padOf_10 (fun q2 h => ?_)
      refine j_ifeq F 30 dX12_padOf_13 (by decide) h (fun _ h => ?_) (fun _ h => ?_)
      · refine j_ldc2 F (-9223372036854775808) dX12_padOf_30 w_1152 ?_
        exact j_lret F hr dX12_padOf_33 h
      · refine j_aload_n F 0 dX12_padOf_16 rfl ?_
        refine j_gR F fl_RX12_9 rfl dX12_padOf_17 h (fun v3 h => ?_)
        refine j_iconst F 3 dX12_padOf_20 (by decide) ?_
        refine j_iload_n F 1 dX12_padOf_21 rfl ?_
        refine j_imul F dX12_padOf_22 ?_
        refine j_iload_n F 2 dX12_padOf_23 rfl ?_
        refine j_iadd F dX12_padOf_24 ?_
        refine j_iald F dX12_padOf_25 h (fun v4 h => ?_)
        refine j_i2l F dX12_padOf_26 ?_
        refine j_goto F 33 dX12_padOf_27 (by decide) ?_
        exact j_lret F hr dX12_padOf_33 h
  exact ct_of (by decide +kernel) (Nat.le_of_ble_eq_true rfl) (fun p e s m args below meth c F hr _ => hJ p e s m args below meth c F hr)
def rm_X12_isChart : Room := { frames := 1, cells := 0, slots := 0, locals := 22 }
theorem dX12_isChart_0 : decode cX12_isChart 0 = .ok (.iload_n 0, 1) := by decide +kernel
theorem dX12_isChart_1 : decode cX12_isChart 1 = .ok (.iconst 0, 1) := by decide +kernel
theorem dX12_isChart_2 : decode cX12_isChart 2 = .ok (.iconst 2, 1) := by decide +kernel
theorem dX12_isChart_3 : decode cX12_isChart 3 = .ok (.invokestatic 95, 3) := by decide +kernel
theorem dX12_isChart_6 : decode cX12_isChart 6 = .ok (.ireturn, 1) := by decide +kernel
def f_X12_isChart (S : SH) (a0 : Int32) (μ : Mem) : Option (Int32 × Mem) :=
  (f_X12_in S a0 0 2 μ).bind fun q1 =>
  (oz q1.1).bind fun z2 => some (z2, q1.2)
set_option maxRecDepth 100000 in
set_option maxHeartbeats 4000000 in
theorem c_X12_isChart {l : Launch} {γ : GE} {S : SH} {a0 : Int32} {μ : Mem} {X : (Int32 × Mem)} (h : f_X12_isChart S a0 μ = some X) : Ct l γ yX12_isChart cX12_isChart 1 (some .boolean) rm_X12_isChart [.int a0] S μ S X.2 (some (.int X.1)) := by
  unfold f_X12_isChart at h
  have hJ : ∀ (p : Program) (e : Env) (s : State) (m : MethodId) (args : Array Value) (below : List Frame) (meth : Method) (c : Code), FX γ p s m args meth c cX12_isChart RX12 1 → meth.sig.returnType = (some .boolean) → JJ γ p l e rm_X12_isChart s m args below meth c 1 0 0 (QI below γ S X args s 0 0) S μ 0 [(0, .int a0)] [] := by
    intro p e s m args below meth c F hr
    refine j_iload_n F 0 dX12_isChart_0 rfl ?_
    refine j_iconst F 0 dX12_isChart_1 (by decide) ?_
    refine j_iconst F 2 dX12_isChart_2 (by decide) ?_
    refine j_cSI F mi_X12_in w_1104 (rest := []) h (fun _ g => c_X12_in g) rfl rfl (Nat.le_of_ble_eq_true rfl) ⟨Nat.le_of_ble_eq_true rfl, Nat.le_of_ble_eq_true rfl⟩ ⟨Nat.le_of_ble_eq_true rfl, Nat.le_of_ble_eq_true rfl⟩ dX12_isChart_3 (fun q1 h => ?_)
    exact j_zretG F hr dX12_isChart_6 h
  exact ct_of (by decide +kernel) (Nat.le_of_ble_eq_true rfl) (fun p e s m args below meth c F hr _ => hJ p e s m args below meth c F hr)
def rm_X12_isReach : Room := { frames := 1, cells := 0, slots := 0, locals := 22 }
theorem dX12_isReach_0 : decode cX12_isReach 0 = .ok (.iload_n 0, 1) := by decide +kernel
theorem dX12_isReach_1 : decode cX12_isReach 1 = .ok (.iconst 0, 1) := by decide +kernel
theorem dX12_isReach_2 : decode cX12_isReach 2 = .ok (.bipush 60, 2) := by decide +kernel
theorem dX12_isReach_4 : decode cX12_isReach 4 = .ok (.invokestatic 95, 3) := by decide +kernel
theorem dX12_isReach_7 : decode cX12_isReach 7 = .ok (.ireturn, 1) := by decide +kernel
def f_X12_isReach (S : SH) (a0 : Int32) (μ : Mem) : Option (Int32 × Mem) :=
  (f_X12_in S a0 0 60 μ).bind fun q1 =>
  (oz q1.1).bind fun z2 => some (z2, q1.2)
set_option maxRecDepth 100000 in
set_option maxHeartbeats 4000000 in
theorem c_X12_isReach {l : Launch} {γ : GE} {S : SH} {a0 : Int32} {μ : Mem} {X : (Int32 × Mem)} (h : f_X12_isReach S a0 μ = some X) : Ct l γ yX12_isReach cX12_isReach 1 (some .boolean) rm_X12_isReach [.int a0] S μ S X.2 (some (.int X.1)) := by
  unfold f_X12_isReach at h
  have hJ : ∀ (p : Program) (e : Env) (s : State) (m : MethodId) (args : Array Value) (below : List Frame) (meth : Method) (c : Code), FX γ p s m args meth c cX12_isReach RX12 1 → meth.sig.returnType = (some .boolean) → JJ γ p l e rm_X12_isReach s m args below meth c 1 0 0 (QI below γ S X args s 0 0) S μ 0 [(0, .int a0)] [] := by
    intro p e s m args below meth c F hr
    refine j_iload_n F 0 dX12_isReach_0 rfl ?_
    refine j_iconst F 0 dX12_isReach_1 (by decide) ?_
    refine j_bipush F 60 dX12_isReach_2 (by decide) ?_
    refine j_cSI F mi_X12_in w_1104 (rest := []) h (fun _ g => c_X12_in g) rfl rfl (Nat.le_of_ble_eq_true rfl) ⟨Nat.le_of_ble_eq_true rfl, Nat.le_of_ble_eq_true rfl⟩ ⟨Nat.le_of_ble_eq_true rfl, Nat.le_of_ble_eq_true rfl⟩ dX12_isReach_4 (fun q1 h => ?_)
    exact j_zretG F hr dX12_isReach_7 h
  exact ct_of (by decide +kernel) (Nat.le_of_ble_eq_true rfl) (fun p e s m args below meth c F hr _ => hJ p e s m args below meth c F hr)
def rm_X12_placeOf : Room := { frames := 0, cells := 0, slots := 0, locals := 0 }
theorem dX12_placeOf_0 : decode cX12_placeOf 0 = .ok (.iconst 0, 1) := by decide +kernel
theorem dX12_placeOf_1 : decode cX12_placeOf 1 = .ok (.istore_n 3, 1) := by decide +kernel
theorem dX12_placeOf_2 : decode cX12_placeOf 2 = .ok (.iload_n 3, 1) := by decide +kernel
theorem dX12_placeOf_3 : decode cX12_placeOf 3 = .ok (.aload_n 0, 1) := by decide +kernel
theorem dX12_placeOf_4 : decode cX12_placeOf 4 = .ok (.getfield 27, 3) := by decide +kernel
theorem dX12_placeOf_7 : decode cX12_placeOf 7 = .ok (.iload_n 1, 1) := by decide +kernel
theorem dX12_placeOf_8 : decode cX12_placeOf 8 = .ok (.iaload, 1) := by decide +kernel
theorem dX12_placeOf_9 : decode cX12_placeOf 9 = .ok (.if_icmp .ge 24, 3) := by decide +kernel
theorem dX12_placeOf_12 : decode cX12_placeOf 12 = .ok (.aload_n 0, 1) := by decide +kernel
theorem dX12_placeOf_13 : decode cX12_placeOf 13 = .ok (.getfield 30, 3) := by decide +kernel
theorem dX12_placeOf_16 : decode cX12_placeOf 16 = .ok (.bipush 10, 2) := by decide +kernel
theorem dX12_placeOf_18 : decode cX12_placeOf 18 = .ok (.iload_n 1, 1) := by decide +kernel
theorem dX12_placeOf_19 : decode cX12_placeOf 19 = .ok (.imul, 1) := by decide +kernel
theorem dX12_placeOf_20 : decode cX12_placeOf 20 = .ok (.iload_n 3, 1) := by decide +kernel
theorem dX12_placeOf_21 : decode cX12_placeOf 21 = .ok (.iadd, 1) := by decide +kernel
theorem dX12_placeOf_22 : decode cX12_placeOf 22 = .ok (.iaload, 1) := by decide +kernel
theorem dX12_placeOf_23 : decode cX12_placeOf 23 = .ok (.iload_n 2, 1) := by decide +kernel
theorem dX12_placeOf_24 : decode cX12_placeOf 24 = .ok (.if_icmp .ge 9, 3) := by decide +kernel
theorem dX12_placeOf_27 : decode cX12_placeOf 27 = .ok (.iinc 3 1, 3) := by decide +kernel
theorem dX12_placeOf_30 : decode cX12_placeOf 30 = .ok (.goto (-28), 3) := by decide +kernel
theorem dX12_placeOf_33 : decode cX12_placeOf 33 = .ok (.iload_n 3, 1) := by decide +kernel
theorem dX12_placeOf_34 : decode cX12_placeOf 34 = .ok (.ireturn, 1) := by decide +kernel
def l_X12_placeOf_2 (S : SH) (a0 : Nat) (a1 : Int32) (a2 : Int32) (k2 : (Int32 × Mem) → Option (Int32 × Mem)) (x : (Int32 × Mem)) : Option (Int32 × Mem) :=
 (gR S 12 a0 6).bind fun v1 =>
 (aI S .int v1 a1 x.2).bind fun v2 =>
 (if v2 ≤ x.1 then
 some (x.1, x.2)
 else
 (gR S 12 a0 7).bind fun v3 =>
 (aI S .int v3 ((10 * a1) + x.1) x.2).bind fun v4 =>
 (if a2 ≤ v4 then
 some (x.1, x.2)
 else
 k2 (x.1 + 1, x.2)))
set_option maxRecDepth 100000 in
set_option maxHeartbeats 4000000 in
theorem t_X12_placeOf_2 {γ : GE} {p : Program} {l : Launch} {e : Env} {s : State} {m : MethodId} {args : Array Value} {below : List Frame} {meth : Method} {c : Code} {S : SH} {X : (Int32 × Mem)} (F : FX γ p s m args meth c cX12_placeOf RX12 4) (hr : meth.sig.returnType = (some .int)) (a0 : Nat) (a1 : Int32) (a2 : Int32) (k2 : (Int32 × Mem) → Option (Int32 × Mem)) (hk2 : ∀ (x2_3 : Int32) (ν : Mem), k2 (x2_3, ν) = some X → JJ γ p l e rm_X12_placeOf s m args below meth c 4 0 0 (QI below γ S X args s 0 0) S ν 2 [(0, .ref (gb γ + a0)), (1, .int a1), (2, .int a2), (3, .int x2_3)] []) (x : (Int32 × Mem)) (h : l_X12_placeOf_2 S a0 a1 a2 k2 x = some X) : JJ γ p l e rm_X12_placeOf s m args below meth c 4 0 0 (QI below γ S X args s 0 0) S x.2 2 [(0, .ref (gb γ + a0)), (1, .int a1), (2, .int a2), (3, .int x.1)] [] := by
  unfold l_X12_placeOf_2 at h
  refine j_iload_n F 3 dX12_placeOf_2 rfl ?_
  refine j_aload_n F 0 dX12_placeOf_3 rfl ?_
  refine j_gR F fl_RX12_27 rfl dX12_placeOf_4 h (fun v1 h => ?_)
  refine j_iload_n F 1 dX12_placeOf_7 rfl ?_
  refine j_iald F dX12_placeOf_8 h (fun v2 h => ?_)
  refine j_icmpge F 33 dX12_placeOf_9 (by decide) h (fun _ h => ?_) (fun _ h => ?_)
  · refine j_iload_n F 3 dX12_placeOf_33 rfl ?_
    exact j_iret F hr dX12_placeOf_34 h
  · refine j_aload_n F 0 dX12_placeOf_12 rfl ?_
    refine j_gR F fl_RX12_30 rfl dX12_placeOf_13 h (fun v3 h => ?_)
    refine j_bipush F 10 dX12_placeOf_16 (by decide) ?_
    refine j_iload_n F 1 dX12_placeOf_18 rfl ?_
    refine j_imul F dX12_placeOf_19 ?_
    refine j_iload_n F 3 dX12_placeOf_20 rfl ?_
    refine j_iadd F dX12_placeOf_21 ?_
    refine j_iald F dX12_placeOf_22 h (fun v4 h => ?_)
    refine j_iload_n F 2 dX12_placeOf_23 rfl ?_
    refine j_icmpge F 33 dX12_placeOf_24 (by decide) h (fun _ h => ?_) (fun _ h => ?_)
    · refine j_iload_n F 3 dX12_placeOf_33 rfl ?_
      exact j_iret F hr dX12_placeOf_34 h
    · refine j_iinc F 1 3 [(3, .int (x.1 + 1)), (0, .ref (gb γ + a0)), (1, .int a1), (2, .int a2)] dX12_placeOf_27 rfl (by decide) (by decide) rfl ?_
      refine j_goto F 2 dX12_placeOf_30 (by decide) ?_
      refine j_lv [(0, .ref (gb γ + a0)), (1, .int a1), (2, .int a2), (3, .int (x.1 + 1))] [1, 2, 3, 0] rfl ?_
      exact hk2 _ _ h
theorem s_X12_placeOf_2 {γ : GE} {p : Program} {l : Launch} {e : Env} {s : State} {m : MethodId} {args : Array Value} {below : List Frame} {meth : Method} {c : Code} {S : SH} {X : (Int32 × Mem)} (F : FX γ p s m args meth c cX12_placeOf RX12 4) (hr : meth.sig.returnType = (some .int)) (a0 : Nat) (a1 : Int32) (a2 : Int32) (x2_3 : Int32) (ν : Mem) (h : lpN (l_X12_placeOf_2 S a0 a1 a2) fu (x2_3, ν) = some X) : JJ γ p l e rm_X12_placeOf s m args below meth c 4 0 0 (QI below γ S X args s 0 0) S ν 2 [(0, .ref (gb γ + a0)), (1, .int a1), (2, .int a2), (3, .int x2_3)] [] :=
 lpN_sound (fun x => JJ γ p l e rm_X12_placeOf s m args below meth c 4 0 0 (QI below γ S X args s 0 0) S x.2 2 [(0, .ref (gb γ + a0)), (1, .int a1), (2, .int a2), (3, .int x.1)] []) (fun k2 hk2 x h => t_X12_placeOf_2 F hr a0 a1 a2 k2 (fun x2_3 ν h => hk2 (x2_3, ν) h) x h) fu (x2_3, ν) h
def f_X12_placeOf (S : SH) (a0 : Nat) (a1 : Int32) (a2 : Int32) (μ : Mem) : Option (Int32 × Mem) :=
  if isO S 12 a0 = true then
  lpN (l_X12_placeOf_2 S  a0 a1 a2) fu (0, μ)
  else none
set_option maxRecDepth 100000 in
set_option maxHeartbeats 4000000 in
theorem c_X12_placeOf {l : Launch} {γ : GE} {S : SH} {a0 : Nat} {a1 : Int32} {a2 : Int32} {μ : Mem} {X : (Int32 × Mem)} (h : f_X12_placeOf S a0 a1 a2 μ = some X) : isO S 12 a0 = true ∧ Ct l γ yX12_placeOf cX12_placeOf 4 (some .int) rm_X12_placeOf [.ref (gb γ + a0), .int a1, .int a2] S μ S X.2 (some (.int X.1)) := by
  unfold f_X12_placeOf at h
  obtain ⟨h0, h⟩ := if_some h
  refine ⟨h0, ?_⟩
  have hJ : ∀ (p : Program) (e : Env) (s : State) (m : MethodId) (args : Array Value) (below : List Frame) (meth : Method) (c : Code), FX γ p s m args meth c cX12_placeOf RX12 4 → meth.sig.returnType = (some .int) → JJ γ p l e rm_X12_placeOf s m args below meth c 4 0 0 (QI below γ S X args s 0 0) S μ 0 [(0, .ref (gb γ + a0)), (1, .int a1), (2, .int a2)] [] := by
    intro p e s m args below meth c F hr
    refine j_iconst F 0 dX12_placeOf_0 (by decide) ?_
    refine j_istore_n F [(3, .int 0), (0, .ref (gb γ + a0)), (1, .int a1), (2, .int a2)] dX12_placeOf_1 rfl (by decide) rfl ?_
    refine j_lv [(0, .ref (gb γ + a0)), (1, .int a1), (2, .int a2), (3, .int 0)] [1, 2, 3, 0] rfl ?_
    exact s_X12_placeOf_2 F hr _ _ _ _ _ h
  exact ct_of (by decide +kernel) (Nat.le_of_ble_eq_true rfl) (fun p e s m args below meth c F hr _ => hJ p e s m args below meth c F hr)
