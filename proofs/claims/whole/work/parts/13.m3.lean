def rm_X11_within : Room := { frames := 0, cells := 0, slots := 0, locals := 0 }
theorem dX11_within_0 : decode cX11_within 0 = .ok (.iload_n 0, 1) := by decide +kernel
theorem dX11_within_1 : decode cX11_within 1 = .ok (.iload_n 1, 1) := by decide +kernel
theorem dX11_within_2 : decode cX11_within 2 = .ok (.if_icmp .lt 12, 3) := by decide +kernel
theorem dX11_within_5 : decode cX11_within 5 = .ok (.iload_n 0, 1) := by decide +kernel
theorem dX11_within_6 : decode cX11_within 6 = .ok (.iload_n 2, 1) := by decide +kernel
theorem dX11_within_7 : decode cX11_within 7 = .ok (.if_icmp .gt 7, 3) := by decide +kernel
theorem dX11_within_10 : decode cX11_within 10 = .ok (.iconst 1, 1) := by decide +kernel
theorem dX11_within_11 : decode cX11_within 11 = .ok (.goto 4, 3) := by decide +kernel
theorem dX11_within_14 : decode cX11_within 14 = .ok (.iconst 0, 1) := by decide +kernel
theorem dX11_within_15 : decode cX11_within 15 = .ok (.ireturn, 1) := by decide +kernel
def f_X11_within (S : SH) (a0 : Int32) (a1 : Int32) (a2 : Int32) (μ : Mem) : Option (Int32 × Mem) :=
  (if a0 < a1 then
  some (0, μ)
  else
  (if a2 < a0 then
  some (0, μ)
  else
  some (1, μ)))
set_option maxRecDepth 100000 in
set_option maxHeartbeats 4000000 in
theorem c_X11_within {l : Launch} {γ : GE} {S : SH} {a0 : Int32} {a1 : Int32} {a2 : Int32} {μ : Mem} {X : (Int32 × Mem)} (h : f_X11_within S a0 a1 a2 μ = some X) : Ct l γ yX11_within cX11_within 3 (some .boolean) rm_X11_within [.int a0, .int a1, .int a2] S μ S X.2 (some (.int X.1)) := by
  unfold f_X11_within at h
  have hJ : ∀ (p : Program) (e : Env) (s : State) (m : MethodId) (args : Array Value) (below : List Frame) (meth : Method) (c : Code), FX γ p s m args meth c cX11_within RX11 3 → meth.sig.returnType = (some .boolean) → JJ γ p l e rm_X11_within s m args below meth c 3 0 0 (QI below γ S X args s 0 0) S μ 0 [(0, .int a0), (1, .int a1), (2, .int a2)] [] := by
    intro p e s m args below meth c F hr
    refine j_iload_n F 0 dX11_within_0 rfl ?_
    refine j_iload_n F 1 dX11_within_1 rfl ?_
    refine j_icmplt F 14 dX11_within_2 (by decide) h (fun _ h => ?_) (fun _ h => ?_)
    · refine j_iconst F 0 dX11_within_14 (by decide) ?_
      exact j_zret F hr (Or.inl rfl) dX11_within_15 h
    · refine j_iload_n F 0 dX11_within_5 rfl ?_
      refine j_iload_n F 2 dX11_within_6 rfl ?_
      refine j_icmpgt F 14 dX11_within_7 (by decide) h (fun _ h => ?_) (fun _ h => ?_)
      · refine j_iconst F 0 dX11_within_14 (by decide) ?_
        exact j_zret F hr (Or.inl rfl) dX11_within_15 h
      · refine j_iconst F 1 dX11_within_10 (by decide) ?_
        refine j_goto F 15 dX11_within_11 (by decide) ?_
        exact j_zret F hr (Or.inr rfl) dX11_within_15 h
  exact ct_of (by decide +kernel) (Nat.le_of_ble_eq_true rfl) (fun p e s m args below meth c F hr _ => hJ p e s m args below meth c F hr)
def rm_X11_fitsDial : Room := { frames := 1, cells := 0, slots := 0, locals := 22 }
theorem dX11_fitsDial_0 : decode cX11_fitsDial 0 = .ok (.iload_n 1, 1) := by decide +kernel
theorem dX11_fitsDial_1 : decode cX11_fitsDial 1 = .ok (.getstatic 333, 3) := by decide +kernel
theorem dX11_fitsDial_4 : decode cX11_fitsDial 4 = .ok (.iload_n 0, 1) := by decide +kernel
theorem dX11_fitsDial_5 : decode cX11_fitsDial 5 = .ok (.iaload, 1) := by decide +kernel
theorem dX11_fitsDial_6 : decode cX11_fitsDial 6 = .ok (.getstatic 336, 3) := by decide +kernel
theorem dX11_fitsDial_9 : decode cX11_fitsDial 9 = .ok (.iload_n 0, 1) := by decide +kernel
theorem dX11_fitsDial_10 : decode cX11_fitsDial 10 = .ok (.iaload, 1) := by decide +kernel
theorem dX11_fitsDial_11 : decode cX11_fitsDial 11 = .ok (.invokestatic 84, 3) := by decide +kernel
theorem dX11_fitsDial_14 : decode cX11_fitsDial 14 = .ok (.ireturn, 1) := by decide +kernel
def f_X11_fitsDial (S : SH) (a0 : Int32) (a1 : Int32) (μ : Mem) : Option (Int32 × Mem) :=
  (aT 1 a0).bind fun v1 =>
  (aT 2 a0).bind fun v2 =>
  (f_X11_within S a1 v1 v2 μ).bind fun q3 =>
  (oz q3.1).bind fun z4 => some (z4, q3.2)
set_option maxRecDepth 100000 in
set_option maxHeartbeats 4000000 in
theorem c_X11_fitsDial {l : Launch} {γ : GE} {S : SH} {a0 : Int32} {a1 : Int32} {μ : Mem} {X : (Int32 × Mem)} (h : f_X11_fitsDial S a0 a1 μ = some X) : Ct l γ yX11_fitsDial cX11_fitsDial 2 (some .boolean) rm_X11_fitsDial [.int a0, .int a1] S μ S X.2 (some (.int X.1)) := by
  unfold f_X11_fitsDial at h
  have hJ : ∀ (p : Program) (e : Env) (s : State) (m : MethodId) (args : Array Value) (below : List Frame) (meth : Method) (c : Code), FX γ p s m args meth c cX11_fitsDial RX11 2 → meth.sig.returnType = (some .boolean) → JJ γ p l e rm_X11_fitsDial s m args below meth c 2 0 0 (QI below γ S X args s 0 0) S μ 0 [(0, .int a0), (1, .int a1)] [] := by
    intro p e s m args below meth c F hr
    refine j_iload_n F 1 dX11_fitsDial_0 rfl ?_
    refine j_gets F 1 (by decide) w_505 dX11_fitsDial_1 ?_
    refine j_iload_n F 0 dX11_fitsDial_4 rfl ?_
    refine j_tald F (by decide) dX11_fitsDial_5 h (fun v1 h => ?_)
    refine j_gets F 2 (by decide) w_507 dX11_fitsDial_6 ?_
    refine j_iload_n F 0 dX11_fitsDial_9 rfl ?_
    refine j_tald F (by decide) dX11_fitsDial_10 h (fun v2 h => ?_)
    refine j_cSI F mi_X11_within w_464 (rest := []) h (fun _ g => c_X11_within g) rfl rfl (Nat.le_of_ble_eq_true rfl) ⟨Nat.le_of_ble_eq_true rfl, Nat.le_of_ble_eq_true rfl⟩ ⟨Nat.le_of_ble_eq_true rfl, Nat.le_of_ble_eq_true rfl⟩ dX11_fitsDial_11 (fun q3 h => ?_)
    exact j_zretG F hr dX11_fitsDial_14 h
  exact ct_of (by decide +kernel) (Nat.le_of_ble_eq_true rfl) (fun p e s m args below meth c F hr _ => hJ p e s m args below meth c F hr)
def rm_X9_readNumber : Room := { frames := 2, cells := 0, slots := 0, locals := 43 }
theorem dX9_readNumber_0 : decode cX9_readNumber 0 = .ok (.aload_n 0, 1) := by decide +kernel
theorem dX9_readNumber_1 : decode cX9_readNumber 1 = .ok (.getfield 22, 3) := by decide +kernel
theorem dX9_readNumber_4 : decode cX9_readNumber 4 = .ok (.istore_n 3, 1) := by decide +kernel
theorem dX9_readNumber_5 : decode cX9_readNumber 5 = .ok (.aload_n 0, 1) := by decide +kernel
theorem dX9_readNumber_6 : decode cX9_readNumber 6 = .ok (.getfield 15, 3) := by decide +kernel
theorem dX9_readNumber_9 : decode cX9_readNumber 9 = .ok (.iload_n 3, 1) := by decide +kernel
theorem dX9_readNumber_10 : decode cX9_readNumber 10 = .ok (.iconst 4, 1) := by decide +kernel
theorem dX9_readNumber_11 : decode cX9_readNumber 11 = .ok (.iadd, 1) := by decide +kernel
theorem dX9_readNumber_12 : decode cX9_readNumber 12 = .ok (.invokestatic 47, 3) := by decide +kernel
theorem dX9_readNumber_15 : decode cX9_readNumber 15 = .ok (.istore 4, 2) := by decide +kernel
theorem dX9_readNumber_17 : decode cX9_readNumber 17 = .ok (.iconst 0, 1) := by decide +kernel
theorem dX9_readNumber_18 : decode cX9_readNumber 18 = .ok (.istore 5, 2) := by decide +kernel
theorem dX9_readNumber_20 : decode cX9_readNumber 20 = .ok (.aload_n 0, 1) := by decide +kernel
theorem dX9_readNumber_21 : decode cX9_readNumber 21 = .ok (.getfield 22, 3) := by decide +kernel
theorem dX9_readNumber_24 : decode cX9_readNumber 24 = .ok (.iload 4, 2) := by decide +kernel
theorem dX9_readNumber_26 : decode cX9_readNumber 26 = .ok (.if_icmp .ge 64, 3) := by decide +kernel
theorem dX9_readNumber_29 : decode cX9_readNumber 29 = .ok (.aload_n 0, 1) := by decide +kernel
theorem dX9_readNumber_30 : decode cX9_readNumber 30 = .ok (.getfield 9, 3) := by decide +kernel
theorem dX9_readNumber_33 : decode cX9_readNumber 33 = .ok (.aload_n 0, 1) := by decide +kernel
theorem dX9_readNumber_34 : decode cX9_readNumber 34 = .ok (.getfield 22, 3) := by decide +kernel
theorem dX9_readNumber_37 : decode cX9_readNumber 37 = .ok (.baload, 1) := by decide +kernel
theorem dX9_readNumber_38 : decode cX9_readNumber 38 = .ok (.bipush 48, 2) := by decide +kernel
theorem dX9_readNumber_40 : decode cX9_readNumber 40 = .ok (.if_icmp .lt 50, 3) := by decide +kernel
theorem dX9_readNumber_43 : decode cX9_readNumber 43 = .ok (.aload_n 0, 1) := by decide +kernel
theorem dX9_readNumber_44 : decode cX9_readNumber 44 = .ok (.getfield 9, 3) := by decide +kernel
theorem dX9_readNumber_47 : decode cX9_readNumber 47 = .ok (.aload_n 0, 1) := by decide +kernel
theorem dX9_readNumber_48 : decode cX9_readNumber 48 = .ok (.getfield 22, 3) := by decide +kernel
theorem dX9_readNumber_51 : decode cX9_readNumber 51 = .ok (.baload, 1) := by decide +kernel
theorem dX9_readNumber_52 : decode cX9_readNumber 52 = .ok (.bipush 57, 2) := by decide +kernel
theorem dX9_readNumber_54 : decode cX9_readNumber 54 = .ok (.if_icmp .gt 36, 3) := by decide +kernel
theorem dX9_readNumber_57 : decode cX9_readNumber 57 = .ok (.iload 5, 2) := by decide +kernel
theorem dX9_readNumber_59 : decode cX9_readNumber 59 = .ok (.bipush 10, 2) := by decide +kernel
theorem dX9_readNumber_61 : decode cX9_readNumber 61 = .ok (.imul, 1) := by decide +kernel
theorem dX9_readNumber_62 : decode cX9_readNumber 62 = .ok (.aload_n 0, 1) := by decide +kernel
theorem dX9_readNumber_63 : decode cX9_readNumber 63 = .ok (.getfield 9, 3) := by decide +kernel
theorem dX9_readNumber_66 : decode cX9_readNumber 66 = .ok (.aload_n 0, 1) := by decide +kernel
theorem dX9_readNumber_67 : decode cX9_readNumber 67 = .ok (.getfield 22, 3) := by decide +kernel
theorem dX9_readNumber_70 : decode cX9_readNumber 70 = .ok (.baload, 1) := by decide +kernel
theorem dX9_readNumber_71 : decode cX9_readNumber 71 = .ok (.iadd, 1) := by decide +kernel
theorem dX9_readNumber_72 : decode cX9_readNumber 72 = .ok (.bipush 48, 2) := by decide +kernel
theorem dX9_readNumber_74 : decode cX9_readNumber 74 = .ok (.isub, 1) := by decide +kernel
theorem dX9_readNumber_75 : decode cX9_readNumber 75 = .ok (.istore 5, 2) := by decide +kernel
theorem dX9_readNumber_77 : decode cX9_readNumber 77 = .ok (.aload_n 0, 1) := by decide +kernel
theorem dX9_readNumber_78 : decode cX9_readNumber 78 = .ok (.dup, 1) := by decide +kernel
theorem dX9_readNumber_79 : decode cX9_readNumber 79 = .ok (.getfield 22, 3) := by decide +kernel
theorem dX9_readNumber_82 : decode cX9_readNumber 82 = .ok (.iconst 1, 1) := by decide +kernel
theorem dX9_readNumber_83 : decode cX9_readNumber 83 = .ok (.iadd, 1) := by decide +kernel
theorem dX9_readNumber_84 : decode cX9_readNumber 84 = .ok (.putfield 22, 3) := by decide +kernel
theorem dX9_readNumber_87 : decode cX9_readNumber 87 = .ok (.goto (-67), 3) := by decide +kernel
theorem dX9_readNumber_90 : decode cX9_readNumber 90 = .ok (.aload_n 0, 1) := by decide +kernel
theorem dX9_readNumber_91 : decode cX9_readNumber 91 = .ok (.getfield 22, 3) := by decide +kernel
theorem dX9_readNumber_94 : decode cX9_readNumber 94 = .ok (.iload_n 3, 1) := by decide +kernel
theorem dX9_readNumber_95 : decode cX9_readNumber 95 = .ok (.if_icmp .eq 12, 3) := by decide +kernel
theorem dX9_readNumber_98 : decode cX9_readNumber 98 = .ok (.iload_n 2, 1) := by decide +kernel
theorem dX9_readNumber_99 : decode cX9_readNumber 99 = .ok (.iload 5, 2) := by decide +kernel
theorem dX9_readNumber_101 : decode cX9_readNumber 101 = .ok (.invokestatic 53, 3) := by decide +kernel
theorem dX9_readNumber_104 : decode cX9_readNumber 104 = .ok (.ifCond .ne 5, 3) := by decide +kernel
theorem dX9_readNumber_107 : decode cX9_readNumber 107 = .ok (.iload_n 3, 1) := by decide +kernel
theorem dX9_readNumber_108 : decode cX9_readNumber 108 = .ok (.ireturn, 1) := by decide +kernel
theorem dX9_readNumber_109 : decode cX9_readNumber 109 = .ok (.aload_n 1, 1) := by decide +kernel
theorem dX9_readNumber_110 : decode cX9_readNumber 110 = .ok (.iload_n 2, 1) := by decide +kernel
theorem dX9_readNumber_111 : decode cX9_readNumber 111 = .ok (.iload 5, 2) := by decide +kernel
theorem dX9_readNumber_113 : decode cX9_readNumber 113 = .ok (.invokevirtual 35, 3) := by decide +kernel
theorem dX9_readNumber_116 : decode cX9_readNumber 116 = .ok (.iconst (-1), 1) := by decide +kernel
theorem dX9_readNumber_117 : decode cX9_readNumber 117 = .ok (.ireturn, 1) := by decide +kernel
def b_X9_readNumber_90 (S : SH) (a0 : Nat) (a1 : Nat) (a2 : Int32) (a3 : Int32) (a5 : Int32) (μ : Mem) : Option (Int32 × Mem) :=
 (gI S 9 a0 2 μ).bind fun v5 =>
 (if v5 = a3 then
 some (a3, μ)
 else
 (f_X11_fitsDial S a2 a5 μ).bind fun q6 =>
 (if q6.1 = 0 then
 some (a3, q6.2)
 else
 (f_X6_append S a1 a2 a5 q6.2).bind fun q7 =>
 some ((-1), q7.2)))
set_option maxRecDepth 100000 in
set_option maxHeartbeats 4000000 in
theorem s_X9_readNumber_90 {γ : GE} {p : Program} {l : Launch} {e : Env} {s : State} {m : MethodId} {args : Array Value} {below : List Frame} {meth : Method} {c : Code} {S : SH} {X : (Int32 × Mem)} (F : FX γ p s m args meth c cX9_readNumber RX9 6) (hr : meth.sig.returnType = (some .int))  (a0 : Nat) (a1 : Nat) (a2 : Int32) (a3 : Int32) (a5 : Int32)  (μ : Mem) (h : b_X9_readNumber_90 S a0 a1 a2 a3 a5 μ = some X) : JJ γ p l e rm_X9_readNumber s m args below meth c 6 0 0 (QI below γ S X args s 0 0) S μ 90 [(0, .ref (gb γ + a0)), (1, .ref (gb γ + a1)), (2, .int a2), (3, .int a3), (5, .int a5)] [] := by
  unfold b_X9_readNumber_90 at h
  refine j_aload_n F 0 dX9_readNumber_90 rfl ?_
  refine j_gI F fl_RX9_22.l rfl dX9_readNumber_91 h (fun v5 h => ?_)
  refine j_iload_n F 3 dX9_readNumber_94 rfl ?_
  refine j_icmpeq F 107 dX9_readNumber_95 (by decide) h (fun _ h => ?_) (fun _ h => ?_)
  · refine j_iload_n F 3 dX9_readNumber_107 rfl ?_
    exact j_iret F hr dX9_readNumber_108 h
  · refine j_iload_n F 2 dX9_readNumber_98 rfl ?_
    refine j_iload F 4 dX9_readNumber_99 rfl ?_
    refine j_cNI F mi_X11_fitsDial (by decide +kernel) (rest := []) h (fun _ g => c_X11_fitsDial g) rfl rfl (Nat.le_of_ble_eq_true rfl) ⟨Nat.le_of_ble_eq_true rfl, Nat.le_of_ble_eq_true rfl⟩ ⟨Nat.le_of_ble_eq_true rfl, Nat.le_of_ble_eq_true rfl⟩ dX9_readNumber_101 (fun q6 h => ?_)
    refine j_ifne F 109 dX9_readNumber_104 (by decide) h (fun _ h => ?_) (fun _ h => ?_)
    · refine j_aload_n F 1 dX9_readNumber_109 rfl ?_
      refine j_iload_n F 2 dX9_readNumber_110 rfl ?_
      refine j_iload F 4 dX9_readNumber_111 rfl ?_
      refine j_cVV F mi_X6_append w_806 (rest := []) h (fun _ g => c_X6_append g) rfl rfl (Nat.le_of_ble_eq_true rfl) ⟨Nat.le_of_ble_eq_true rfl, Nat.le_of_ble_eq_true rfl⟩ ⟨Nat.le_of_ble_eq_true rfl, Nat.le_of_ble_eq_true rfl⟩ dX9_readNumber_113 (fun q7 h => ?_)
      refine j_iconst F (-1) dX9_readNumber_116 (by decide) ?_
      exact j_iret F hr dX9_readNumber_117 h
    · refine j_iload_n F 3 dX9_readNumber_107 rfl ?_
      exact j_iret F hr dX9_readNumber_108 h
def l_X9_readNumber_20 (S : SH) (a0 : Nat) (a1 : Nat) (a2 : Int32) (a3 : Int32) (a4 : Int32) (k20 : (Int32 × Mem) → Option (Int32 × Mem)) (x : (Int32 × Mem)) : Option (Int32 × Mem) :=
 (gI S 9 a0 2 x.2).bind fun v4 =>
 (if a4 ≤ v4 then
 b_X9_readNumber_90 S a0 a1 a2 a3 x.1 x.2
 else
 (gR S 9 a0 0).bind fun v8 =>
 (gI S 9 a0 2 x.2).bind fun v9 =>
 (aI S .byte v8 v9 x.2).bind fun v10 =>
 (if v10 < 48 then
 b_X9_readNumber_90 S a0 a1 a2 a3 x.1 x.2
 else
 (gR S 9 a0 0).bind fun v11 =>
 (gI S 9 a0 2 x.2).bind fun v12 =>
 (aI S .byte v11 v12 x.2).bind fun v13 =>
 (if 57 < v13 then
 b_X9_readNumber_90 S a0 a1 a2 a3 x.1 x.2
 else
 (gR S 9 a0 0).bind fun v14 =>
 (gI S 9 a0 2 x.2).bind fun v15 =>
 (aI S .byte v14 v15 x.2).bind fun v16 =>
 (some (((x.1 * 10) + v16) - 48)).bind fun y17 =>
 (gI S 9 a0 2 x.2).bind fun v18 =>
 (pI S 9 a0 2 (v18 + 1) x.2).bind fun ν19 =>
 k20 (y17, ν19))))
set_option maxRecDepth 100000 in
set_option maxHeartbeats 4000000 in
theorem t_X9_readNumber_20 {γ : GE} {p : Program} {l : Launch} {e : Env} {s : State} {m : MethodId} {args : Array Value} {below : List Frame} {meth : Method} {c : Code} {S : SH} {X : (Int32 × Mem)} (F : FX γ p s m args meth c cX9_readNumber RX9 6) (hr : meth.sig.returnType = (some .int)) (a0 : Nat) (a1 : Nat) (a2 : Int32) (a3 : Int32) (a4 : Int32) (k20 : (Int32 × Mem) → Option (Int32 × Mem)) (hk20 : ∀ x : (Int32 × Mem), k20 x = some X → JJ γ p l e rm_X9_readNumber s m args below meth c 6 0 0 (QI below γ S X args s 0 0) S x.2 20 [(0, .ref (gb γ + a0)), (1, .ref (gb γ + a1)), (2, .int a2), (3, .int a3), (4, .int a4), (5, .int x.1)] []) (x : (Int32 × Mem)) (h : l_X9_readNumber_20 S a0 a1 a2 a3 a4 k20 x = some X) : JJ γ p l e rm_X9_readNumber s m args below meth c 6 0 0 (QI below γ S X args s 0 0) S x.2 20 [(0, .ref (gb γ + a0)), (1, .ref (gb γ + a1)), (2, .int a2), (3, .int a3), (4, .int a4), (5, .int x.1)] [] := by
  unfold l_X9_readNumber_20 at h
  refine j_aload_n F 0 dX9_readNumber_20 rfl ?_
  refine j_gI F fl_RX9_22.l rfl dX9_readNumber_21 h (fun v4 h => ?_)
  refine j_iload F 4 dX9_readNumber_24 rfl ?_
  refine j_icmpge F 90 dX9_readNumber_26 (by decide) h (fun _ h => ?_) (fun _ h => ?_)
  · refine j_lv [(0, .ref (gb γ + a0)), (1, .ref (gb γ + a1)), (2, .int a2), (3, .int a3), (5, .int x.1)] [0, 1, 2, 3, 5] rfl ?_
    exact s_X9_readNumber_90 F hr _ _ _ _ _ _ h
  · refine j_aload_n F 0 dX9_readNumber_29 rfl ?_
    refine j_gR F fl_RX9_9 rfl dX9_readNumber_30 h (fun v8 h => ?_)
    refine j_aload_n F 0 dX9_readNumber_33 rfl ?_
    refine j_gI F fl_RX9_22.l rfl dX9_readNumber_34 h (fun v9 h => ?_)
    refine j_bald F dX9_readNumber_37 h (fun v10 h => ?_)
    refine j_bipush F 48 dX9_readNumber_38 (by decide) ?_
    refine j_icmplt F 90 dX9_readNumber_40 (by decide) h (fun _ h => ?_) (fun _ h => ?_)
    · refine j_lv [(0, .ref (gb γ + a0)), (1, .ref (gb γ + a1)), (2, .int a2), (3, .int a3), (5, .int x.1)] [0, 1, 2, 3, 5] rfl ?_
      exact s_X9_readNumber_90 F hr _ _ _ _ _ _ h
    · refine j_aload_n F 0 dX9_readNumber_43 rfl ?_
      refine j_gR F fl_RX9_9 rfl dX9_readNumber_44 h (fun v11 h => ?_)
      refine j_aload_n F 0 dX9_readNumber_47 rfl ?_
      refine j_gI F fl_RX9_22.l rfl dX9_readNumber_48 h (fun v12 h => ?_)
      refine j_bald F dX9_readNumber_51 h (fun v13 h => ?_)
      refine j_bipush F 57 dX9_readNumber_52 (by decide) ?_
      refine j_icmpgt F 90 dX9_readNumber_54 (by decide) h (fun _ h => ?_) (fun _ h => ?_)
      · refine j_lv [(0, .ref (gb γ + a0)), (1, .ref (gb γ + a1)), (2, .int a2), (3, .int a3), (5, .int x.1)] [0, 1, 2, 3, 5] rfl ?_
        exact s_X9_readNumber_90 F hr _ _ _ _ _ _ h
      · refine j_iload F 5 dX9_readNumber_57 rfl ?_
        refine j_bipush F 10 dX9_readNumber_59 (by decide) ?_
        refine j_imul F dX9_readNumber_61 ?_
        refine j_aload_n F 0 dX9_readNumber_62 rfl ?_
        refine j_gR F fl_RX9_9 rfl dX9_readNumber_63 h (fun v14 h => ?_)
        refine j_aload_n F 0 dX9_readNumber_66 rfl ?_
        refine j_gI F fl_RX9_22.l rfl dX9_readNumber_67 h (fun v15 h => ?_)
        refine j_bald F dX9_readNumber_70 h (fun v16 h => ?_)
        refine j_iadd F dX9_readNumber_71 ?_
        refine j_bipush F 48 dX9_readNumber_72 (by decide) ?_
        refine j_isub F dX9_readNumber_74 ?_
        refine j_nmI h (fun y17 h => ?_)
        refine j_istore F [(5, .int y17), (0, .ref (gb γ + a0)), (1, .ref (gb γ + a1)), (2, .int a2), (3, .int a3), (4, .int a4)] dX9_readNumber_75 (by decide) rfl ?_
        refine j_aload_n F 1 dX9_readNumber_77 rfl ?_
        refine j_dup F dX9_readNumber_78 rfl ?_
        refine j_gI F fl_RX9_22.l rfl dX9_readNumber_79 h (fun v18 h => ?_)
        refine j_iconst F 1 dX9_readNumber_82 (by decide) ?_
        refine j_iadd F dX9_readNumber_83 ?_
        refine j_pI F fl_RX9_22 rfl dX9_readNumber_84 h (fun ν19 h => ?_)
        refine j_goto F 20 dX9_readNumber_87 (by decide) ?_
        refine j_lv [(0, .ref (gb γ + a0)), (1, .ref (gb γ + a1)), (2, .int a2), (3, .int a3), (4, .int a4), (5, .int y17)] [1, 2, 3, 4, 5, 0] rfl ?_
        have h9 := hk20 _ h
        exact h9
theorem s_X9_readNumber_20 {γ : GE} {p : Program} {l : Launch} {e : Env} {s : State} {m : MethodId} {args : Array Value} {below : List Frame} {meth : Method} {c : Code} {S : SH} {X : (Int32 × Mem)} (F : FX γ p s m args meth c cX9_readNumber RX9 6) (hr : meth.sig.returnType = (some .int)) (a0 : Nat) (a1 : Nat) (a2 : Int32) (a3 : Int32) (a4 : Int32) (x : (Int32 × Mem)) (h : lpN (l_X9_readNumber_20 S a0 a1 a2 a3 a4) fu x = some X) : JJ γ p l e rm_X9_readNumber s m args below meth c 6 0 0 (QI below γ S X args s 0 0) S x.2 20 [(0, .ref (gb γ + a0)), (1, .ref (gb γ + a1)), (2, .int a2), (3, .int a3), (4, .int a4), (5, .int x.1)] [] :=
 lpN_sound (fun x => JJ γ p l e rm_X9_readNumber s m args below meth c 6 0 0 (QI below γ S X args s 0 0) S x.2 20 [(0, .ref (gb γ + a0)), (1, .ref (gb γ + a1)), (2, .int a2), (3, .int a3), (4, .int a4), (5, .int x.1)] []) (fun k20 hk20 x h => t_X9_readNumber_20 F hr a0 a1 a2 a3 a4 k20 hk20 x h) fu x h
def f_X9_readNumber (S : SH) (a0 : Nat) (a1 : Nat) (a2 : Int32) (μ : Mem) : Option (Int32 × Mem) :=
  if isO S 9 a0 = true then
  (gI S 9 a0 2 μ).bind fun v1 =>
  (gI S 9 a0 1 μ).bind fun v2 =>
  (some ((if (v1 + 4) < v2 then v1 + 4 else v2))).bind fun y3 =>
  lpN (l_X9_readNumber_20 S  a0 a1 a2 v1 y3) fu (0, μ)
  else none
set_option maxRecDepth 100000 in
set_option maxHeartbeats 4000000 in
theorem c_X9_readNumber {l : Launch} {γ : GE} {S : SH} {a0 : Nat} {a1 : Nat} {a2 : Int32} {μ : Mem} {X : (Int32 × Mem)} (h : f_X9_readNumber S a0 a1 a2 μ = some X) : isO S 9 a0 = true ∧ Ct l γ yX9_readNumber cX9_readNumber 6 (some .int) rm_X9_readNumber [.ref (gb γ + a0), .ref (gb γ + a1), .int a2] S μ S X.2 (some (.int X.1)) := by
  unfold f_X9_readNumber at h
  obtain ⟨h0, h⟩ := if_some h
  refine ⟨h0, ?_⟩
  have hJ : ∀ (p : Program) (e : Env) (s : State) (m : MethodId) (args : Array Value) (below : List Frame) (meth : Method) (c : Code), FX γ p s m args meth c cX9_readNumber RX9 6 → meth.sig.returnType = (some .int) → JJ γ p l e rm_X9_readNumber s m args below meth c 6 0 0 (QI below γ S X args s 0 0) S μ 0 [(0, .ref (gb γ + a0)), (1, .ref (gb γ + a1)), (2, .int a2)] [] := by
    intro p e s m args below meth c F hr
    refine j_aload_n F 0 dX9_readNumber_0 rfl ?_
    refine j_gI F fl_RX9_22.l rfl dX9_readNumber_1 h (fun v1 h => ?_)
    refine j_istore_n F [(3, .int v1), (0, .ref (gb γ + a0)), (1, .ref (gb γ + a1)), (2, .int a2)] dX9_readNumber_4 rfl (by decide) rfl ?_
    refine j_aload_n F 1 dX9_readNumber_5 rfl ?_
    refine j_gI F fl_RX9_15.l rfl dX9_readNumber_6 h (fun v2 h => ?_)
    refine j_iload_n F 0 dX9_readNumber_9 rfl ?_
    refine j_iconst F 4 dX9_readNumber_10 (by decide) ?_
    refine j_iadd F dX9_readNumber_11 ?_
    refine j_mmin F w_822 ⟨Nat.le_of_ble_eq_true rfl, Nat.le_of_ble_eq_true rfl, Nat.le_of_ble_eq_true rfl, Nat.le_of_ble_eq_true rfl⟩ dX9_readNumber_12 mg_min ?_
    refine j_nmI h (fun y3 h => ?_)
    refine j_istore F [(4, .int y3), (3, .int v1), (0, .ref (gb γ + a0)), (1, .ref (gb γ + a1)), (2, .int a2)] dX9_readNumber_15 (by decide) rfl ?_
    refine j_iconst F 0 dX9_readNumber_17 (by decide) ?_
    refine j_istore F [(5, .int 0), (4, .int y3), (3, .int v1), (0, .ref (gb γ + a0)), (1, .ref (gb γ + a1)), (2, .int a2)] dX9_readNumber_18 (by decide) rfl ?_
    refine j_lv [(0, .ref (gb γ + a0)), (1, .ref (gb γ + a1)), (2, .int a2), (3, .int v1), (4, .int y3), (5, .int 0)] [3, 4, 5, 2, 1, 0] rfl ?_
    exact s_X9_readNumber_20 F hr _ _ _ _ _ _ h
  exact ct_of (by decide +kernel) (Nat.le_of_ble_eq_true rfl) (fun p e s m args below meth c F hr _ => hJ p e s m args below meth c F hr)
def rm_X9_readStep : Room := { frames := 6, cells := 0, slots := 0, locals := 184 }
theorem dX9_readStep_0 : decode cX9_readStep 0 = .ok (.aload_n 0, 1) := by decide +kernel
theorem dX9_readStep_1 : decode cX9_readStep 1 = .ok (.getfield 22, 3) := by decide +kernel
theorem dX9_readStep_4 : decode cX9_readStep 4 = .ok (.istore_n 2, 1) := by decide +kernel
theorem dX9_readStep_5 : decode cX9_readStep 5 = .ok (.aload_n 0, 1) := by decide +kernel
theorem dX9_readStep_6 : decode cX9_readStep 6 = .ok (.getfield 22, 3) := by decide +kernel
theorem dX9_readStep_9 : decode cX9_readStep 9 = .ok (.aload_n 0, 1) := by decide +kernel
theorem dX9_readStep_10 : decode cX9_readStep 10 = .ok (.getfield 15, 3) := by decide +kernel
theorem dX9_readStep_13 : decode cX9_readStep 13 = .ok (.if_icmp .ge 44, 3) := by decide +kernel
theorem dX9_readStep_16 : decode cX9_readStep 16 = .ok (.aload_n 0, 1) := by decide +kernel
theorem dX9_readStep_17 : decode cX9_readStep 17 = .ok (.getfield 9, 3) := by decide +kernel
theorem dX9_readStep_20 : decode cX9_readStep 20 = .ok (.aload_n 0, 1) := by decide +kernel
theorem dX9_readStep_21 : decode cX9_readStep 21 = .ok (.getfield 22, 3) := by decide +kernel
theorem dX9_readStep_24 : decode cX9_readStep 24 = .ok (.baload, 1) := by decide +kernel
theorem dX9_readStep_25 : decode cX9_readStep 25 = .ok (.bipush 97, 2) := by decide +kernel
theorem dX9_readStep_27 : decode cX9_readStep 27 = .ok (.if_icmp .lt 30, 3) := by decide +kernel
theorem dX9_readStep_30 : decode cX9_readStep 30 = .ok (.aload_n 0, 1) := by decide +kernel
theorem dX9_readStep_31 : decode cX9_readStep 31 = .ok (.getfield 9, 3) := by decide +kernel
theorem dX9_readStep_34 : decode cX9_readStep 34 = .ok (.aload_n 0, 1) := by decide +kernel
theorem dX9_readStep_35 : decode cX9_readStep 35 = .ok (.getfield 22, 3) := by decide +kernel
theorem dX9_readStep_38 : decode cX9_readStep 38 = .ok (.baload, 1) := by decide +kernel
theorem dX9_readStep_39 : decode cX9_readStep 39 = .ok (.bipush 122, 2) := by decide +kernel
theorem dX9_readStep_41 : decode cX9_readStep 41 = .ok (.if_icmp .gt 16, 3) := by decide +kernel
theorem dX9_readStep_44 : decode cX9_readStep 44 = .ok (.aload_n 0, 1) := by decide +kernel
theorem dX9_readStep_45 : decode cX9_readStep 45 = .ok (.dup, 1) := by decide +kernel
theorem dX9_readStep_46 : decode cX9_readStep 46 = .ok (.getfield 22, 3) := by decide +kernel
theorem dX9_readStep_49 : decode cX9_readStep 49 = .ok (.iconst 1, 1) := by decide +kernel
theorem dX9_readStep_50 : decode cX9_readStep 50 = .ok (.iadd, 1) := by decide +kernel
theorem dX9_readStep_51 : decode cX9_readStep 51 = .ok (.putfield 22, 3) := by decide +kernel
theorem dX9_readStep_54 : decode cX9_readStep 54 = .ok (.goto (-49), 3) := by decide +kernel
theorem dX9_readStep_57 : decode cX9_readStep 57 = .ok (.aload_n 0, 1) := by decide +kernel
theorem dX9_readStep_58 : decode cX9_readStep 58 = .ok (.iload_n 2, 1) := by decide +kernel
theorem dX9_readStep_59 : decode cX9_readStep 59 = .ok (.ldc 29, 2) := by decide +kernel
theorem dX9_readStep_61 : decode cX9_readStep 61 = .ok (.invokevirtual 31, 3) := by decide +kernel
theorem dX9_readStep_64 : decode cX9_readStep 64 = .ok (.ifCond .eq 11, 3) := by decide +kernel
theorem dX9_readStep_67 : decode cX9_readStep 67 = .ok (.aload_n 1, 1) := by decide +kernel
theorem dX9_readStep_68 : decode cX9_readStep 68 = .ok (.iconst 3, 1) := by decide +kernel
theorem dX9_readStep_69 : decode cX9_readStep 69 = .ok (.iconst 0, 1) := by decide +kernel
theorem dX9_readStep_70 : decode cX9_readStep 70 = .ok (.invokevirtual 35, 3) := by decide +kernel
theorem dX9_readStep_73 : decode cX9_readStep 73 = .ok (.iconst (-1), 1) := by decide +kernel
theorem dX9_readStep_74 : decode cX9_readStep 74 = .ok (.ireturn, 1) := by decide +kernel
theorem dX9_readStep_75 : decode cX9_readStep 75 = .ok (.aload_n 0, 1) := by decide +kernel
theorem dX9_readStep_76 : decode cX9_readStep 76 = .ok (.iload_n 2, 1) := by decide +kernel
theorem dX9_readStep_77 : decode cX9_readStep 77 = .ok (.invokevirtual 39, 3) := by decide +kernel
theorem dX9_readStep_80 : decode cX9_readStep 80 = .ok (.istore_n 3, 1) := by decide +kernel
theorem dX9_readStep_81 : decode cX9_readStep 81 = .ok (.iload_n 3, 1) := by decide +kernel
theorem dX9_readStep_82 : decode cX9_readStep 82 = .ok (.iconst (-1), 1) := by decide +kernel
theorem dX9_readStep_83 : decode cX9_readStep 83 = .ok (.if_icmp .ne 5, 3) := by decide +kernel
theorem dX9_readStep_86 : decode cX9_readStep 86 = .ok (.iload_n 2, 1) := by decide +kernel
theorem dX9_readStep_87 : decode cX9_readStep 87 = .ok (.ireturn, 1) := by decide +kernel
theorem dX9_readStep_88 : decode cX9_readStep 88 = .ok (.aload_n 0, 1) := by decide +kernel
theorem dX9_readStep_89 : decode cX9_readStep 89 = .ok (.getfield 22, 3) := by decide +kernel
theorem dX9_readStep_92 : decode cX9_readStep 92 = .ok (.aload_n 0, 1) := by decide +kernel
theorem dX9_readStep_93 : decode cX9_readStep 93 = .ok (.getfield 15, 3) := by decide +kernel
theorem dX9_readStep_96 : decode cX9_readStep 96 = .ok (.if_icmp .eq 17, 3) := by decide +kernel
theorem dX9_readStep_99 : decode cX9_readStep 99 = .ok (.aload_n 0, 1) := by decide +kernel
theorem dX9_readStep_100 : decode cX9_readStep 100 = .ok (.getfield 9, 3) := by decide +kernel
theorem dX9_readStep_103 : decode cX9_readStep 103 = .ok (.aload_n 0, 1) := by decide +kernel
theorem dX9_readStep_104 : decode cX9_readStep 104 = .ok (.getfield 22, 3) := by decide +kernel
theorem dX9_readStep_107 : decode cX9_readStep 107 = .ok (.baload, 1) := by decide +kernel
theorem dX9_readStep_108 : decode cX9_readStep 108 = .ok (.bipush 32, 2) := by decide +kernel
theorem dX9_readStep_110 : decode cX9_readStep 110 = .ok (.if_icmp .eq 8, 3) := by decide +kernel
theorem dX9_readStep_113 : decode cX9_readStep 113 = .ok (.aload_n 0, 1) := by decide +kernel
theorem dX9_readStep_114 : decode cX9_readStep 114 = .ok (.getfield 22, 3) := by decide +kernel
theorem dX9_readStep_117 : decode cX9_readStep 117 = .ok (.ireturn, 1) := by decide +kernel
theorem dX9_readStep_118 : decode cX9_readStep 118 = .ok (.aload_n 0, 1) := by decide +kernel
theorem dX9_readStep_119 : decode cX9_readStep 119 = .ok (.dup, 1) := by decide +kernel
theorem dX9_readStep_120 : decode cX9_readStep 120 = .ok (.getfield 22, 3) := by decide +kernel
theorem dX9_readStep_123 : decode cX9_readStep 123 = .ok (.iconst 1, 1) := by decide +kernel
theorem dX9_readStep_124 : decode cX9_readStep 124 = .ok (.iadd, 1) := by decide +kernel
theorem dX9_readStep_125 : decode cX9_readStep 125 = .ok (.putfield 22, 3) := by decide +kernel
theorem dX9_readStep_128 : decode cX9_readStep 128 = .ok (.aload_n 0, 1) := by decide +kernel
theorem dX9_readStep_129 : decode cX9_readStep 129 = .ok (.aload_n 1, 1) := by decide +kernel
theorem dX9_readStep_130 : decode cX9_readStep 130 = .ok (.iload_n 3, 1) := by decide +kernel
theorem dX9_readStep_131 : decode cX9_readStep 131 = .ok (.invokevirtual 43, 3) := by decide +kernel
theorem dX9_readStep_134 : decode cX9_readStep 134 = .ok (.ireturn, 1) := by decide +kernel
def b_X9_readStep_57 (S : SH) (a0 : Nat) (a1 : Nat) (a2 : Int32) (μ : Mem) : Option (Int32 × Mem) :=
 (f_X9_spells S a0 a2 0 μ).bind fun q4 =>
 (if q4.1 = 0 then
 (f_X9_dialOfWord S a0 a2 q4.2).bind fun q5 =>
 (if q5.1 = (-1) then
 some (a2, q5.2)
 else
 (gI S 9 a0 2 q5.2).bind fun v6 =>
 (gI S 9 a0 1 q5.2).bind fun v7 =>
 (if v6 = v7 then
 (gI S 9 a0 2 q5.2).bind fun v8 =>
 some (v8, q5.2)
 else
 (gR S 9 a0 0).bind fun v9 =>
 (gI S 9 a0 2 q5.2).bind fun v10 =>
 (aI S .byte v9 v10 q5.2).bind fun v11 =>
 (if v11 = 32 then
 (gI S 9 a0 2 q5.2).bind fun v12 =>
 (pI S 9 a0 2 (v12 + 1) q5.2).bind fun ν13 =>
 (f_X9_readNumber S a0 a1 q5.1 ν13).bind fun q14 =>
 some (q14.1, q14.2)
 else
 (gI S 9 a0 2 q5.2).bind fun v15 =>
 some (v15, q5.2))))
 else
 (f_X6_append S a1 3 0 q4.2).bind fun q16 =>
 some ((-1), q16.2))
set_option maxRecDepth 100000 in
set_option maxHeartbeats 4000000 in
theorem s_X9_readStep_57 {γ : GE} {p : Program} {l : Launch} {e : Env} {s : State} {m : MethodId} {args : Array Value} {below : List Frame} {meth : Method} {c : Code} {S : SH} {X : (Int32 × Mem)} (F : FX γ p s m args meth c cX9_readStep RX9 4) (hr : meth.sig.returnType = (some .int))  (a0 : Nat) (a1 : Nat) (a2 : Int32)  (μ : Mem) (h : b_X9_readStep_57 S a0 a1 a2 μ = some X) : JJ γ p l e rm_X9_readStep s m args below meth c 4 0 0 (QI below γ S X args s 0 0) S μ 57 [(0, .ref (gb γ + a0)), (1, .ref (gb γ + a1)), (2, .int a2)] [] := by
  unfold b_X9_readStep_57 at h
  refine j_aload_n F 0 dX9_readStep_57 rfl ?_
  refine j_iload_n F 2 dX9_readStep_58 rfl ?_
  refine j_ldcS F 0 (by decide) rfl rfl dX9_readStep_59 ?_
  refine j_cVI F mi_X9_spells w_754 (rest := []) h (fun _ g => c_X9_spells g) rfl rfl (Nat.le_of_ble_eq_true rfl) ⟨Nat.le_of_ble_eq_true rfl, Nat.le_of_ble_eq_true rfl⟩ ⟨Nat.le_of_ble_eq_true rfl, Nat.le_of_ble_eq_true rfl⟩ dX9_readStep_61 (fun q4 h => ?_)
  refine j_ifeq F 75 dX9_readStep_64 (by decide) h (fun _ h => ?_) (fun _ h => ?_)
  · refine j_aload_n F 0 dX9_readStep_75 rfl ?_
    refine j_iload_n F 2 dX9_readStep_76 rfl ?_
    refine j_cVI F mi_X9_dialOfWord w_810 (rest := []) h (fun _ g => c_X9_dialOfWord g) rfl rfl (Nat.le_of_ble_eq_true rfl) ⟨Nat.le_of_ble_eq_true rfl, Nat.le_of_ble_eq_true rfl⟩ ⟨Nat.le_of_ble_eq_true rfl, Nat.le_of_ble_eq_true rfl⟩ dX9_readStep_77 (fun q5 h => ?_)
    refine j_istore_n F [(3, .int q5.1), (0, .ref (gb γ + a0)), (1, .ref (gb γ + a1)), (2, .int a2)] dX9_readStep_80 rfl (by decide) rfl ?_
    refine j_iload_n F 0 dX9_readStep_81 rfl ?_
    refine j_iconst F (-1) dX9_readStep_82 (by decide) ?_
    refine j_icmpne F 88 dX9_readStep_83 (by decide) h (fun _ h => ?_) (fun _ h => ?_)
    · refine j_aload_n F 1 dX9_readStep_88 rfl ?_
      refine j_gI F fl_RX9_22.l rfl dX9_readStep_89 h (fun v6 h => ?_)
      refine j_aload_n F 1 dX9_readStep_92 rfl ?_
      refine j_gI F fl_RX9_15.l rfl dX9_readStep_93 h (fun v7 h => ?_)
      refine j_icmpeq F 113 dX9_readStep_96 (by decide) h (fun _ h => ?_) (fun _ h => ?_)
      · refine j_aload_n F 1 dX9_readStep_113 rfl ?_
        refine j_gI F fl_RX9_22.l rfl dX9_readStep_114 h (fun v8 h => ?_)
        exact j_iret F hr dX9_readStep_117 h
      · refine j_aload_n F 1 dX9_readStep_99 rfl ?_
        refine j_gR F fl_RX9_9 rfl dX9_readStep_100 h (fun v9 h => ?_)
        refine j_aload_n F 1 dX9_readStep_103 rfl ?_
        refine j_gI F fl_RX9_22.l rfl dX9_readStep_104 h (fun v10 h => ?_)
        refine j_bald F dX9_readStep_107 h (fun v11 h => ?_)
        refine j_bipush F 32 dX9_readStep_108 (by decide) ?_
        refine j_icmpeq F 118 dX9_readStep_110 (by decide) h (fun _ h => ?_) (fun _ h => ?_)
        · refine j_aload_n F 1 dX9_readStep_118 rfl ?_
          refine j_dup F dX9_readStep_119 rfl ?_
          refine j_gI F fl_RX9_22.l rfl dX9_readStep_120 h (fun v12 h => ?_)
          refine j_iconst F 1 dX9_readStep_123 (by decide) ?_
          refine j_iadd F dX9_readStep_124 ?_
          refine j_pI F fl_RX9_22 rfl dX9_readStep_125 h (fun ν13 h => ?_)
          refine j_aload_n F 1 dX9_readStep_128 rfl ?_
          refine j_aload_n F 2 dX9_readStep_129 rfl ?_
          refine j_iload_n F 0 dX9_readStep_130 rfl ?_
          refine j_cVI F mi_X9_readNumber w_818 (rest := []) h (fun _ g => c_X9_readNumber g) rfl rfl (Nat.le_of_ble_eq_true rfl) ⟨Nat.le_of_ble_eq_true rfl, Nat.le_of_ble_eq_true rfl⟩ ⟨Nat.le_of_ble_eq_true rfl, Nat.le_of_ble_eq_true rfl⟩ dX9_readStep_131 (fun q14 h => ?_)
          exact j_iret F hr dX9_readStep_134 h
        · refine j_aload_n F 1 dX9_readStep_113 rfl ?_
          refine j_gI F fl_RX9_22.l rfl dX9_readStep_114 h (fun v15 h => ?_)
          exact j_iret F hr dX9_readStep_117 h
    · refine j_iload_n F 3 dX9_readStep_86 rfl ?_
      exact j_iret F hr dX9_readStep_87 h
  · refine j_aload_n F 1 dX9_readStep_67 rfl ?_
    refine j_iconst F 3 dX9_readStep_68 (by decide) ?_
    refine j_iconst F 0 dX9_readStep_69 (by decide) ?_
    refine j_cVV F mi_X6_append w_806 (rest := []) h (fun _ g => c_X6_append g) rfl rfl (Nat.le_of_ble_eq_true rfl) ⟨Nat.le_of_ble_eq_true rfl, Nat.le_of_ble_eq_true rfl⟩ ⟨Nat.le_of_ble_eq_true rfl, Nat.le_of_ble_eq_true rfl⟩ dX9_readStep_70 (fun q16 h => ?_)
    refine j_iconst F (-1) dX9_readStep_73 (by decide) ?_
    exact j_iret F hr dX9_readStep_74 h
def l_X9_readStep_5 (S : SH) (a0 : Nat) (a1 : Nat) (a2 : Int32) (k5 : (Mem) → Option (Int32 × Mem)) (x : (Mem)) : Option (Int32 × Mem) :=
 (gI S 9 a0 2 x).bind fun v2 =>
 (gI S 9 a0 1 x).bind fun v3 =>
 (if v3 ≤ v2 then
 b_X9_readStep_57 S a0 a1 a2 x
 else
 (gR S 9 a0 0).bind fun v17 =>
 (gI S 9 a0 2 x).bind fun v18 =>
 (aI S .byte v17 v18 x).bind fun v19 =>
 (if v19 < 97 then
 b_X9_readStep_57 S a0 a1 a2 x
 else
 (gR S 9 a0 0).bind fun v20 =>
 (gI S 9 a0 2 x).bind fun v21 =>
 (aI S .byte v20 v21 x).bind fun v22 =>
 (if 122 < v22 then
 b_X9_readStep_57 S a0 a1 a2 x
 else
 (gI S 9 a0 2 x).bind fun v23 =>
 (pI S 9 a0 2 (v23 + 1) x).bind fun ν24 =>
 k5 (ν24))))
set_option maxRecDepth 100000 in
set_option maxHeartbeats 4000000 in
theorem t_X9_readStep_5 {γ : GE} {p : Program} {l : Launch} {e : Env} {s : State} {m : MethodId} {args : Array Value} {below : List Frame} {meth : Method} {c : Code} {S : SH} {X : (Int32 × Mem)} (F : FX γ p s m args meth c cX9_readStep RX9 4) (hr : meth.sig.returnType = (some .int)) (a0 : Nat) (a1 : Nat) (a2 : Int32) (k5 : (Mem) → Option (Int32 × Mem)) (hk5 : ∀ x : (Mem), k5 x = some X → JJ γ p l e rm_X9_readStep s m args below meth c 4 0 0 (QI below γ S X args s 0 0) S x 5 [(0, .ref (gb γ + a0)), (1, .ref (gb γ + a1)), (2, .int a2)] []) (x : (Mem)) (h : l_X9_readStep_5 S a0 a1 a2 k5 x = some X) : JJ γ p l e rm_X9_readStep s m args below meth c 4 0 0 (QI below γ S X args s 0 0) S x 5 [(0, .ref (gb γ + a0)), (1, .ref (gb γ + a1)), (2, .int a2)] [] := by
  unfold l_X9_readStep_5 at h
  refine j_aload_n F 0 dX9_readStep_5 rfl ?_
  refine j_gI F fl_RX9_22.l rfl dX9_readStep_6 h (fun v2 h => ?_)
  refine j_aload_n F 0 dX9_readStep_9 rfl ?_
  refine j_gI F fl_RX9_15.l rfl dX9_readStep_10 h (fun v3 h => ?_)
  refine j_icmpge F 57 dX9_readStep_13 (by decide) h (fun _ h => ?_) (fun _ h => ?_)
  · exact s_X9_readStep_57 F hr _ _ _ _ h
  · refine j_aload_n F 0 dX9_readStep_16 rfl ?_
    refine j_gR F fl_RX9_9 rfl dX9_readStep_17 h (fun v17 h => ?_)
    refine j_aload_n F 0 dX9_readStep_20 rfl ?_
    refine j_gI F fl_RX9_22.l rfl dX9_readStep_21 h (fun v18 h => ?_)
    refine j_bald F dX9_readStep_24 h (fun v19 h => ?_)
    refine j_bipush F 97 dX9_readStep_25 (by decide) ?_
    refine j_icmplt F 57 dX9_readStep_27 (by decide) h (fun _ h => ?_) (fun _ h => ?_)
    · exact s_X9_readStep_57 F hr _ _ _ _ h
    · refine j_aload_n F 0 dX9_readStep_30 rfl ?_
      refine j_gR F fl_RX9_9 rfl dX9_readStep_31 h (fun v20 h => ?_)
      refine j_aload_n F 0 dX9_readStep_34 rfl ?_
      refine j_gI F fl_RX9_22.l rfl dX9_readStep_35 h (fun v21 h => ?_)
      refine j_bald F dX9_readStep_38 h (fun v22 h => ?_)
      refine j_bipush F 122 dX9_readStep_39 (by decide) ?_
      refine j_icmpgt F 57 dX9_readStep_41 (by decide) h (fun _ h => ?_) (fun _ h => ?_)
      · exact s_X9_readStep_57 F hr _ _ _ _ h
      · refine j_aload_n F 0 dX9_readStep_44 rfl ?_
        refine j_dup F dX9_readStep_45 rfl ?_
        refine j_gI F fl_RX9_22.l rfl dX9_readStep_46 h (fun v23 h => ?_)
        refine j_iconst F 1 dX9_readStep_49 (by decide) ?_
        refine j_iadd F dX9_readStep_50 ?_
        refine j_pI F fl_RX9_22 rfl dX9_readStep_51 h (fun ν24 h => ?_)
        refine j_goto F 5 dX9_readStep_54 (by decide) ?_
        have h9 := hk5 _ h
        exact h9
theorem s_X9_readStep_5 {γ : GE} {p : Program} {l : Launch} {e : Env} {s : State} {m : MethodId} {args : Array Value} {below : List Frame} {meth : Method} {c : Code} {S : SH} {X : (Int32 × Mem)} (F : FX γ p s m args meth c cX9_readStep RX9 4) (hr : meth.sig.returnType = (some .int)) (a0 : Nat) (a1 : Nat) (a2 : Int32) (x : (Mem)) (h : lpN (l_X9_readStep_5 S a0 a1 a2) fu x = some X) : JJ γ p l e rm_X9_readStep s m args below meth c 4 0 0 (QI below γ S X args s 0 0) S x 5 [(0, .ref (gb γ + a0)), (1, .ref (gb γ + a1)), (2, .int a2)] [] :=
 lpN_sound (fun x => JJ γ p l e rm_X9_readStep s m args below meth c 4 0 0 (QI below γ S X args s 0 0) S x 5 [(0, .ref (gb γ + a0)), (1, .ref (gb γ + a1)), (2, .int a2)] []) (fun k5 hk5 x h => t_X9_readStep_5 F hr a0 a1 a2 k5 hk5 x h) fu x h
def f_X9_readStep (S : SH) (a0 : Nat) (a1 : Nat) (μ : Mem) : Option (Int32 × Mem) :=
  if isO S 9 a0 = true then
  (gI S 9 a0 2 μ).bind fun v1 =>
  lpN (l_X9_readStep_5 S  a0 a1 v1) fu (μ)
  else none
set_option maxRecDepth 100000 in
set_option maxHeartbeats 4000000 in
theorem c_X9_readStep {l : Launch} {γ : GE} {S : SH} {a0 : Nat} {a1 : Nat} {μ : Mem} {X : (Int32 × Mem)} (h : f_X9_readStep S a0 a1 μ = some X) : isO S 9 a0 = true ∧ Ct l γ yX9_readStep cX9_readStep 4 (some .int) rm_X9_readStep [.ref (gb γ + a0), .ref (gb γ + a1)] S μ S X.2 (some (.int X.1)) := by
  unfold f_X9_readStep at h
  obtain ⟨h0, h⟩ := if_some h
  refine ⟨h0, ?_⟩
  have hJ : ∀ (p : Program) (e : Env) (s : State) (m : MethodId) (args : Array Value) (below : List Frame) (meth : Method) (c : Code), FX γ p s m args meth c cX9_readStep RX9 4 → meth.sig.returnType = (some .int) → JJ γ p l e rm_X9_readStep s m args below meth c 4 0 0 (QI below γ S X args s 0 0) S μ 0 [(0, .ref (gb γ + a0)), (1, .ref (gb γ + a1))] [] := by
    intro p e s m args below meth c F hr
    refine j_aload_n F 0 dX9_readStep_0 rfl ?_
    refine j_gI F fl_RX9_22.l rfl dX9_readStep_1 h (fun v1 h => ?_)
    refine j_istore_n F [(2, .int v1), (0, .ref (gb γ + a0)), (1, .ref (gb γ + a1))] dX9_readStep_4 rfl (by decide) rfl ?_
    refine j_lv [(0, .ref (gb γ + a0)), (1, .ref (gb γ + a1)), (2, .int v1)] [1, 2, 0] rfl ?_
    exact s_X9_readStep_5 F hr _ _ _ _ h
  exact ct_of (by decide +kernel) (Nat.le_of_ble_eq_true rfl) (fun p e s m args below meth c F hr _ => hJ p e s m args below meth c F hr)
def rm_X9_readInto : Room := { frames := 7, cells := 0, slots := 0, locals := 207 }
theorem dX9_readInto_0 : decode cX9_readInto 0 = .ok (.aload_n 1, 1) := by decide +kernel
theorem dX9_readInto_1 : decode cX9_readInto 1 = .ok (.iconst 0, 1) := by decide +kernel
theorem dX9_readInto_2 : decode cX9_readInto 2 = .ok (.putfield 19, 3) := by decide +kernel
theorem dX9_readInto_5 : decode cX9_readInto 5 = .ok (.aload_n 0, 1) := by decide +kernel
theorem dX9_readInto_6 : decode cX9_readInto 6 = .ok (.iconst 0, 1) := by decide +kernel
theorem dX9_readInto_7 : decode cX9_readInto 7 = .ok (.putfield 22, 3) := by decide +kernel
theorem dX9_readInto_10 : decode cX9_readInto 10 = .ok (.iconst 0, 1) := by decide +kernel
theorem dX9_readInto_11 : decode cX9_readInto 11 = .ok (.istore_n 2, 1) := by decide +kernel
theorem dX9_readInto_12 : decode cX9_readInto 12 = .ok (.iload_n 2, 1) := by decide +kernel
theorem dX9_readInto_13 : decode cX9_readInto 13 = .ok (.bipush 100, 2) := by decide +kernel
theorem dX9_readInto_15 : decode cX9_readInto 15 = .ok (.if_icmp .gt 64, 3) := by decide +kernel
theorem dX9_readInto_18 : decode cX9_readInto 18 = .ok (.aload_n 0, 1) := by decide +kernel
theorem dX9_readInto_19 : decode cX9_readInto 19 = .ok (.aload_n 1, 1) := by decide +kernel
theorem dX9_readInto_20 : decode cX9_readInto 20 = .ok (.invokevirtual 25, 3) := by decide +kernel
theorem dX9_readInto_23 : decode cX9_readInto 23 = .ok (.istore_n 3, 1) := by decide +kernel
theorem dX9_readInto_24 : decode cX9_readInto 24 = .ok (.iload_n 3, 1) := by decide +kernel
theorem dX9_readInto_25 : decode cX9_readInto 25 = .ok (.iconst (-1), 1) := by decide +kernel
theorem dX9_readInto_26 : decode cX9_readInto 26 = .ok (.if_icmp .eq 5, 3) := by decide +kernel
theorem dX9_readInto_29 : decode cX9_readInto 29 = .ok (.iload_n 3, 1) := by decide +kernel
theorem dX9_readInto_30 : decode cX9_readInto 30 = .ok (.ireturn, 1) := by decide +kernel
theorem dX9_readInto_31 : decode cX9_readInto 31 = .ok (.aload_n 0, 1) := by decide +kernel
theorem dX9_readInto_32 : decode cX9_readInto 32 = .ok (.getfield 22, 3) := by decide +kernel
theorem dX9_readInto_35 : decode cX9_readInto 35 = .ok (.aload_n 0, 1) := by decide +kernel
theorem dX9_readInto_36 : decode cX9_readInto 36 = .ok (.getfield 15, 3) := by decide +kernel
theorem dX9_readInto_39 : decode cX9_readInto 39 = .ok (.if_icmp .ne 5, 3) := by decide +kernel
theorem dX9_readInto_42 : decode cX9_readInto 42 = .ok (.iconst (-1), 1) := by decide +kernel
theorem dX9_readInto_43 : decode cX9_readInto 43 = .ok (.ireturn, 1) := by decide +kernel
theorem dX9_readInto_44 : decode cX9_readInto 44 = .ok (.aload_n 0, 1) := by decide +kernel
theorem dX9_readInto_45 : decode cX9_readInto 45 = .ok (.getfield 9, 3) := by decide +kernel
theorem dX9_readInto_48 : decode cX9_readInto 48 = .ok (.aload_n 0, 1) := by decide +kernel
theorem dX9_readInto_49 : decode cX9_readInto 49 = .ok (.getfield 22, 3) := by decide +kernel
theorem dX9_readInto_52 : decode cX9_readInto 52 = .ok (.baload, 1) := by decide +kernel
theorem dX9_readInto_53 : decode cX9_readInto 53 = .ok (.bipush 59, 2) := by decide +kernel
theorem dX9_readInto_55 : decode cX9_readInto 55 = .ok (.if_icmp .eq 8, 3) := by decide +kernel
theorem dX9_readInto_58 : decode cX9_readInto 58 = .ok (.aload_n 0, 1) := by decide +kernel
theorem dX9_readInto_59 : decode cX9_readInto 59 = .ok (.getfield 22, 3) := by decide +kernel
theorem dX9_readInto_62 : decode cX9_readInto 62 = .ok (.ireturn, 1) := by decide +kernel
theorem dX9_readInto_63 : decode cX9_readInto 63 = .ok (.aload_n 0, 1) := by decide +kernel
theorem dX9_readInto_64 : decode cX9_readInto 64 = .ok (.dup, 1) := by decide +kernel
theorem dX9_readInto_65 : decode cX9_readInto 65 = .ok (.getfield 22, 3) := by decide +kernel
theorem dX9_readInto_68 : decode cX9_readInto 68 = .ok (.iconst 1, 1) := by decide +kernel
theorem dX9_readInto_69 : decode cX9_readInto 69 = .ok (.iadd, 1) := by decide +kernel
theorem dX9_readInto_70 : decode cX9_readInto 70 = .ok (.putfield 22, 3) := by decide +kernel
theorem dX9_readInto_73 : decode cX9_readInto 73 = .ok (.iinc 2 1, 3) := by decide +kernel
theorem dX9_readInto_76 : decode cX9_readInto 76 = .ok (.goto (-64), 3) := by decide +kernel
theorem dX9_readInto_79 : decode cX9_readInto 79 = .ok (.aload_n 0, 1) := by decide +kernel
theorem dX9_readInto_80 : decode cX9_readInto 80 = .ok (.getfield 22, 3) := by decide +kernel
theorem dX9_readInto_83 : decode cX9_readInto 83 = .ok (.ireturn, 1) := by decide +kernel
def l_X9_readInto_12 (S : SH) (a0 : Nat) (a1 : Nat) (k12 : (Int32 × Mem) → Option (Int32 × Mem)) (x : (Int32 × Mem)) : Option (Int32 × Mem) :=
 (if 100 < x.1 then
 (gI S 9 a0 2 x.2).bind fun v3 =>
 some (v3, x.2)
 else
 (f_X9_readStep S a0 a1 x.2).bind fun q4 =>
 (if q4.1 = (-1) then
 (gI S 9 a0 2 q4.2).bind fun v5 =>
 (gI S 9 a0 1 q4.2).bind fun v6 =>
 (if v5 = v6 then
 some ((-1), q4.2)
 else
 (gR S 9 a0 0).bind fun v7 =>
 (gI S 9 a0 2 q4.2).bind fun v8 =>
 (aI S .byte v7 v8 q4.2).bind fun v9 =>
 (if v9 = 59 then
 (gI S 9 a0 2 q4.2).bind fun v10 =>
 (pI S 9 a0 2 (v10 + 1) q4.2).bind fun ν11 =>
 k12 (x.1 + 1, ν11)
 else
 (gI S 9 a0 2 q4.2).bind fun v12 =>
 some (v12, q4.2)))
 else
 some (q4.1, q4.2)))
set_option maxRecDepth 100000 in
set_option maxHeartbeats 4000000 in
theorem t_X9_readInto_12 {γ : GE} {p : Program} {l : Launch} {e : Env} {s : State} {m : MethodId} {args : Array Value} {below : List Frame} {meth : Method} {c : Code} {S : SH} {X : (Int32 × Mem)} (F : FX γ p s m args meth c cX9_readInto RX9 4) (hr : meth.sig.returnType = (some .int)) (a0 : Nat) (a1 : Nat) (k12 : (Int32 × Mem) → Option (Int32 × Mem)) (hk12 : ∀ x : (Int32 × Mem), k12 x = some X → JJ γ p l e rm_X9_readInto s m args below meth c 4 0 0 (QI below γ S X args s 0 0) S x.2 12 [(0, .ref (gb γ + a0)), (1, .ref (gb γ + a1)), (2, .int x.1)] []) (x : (Int32 × Mem)) (h : l_X9_readInto_12 S a0 a1 k12 x = some X) : JJ γ p l e rm_X9_readInto s m args below meth c 4 0 0 (QI below γ S X args s 0 0) S x.2 12 [(0, .ref (gb γ + a0)), (1, .ref (gb γ + a1)), (2, .int x.1)] [] := by
  unfold l_X9_readInto_12 at h
  refine j_iload_n F 2 dX9_readInto_12 rfl ?_
  refine j_bipush F 100 dX9_readInto_13 (by decide) ?_
  refine j_icmpgt F 79 dX9_readInto_15 (by decide) h (fun _ h => ?_) (fun _ h => ?_)
  · refine j_aload_n F 0 dX9_readInto_79 rfl ?_
    refine j_gI F fl_RX9_22.l rfl dX9_readInto_80 h (fun v3 h => ?_)
    exact j_iret F hr dX9_readInto_83 h
  · refine j_aload_n F 0 dX9_readInto_18 rfl ?_
    refine j_aload_n F 1 dX9_readInto_19 rfl ?_
    refine j_cVI F mi_X9_readStep w_749 (rest := []) h (fun _ g => c_X9_readStep g) rfl rfl (Nat.le_of_ble_eq_true rfl) ⟨Nat.le_of_ble_eq_true rfl, Nat.le_of_ble_eq_true rfl⟩ ⟨Nat.le_of_ble_eq_true rfl, Nat.le_of_ble_eq_true rfl⟩ dX9_readInto_20 (fun q4 h => ?_)
    refine j_istore_n F [(3, .int q4.1), (0, .ref (gb γ + a0)), (1, .ref (gb γ + a1)), (2, .int x.1)] dX9_readInto_23 rfl (by decide) rfl ?_
    refine j_iload_n F 0 dX9_readInto_24 rfl ?_
    refine j_iconst F (-1) dX9_readInto_25 (by decide) ?_
    refine j_icmpeq F 31 dX9_readInto_26 (by decide) h (fun _ h => ?_) (fun _ h => ?_)
    · refine j_aload_n F 1 dX9_readInto_31 rfl ?_
      refine j_gI F fl_RX9_22.l rfl dX9_readInto_32 h (fun v5 h => ?_)
      refine j_aload_n F 1 dX9_readInto_35 rfl ?_
      refine j_gI F fl_RX9_15.l rfl dX9_readInto_36 h (fun v6 h => ?_)
      refine j_icmpne F 44 dX9_readInto_39 (by decide) h (fun _ h => ?_) (fun _ h => ?_)
      · refine j_aload_n F 1 dX9_readInto_44 rfl ?_
        refine j_gR F fl_RX9_9 rfl dX9_readInto_45 h (fun v7 h => ?_)
        refine j_aload_n F 1 dX9_readInto_48 rfl ?_
        refine j_gI F fl_RX9_22.l rfl dX9_readInto_49 h (fun v8 h => ?_)
        refine j_bald F dX9_readInto_52 h (fun v9 h => ?_)
        refine j_bipush F 59 dX9_readInto_53 (by decide) ?_
        refine j_icmpeq F 63 dX9_readInto_55 (by decide) h (fun _ h => ?_) (fun _ h => ?_)
        · refine j_aload_n F 1 dX9_readInto_63 rfl ?_
          refine j_dup F dX9_readInto_64 rfl ?_
          refine j_gI F fl_RX9_22.l rfl dX9_readInto_65 h (fun v10 h => ?_)
          refine j_iconst F 1 dX9_readInto_68 (by decide) ?_
          refine j_iadd F dX9_readInto_69 ?_
          refine j_pI F fl_RX9_22 rfl dX9_readInto_70 h (fun ν11 h => ?_)
          refine j_iinc F 1 3 [(2, .int (x.1 + 1)), (3, .int q4.1), (0, .ref (gb γ + a0)), (1, .ref (gb γ + a1))] dX9_readInto_73 rfl (by decide) (by decide) rfl ?_
          refine j_goto F 12 dX9_readInto_76 (by decide) ?_
          refine j_lv [(0, .ref (gb γ + a0)), (1, .ref (gb γ + a1)), (2, .int (x.1 + 1))] [2, 3, 0] rfl ?_
          have h9 := hk12 _ h
          exact h9
        · refine j_aload_n F 1 dX9_readInto_58 rfl ?_
          refine j_gI F fl_RX9_22.l rfl dX9_readInto_59 h (fun v12 h => ?_)
          exact j_iret F hr dX9_readInto_62 h
      · refine j_iconst F (-1) dX9_readInto_42 (by decide) ?_
        exact j_iret F hr dX9_readInto_43 h
    · refine j_iload_n F 0 dX9_readInto_29 rfl ?_
      exact j_iret F hr dX9_readInto_30 h
theorem s_X9_readInto_12 {γ : GE} {p : Program} {l : Launch} {e : Env} {s : State} {m : MethodId} {args : Array Value} {below : List Frame} {meth : Method} {c : Code} {S : SH} {X : (Int32 × Mem)} (F : FX γ p s m args meth c cX9_readInto RX9 4) (hr : meth.sig.returnType = (some .int)) (a0 : Nat) (a1 : Nat) (x : (Int32 × Mem)) (h : lpN (l_X9_readInto_12 S a0 a1) fu x = some X) : JJ γ p l e rm_X9_readInto s m args below meth c 4 0 0 (QI below γ S X args s 0 0) S x.2 12 [(0, .ref (gb γ + a0)), (1, .ref (gb γ + a1)), (2, .int x.1)] [] :=
 lpN_sound (fun x => JJ γ p l e rm_X9_readInto s m args below meth c 4 0 0 (QI below γ S X args s 0 0) S x.2 12 [(0, .ref (gb γ + a0)), (1, .ref (gb γ + a1)), (2, .int x.1)] []) (fun k12 hk12 x h => t_X9_readInto_12 F hr a0 a1 k12 hk12 x h) fu x h
def f_X9_readInto (S : SH) (a0 : Nat) (a1 : Nat) (μ : Mem) : Option (Int32 × Mem) :=
  if isO S 9 a0 = true then
  (pI S 6 a1 2 0 μ).bind fun ν1 =>
  (pI S 9 a0 2 0 ν1).bind fun ν2 =>
  lpN (l_X9_readInto_12 S  a0 a1) fu (0, ν2)
  else none
set_option maxRecDepth 100000 in
set_option maxHeartbeats 4000000 in
theorem c_X9_readInto {l : Launch} {γ : GE} {S : SH} {a0 : Nat} {a1 : Nat} {μ : Mem} {X : (Int32 × Mem)} (h : f_X9_readInto S a0 a1 μ = some X) : isO S 9 a0 = true ∧ Ct l γ yX9_readInto cX9_readInto 4 (some .int) rm_X9_readInto [.ref (gb γ + a0), .ref (gb γ + a1)] S μ S X.2 (some (.int X.1)) := by
  unfold f_X9_readInto at h
  obtain ⟨h0, h⟩ := if_some h
  refine ⟨h0, ?_⟩
  have hJ : ∀ (p : Program) (e : Env) (s : State) (m : MethodId) (args : Array Value) (below : List Frame) (meth : Method) (c : Code), FX γ p s m args meth c cX9_readInto RX9 4 → meth.sig.returnType = (some .int) → JJ γ p l e rm_X9_readInto s m args below meth c 4 0 0 (QI below γ S X args s 0 0) S μ 0 [(0, .ref (gb γ + a0)), (1, .ref (gb γ + a1))] [] := by
    intro p e s m args below meth c F hr
    refine j_aload_n F 1 dX9_readInto_0 rfl ?_
    refine j_iconst F 0 dX9_readInto_1 (by decide) ?_
    refine j_pI F fl_RX9_19 rfl dX9_readInto_2 h (fun ν1 h => ?_)
    refine j_aload_n F 0 dX9_readInto_5 rfl ?_
    refine j_iconst F 0 dX9_readInto_6 (by decide) ?_
    refine j_pI F fl_RX9_22 rfl dX9_readInto_7 h (fun ν2 h => ?_)
    refine j_iconst F 0 dX9_readInto_10 (by decide) ?_
    refine j_istore_n F [(2, .int 0), (0, .ref (gb γ + a0)), (1, .ref (gb γ + a1))] dX9_readInto_11 rfl (by decide) rfl ?_
    refine j_lv [(0, .ref (gb γ + a0)), (1, .ref (gb γ + a1)), (2, .int 0)] [1, 2, 0] rfl ?_
    exact s_X9_readInto_12 F hr _ _ _ h
  exact ct_of (by decide +kernel) (Nat.le_of_ble_eq_true rfl) (fun p e s m args below meth c F hr _ => hJ p e s m args below meth c F hr)
def rm_X10_meet : Room := { frames := 4, cells := 0, slots := 0, locals := 91 }
theorem dX10_meet_0 : decode cX10_meet 0 = .ok (.aload_n 3, 1) := by decide +kernel
theorem dX10_meet_1 : decode cX10_meet 1 = .ok (.aload_n 2, 1) := by decide +kernel
theorem dX10_meet_2 : decode cX10_meet 2 = .ok (.invokevirtual 59, 3) := by decide +kernel
theorem dX10_meet_5 : decode cX10_meet 5 = .ok (.istore 4, 2) := by decide +kernel
theorem dX10_meet_7 : decode cX10_meet 7 = .ok (.iload 4, 2) := by decide +kernel
theorem dX10_meet_9 : decode cX10_meet 9 = .ok (.ifCond .eq 29, 3) := by decide +kernel
theorem dX10_meet_12 : decode cX10_meet 12 = .ok (.aload_n 0, 1) := by decide +kernel
theorem dX10_meet_13 : decode cX10_meet 13 = .ok (.getfield 21, 3) := by decide +kernel
theorem dX10_meet_16 : decode cX10_meet 16 = .ok (.ifCond .ne 22, 3) := by decide +kernel
theorem dX10_meet_19 : decode cX10_meet 19 = .ok (.aload_n 0, 1) := by decide +kernel
theorem dX10_meet_20 : decode cX10_meet 20 = .ok (.aload_n 0, 1) := by decide +kernel
theorem dX10_meet_21 : decode cX10_meet 21 = .ok (.getfield 9, 3) := by decide +kernel
theorem dX10_meet_24 : decode cX10_meet 24 = .ok (.putfield 15, 3) := by decide +kernel
theorem dX10_meet_27 : decode cX10_meet 27 = .ok (.aload_n 0, 1) := by decide +kernel
theorem dX10_meet_28 : decode cX10_meet 28 = .ok (.iload_n 1, 1) := by decide +kernel
theorem dX10_meet_29 : decode cX10_meet 29 = .ok (.putfield 18, 3) := by decide +kernel
theorem dX10_meet_32 : decode cX10_meet 32 = .ok (.aload_n 0, 1) := by decide +kernel
theorem dX10_meet_33 : decode cX10_meet 33 = .ok (.iload 4, 2) := by decide +kernel
theorem dX10_meet_35 : decode cX10_meet 35 = .ok (.putfield 21, 3) := by decide +kernel
theorem dX10_meet_38 : decode cX10_meet 38 = .ok (.aload_n 0, 1) := by decide +kernel
theorem dX10_meet_39 : decode cX10_meet 39 = .ok (.aload_n 0, 1) := by decide +kernel
theorem dX10_meet_40 : decode cX10_meet 40 = .ok (.getfield 27, 3) := by decide +kernel
theorem dX10_meet_43 : decode cX10_meet 43 = .ok (.aload_n 2, 1) := by decide +kernel
theorem dX10_meet_44 : decode cX10_meet 44 = .ok (.invokevirtual 65, 3) := by decide +kernel
theorem dX10_meet_47 : decode cX10_meet 47 = .ok (.invokestatic 69, 3) := by decide +kernel
theorem dX10_meet_50 : decode cX10_meet 50 = .ok (.putfield 27, 3) := by decide +kernel
theorem dX10_meet_53 : decode cX10_meet 53 = .ok (.aload_n 0, 1) := by decide +kernel
theorem dX10_meet_54 : decode cX10_meet 54 = .ok (.dup, 1) := by decide +kernel
theorem dX10_meet_55 : decode cX10_meet 55 = .ok (.getfield 9, 3) := by decide +kernel
theorem dX10_meet_58 : decode cX10_meet 58 = .ok (.iconst 1, 1) := by decide +kernel
theorem dX10_meet_59 : decode cX10_meet 59 = .ok (.iadd, 1) := by decide +kernel
theorem dX10_meet_60 : decode cX10_meet 60 = .ok (.putfield 9, 3) := by decide +kernel
theorem dX10_meet_63 : decode cX10_meet 63 = .ok (.return_, 1) := by decide +kernel
def b_X10_meet_38 (S : SH) (a0 : Nat) (a2 : Nat) (μ : Mem) : Option (Unit × Mem) :=
 (gI S 10 a0 4 μ).bind fun v2 =>
 (f_X2_room S a2 μ).bind fun q3 =>
 (pI S 10 a0 4 ((if q3.1 < v2 then q3.1 else v2)) q3.2).bind fun ν4 =>
 (gI S 10 a0 0 ν4).bind fun v5 =>
 (pI S 10 a0 0 (v5 + 1) ν4).bind fun ν6 =>
 some ((), ν6)
set_option maxRecDepth 100000 in
set_option maxHeartbeats 4000000 in
theorem s_X10_meet_38 {γ : GE} {p : Program} {l : Launch} {e : Env} {s : State} {m : MethodId} {args : Array Value} {below : List Frame} {meth : Method} {c : Code} {S : SH} {X : (Unit × Mem)} (F : FX γ p s m args meth c cX10_meet RX10 5) (hr : meth.sig.returnType = (none))  (a0 : Nat) (a2 : Nat)  (μ : Mem) (h : b_X10_meet_38 S a0 a2 μ = some X) : JJ γ p l e rm_X10_meet s m args below meth c 5 0 0 (QV below γ S X args s 0 0) S μ 38 [(0, .ref (gb γ + a0)), (2, .ref (gb γ + a2))] [] := by
  unfold b_X10_meet_38 at h
  refine j_aload_n F 0 dX10_meet_38 rfl ?_
  refine j_aload_n F 0 dX10_meet_39 rfl ?_
  refine j_gI F fl_RX10_27.l rfl dX10_meet_40 h (fun v2 h => ?_)
  refine j_aload_n F 1 dX10_meet_43 rfl ?_
  refine j_cVI F mi_X2_room w_845 (rest := [.int v2, .ref (gb γ + a0)]) h (fun _ g => c_X2_room g) rfl rfl (Nat.le_of_ble_eq_true rfl) ⟨Nat.le_of_ble_eq_true rfl, Nat.le_of_ble_eq_true rfl⟩ ⟨Nat.le_of_ble_eq_true rfl, Nat.le_of_ble_eq_true rfl⟩ dX10_meet_44 (fun q3 h => ?_)
  refine j_mmin F w_846 ⟨Nat.le_of_ble_eq_true rfl, Nat.le_of_ble_eq_true rfl, Nat.le_of_ble_eq_true rfl, Nat.le_of_ble_eq_true rfl⟩ dX10_meet_47 mg_min ?_
  refine j_pI F fl_RX10_27 rfl dX10_meet_50 h (fun ν4 h => ?_)
  refine j_aload_n F 0 dX10_meet_53 rfl ?_
  refine j_dup F dX10_meet_54 rfl ?_
  refine j_gI F fl_RX10_9.l rfl dX10_meet_55 h (fun v5 h => ?_)
  refine j_iconst F 1 dX10_meet_58 (by decide) ?_
  refine j_iadd F dX10_meet_59 ?_
  refine j_pI F fl_RX10_9 rfl dX10_meet_60 h (fun ν6 h => ?_)
  exact j_vret F hr dX10_meet_63 h
def f_X10_meet (S : SH) (a0 : Nat) (a1 : Int32) (a2 : Nat) (a3 : Nat) (μ : Mem) : Option (Unit × Mem) :=
  if isO S 10 a0 = true then
  (f_X3_verdict S a3 a2 μ).bind fun q1 =>
  (if q1.1 = 0 then
  b_X10_meet_38 S a0 a2 q1.2
  else
  (gI S 10 a0 3 q1.2).bind fun v7 =>
  (if v7 = 0 then
  (gI S 10 a0 0 q1.2).bind fun v8 =>
  (pI S 10 a0 1 v8 q1.2).bind fun ν9 =>
  (pI S 10 a0 2 a1 ν9).bind fun ν10 =>
  (pI S 10 a0 3 q1.1 ν10).bind fun ν11 =>
  b_X10_meet_38 S a0 a2 ν11
  else
  b_X10_meet_38 S a0 a2 q1.2))
  else none
set_option maxRecDepth 100000 in
set_option maxHeartbeats 4000000 in
theorem c_X10_meet {l : Launch} {γ : GE} {S : SH} {a0 : Nat} {a1 : Int32} {a2 : Nat} {a3 : Nat} {μ : Mem} {X : (Unit × Mem)} (h : f_X10_meet S a0 a1 a2 a3 μ = some X) : isO S 10 a0 = true ∧ Ct l γ yX10_meet cX10_meet 5 (none) rm_X10_meet [.ref (gb γ + a0), .int a1, .ref (gb γ + a2), .ref (gb γ + a3)] S μ S X.2 none := by
  unfold f_X10_meet at h
  obtain ⟨h0, h⟩ := if_some h
  refine ⟨h0, ?_⟩
  have hJ : ∀ (p : Program) (e : Env) (s : State) (m : MethodId) (args : Array Value) (below : List Frame) (meth : Method) (c : Code), FX γ p s m args meth c cX10_meet RX10 5 → meth.sig.returnType = (none) → JJ γ p l e rm_X10_meet s m args below meth c 5 0 0 (QV below γ S X args s 0 0) S μ 0 [(0, .ref (gb γ + a0)), (1, .int a1), (2, .ref (gb γ + a2)), (3, .ref (gb γ + a3))] [] := by
    intro p e s m args below meth c F hr
    refine j_aload_n F 3 dX10_meet_0 rfl ?_
    refine j_aload_n F 2 dX10_meet_1 rfl ?_
    refine j_cVI F mi_X3_verdict w_844 (rest := []) h (fun _ g => c_X3_verdict g) rfl rfl (Nat.le_of_ble_eq_true rfl) ⟨Nat.le_of_ble_eq_true rfl, Nat.le_of_ble_eq_true rfl⟩ ⟨Nat.le_of_ble_eq_true rfl, Nat.le_of_ble_eq_true rfl⟩ dX10_meet_2 (fun q1 h => ?_)
    refine j_istore F [(4, .int q1.1), (0, .ref (gb γ + a0)), (1, .int a1), (2, .ref (gb γ + a2)), (3, .ref (gb γ + a3))] dX10_meet_5 (by decide) rfl ?_
    refine j_iload F 0 dX10_meet_7 rfl ?_
    refine j_ifeq F 38 dX10_meet_9 (by decide) h (fun _ h => ?_) (fun _ h => ?_)
    · refine j_lv [(0, .ref (gb γ + a0)), (2, .ref (gb γ + a2))] [1, 3] rfl ?_
      exact s_X10_meet_38 F hr _ _ _ h
    · refine j_aload_n F 1 dX10_meet_12 rfl ?_
      refine j_gI F fl_RX10_21.l rfl dX10_meet_13 h (fun v7 h => ?_)
      refine j_ifne F 38 dX10_meet_16 (by decide) h (fun _ h => ?_) (fun _ h => ?_)
      · refine j_lv [(0, .ref (gb γ + a0)), (2, .ref (gb γ + a2))] [1, 3] rfl ?_
        exact s_X10_meet_38 F hr _ _ _ h
      · refine j_aload_n F 1 dX10_meet_19 rfl ?_
        refine j_aload_n F 1 dX10_meet_20 rfl ?_
        refine j_gI F fl_RX10_9.l rfl dX10_meet_21 h (fun v8 h => ?_)
        refine j_pI F fl_RX10_15 rfl dX10_meet_24 h (fun ν9 h => ?_)
        refine j_aload_n F 1 dX10_meet_27 rfl ?_
        refine j_iload_n F 2 dX10_meet_28 rfl ?_
        refine j_pI F fl_RX10_18 rfl dX10_meet_29 h (fun ν10 h => ?_)
        refine j_aload_n F 1 dX10_meet_32 rfl ?_
        refine j_iload F 0 dX10_meet_33 rfl ?_
        refine j_pI F fl_RX10_21 rfl dX10_meet_35 h (fun ν11 h => ?_)
        refine j_lv [(0, .ref (gb γ + a0)), (2, .ref (gb γ + a2))] [1, 3] rfl ?_
        exact s_X10_meet_38 F hr _ _ _ h
  exact ct_of (by decide +kernel) (Nat.le_of_ble_eq_true rfl) (fun p e s m args below meth c F hr _ => hJ p e s m args below meth c F hr)
def rm_X10_go : Room := { frames := 5, cells := 0, slots := 0, locals := 115 }
theorem dX10_go_0 : decode cX10_go 0 = .ok (.aload_n 0, 1) := by decide +kernel
theorem dX10_go_1 : decode cX10_go 1 = .ok (.iconst 0, 1) := by decide +kernel
theorem dX10_go_2 : decode cX10_go 2 = .ok (.putfield 9, 3) := by decide +kernel
theorem dX10_go_5 : decode cX10_go 5 = .ok (.aload_n 0, 1) := by decide +kernel
theorem dX10_go_6 : decode cX10_go 6 = .ok (.bipush (-5), 2) := by decide +kernel
theorem dX10_go_8 : decode cX10_go 8 = .ok (.putfield 15, 3) := by decide +kernel
theorem dX10_go_11 : decode cX10_go 11 = .ok (.aload_n 0, 1) := by decide +kernel
theorem dX10_go_12 : decode cX10_go 12 = .ok (.bipush (-5), 2) := by decide +kernel
theorem dX10_go_14 : decode cX10_go 14 = .ok (.putfield 18, 3) := by decide +kernel
theorem dX10_go_17 : decode cX10_go 17 = .ok (.aload_n 0, 1) := by decide +kernel
theorem dX10_go_18 : decode cX10_go 18 = .ok (.iconst 0, 1) := by decide +kernel
theorem dX10_go_19 : decode cX10_go 19 = .ok (.putfield 21, 3) := by decide +kernel
theorem dX10_go_22 : decode cX10_go 22 = .ok (.aload_n 0, 1) := by decide +kernel
theorem dX10_go_23 : decode cX10_go 23 = .ok (.ldc 26, 2) := by decide +kernel
theorem dX10_go_25 : decode cX10_go 25 = .ok (.putfield 27, 3) := by decide +kernel
theorem dX10_go_28 : decode cX10_go 28 = .ok (.aload_n 0, 1) := by decide +kernel
theorem dX10_go_29 : decode cX10_go 29 = .ok (.bipush (-5), 2) := by decide +kernel
theorem dX10_go_31 : decode cX10_go 31 = .ok (.aload_n 2, 1) := by decide +kernel
theorem dX10_go_32 : decode cX10_go 32 = .ok (.aload_n 3, 1) := by decide +kernel
theorem dX10_go_33 : decode cX10_go 33 = .ok (.invokevirtual 30, 3) := by decide +kernel
theorem dX10_go_36 : decode cX10_go 36 = .ok (.iconst 0, 1) := by decide +kernel
theorem dX10_go_37 : decode cX10_go 37 = .ok (.istore 4, 2) := by decide +kernel
theorem dX10_go_39 : decode cX10_go 39 = .ok (.iload 4, 2) := by decide +kernel
theorem dX10_go_41 : decode cX10_go 41 = .ok (.aload_n 1, 1) := by decide +kernel
theorem dX10_go_42 : decode cX10_go 42 = .ok (.getfield 34, 3) := by decide +kernel
theorem dX10_go_45 : decode cX10_go 45 = .ok (.if_icmp .ge 100, 3) := by decide +kernel
theorem dX10_go_48 : decode cX10_go 48 = .ok (.aload_n 1, 1) := by decide +kernel
theorem dX10_go_49 : decode cX10_go 49 = .ok (.getfield 39, 3) := by decide +kernel
theorem dX10_go_52 : decode cX10_go 52 = .ok (.iload 4, 2) := by decide +kernel
theorem dX10_go_54 : decode cX10_go 54 = .ok (.iaload, 1) := by decide +kernel
theorem dX10_go_55 : decode cX10_go 55 = .ok (.istore 5, 2) := by decide +kernel
theorem dX10_go_57 : decode cX10_go 57 = .ok (.aload_n 1, 1) := by decide +kernel
theorem dX10_go_58 : decode cX10_go 58 = .ok (.getfield 43, 3) := by decide +kernel
theorem dX10_go_61 : decode cX10_go 61 = .ok (.iload 4, 2) := by decide +kernel
theorem dX10_go_63 : decode cX10_go 63 = .ok (.iaload, 1) := by decide +kernel
theorem dX10_go_64 : decode cX10_go 64 = .ok (.istore 6, 2) := by decide +kernel
theorem dX10_go_66 : decode cX10_go 66 = .ok (.aload_n 1, 1) := by decide +kernel
theorem dX10_go_67 : decode cX10_go 67 = .ok (.iload 4, 2) := by decide +kernel
theorem dX10_go_69 : decode cX10_go 69 = .ok (.invokevirtual 46, 3) := by decide +kernel
theorem dX10_go_72 : decode cX10_go 72 = .ok (.ifCond .eq 50, 3) := by decide +kernel
theorem dX10_go_75 : decode cX10_go 75 = .ok (.iconst 0, 1) := by decide +kernel
theorem dX10_go_76 : decode cX10_go 76 = .ok (.istore 7, 2) := by decide +kernel
theorem dX10_go_78 : decode cX10_go 78 = .ok (.iload 7, 2) := by decide +kernel
theorem dX10_go_80 : decode cX10_go 80 = .ok (.bipush 61, 2) := by decide +kernel
theorem dX10_go_82 : decode cX10_go 82 = .ok (.if_icmp .ge 37, 3) := by decide +kernel
theorem dX10_go_85 : decode cX10_go 85 = .ok (.aload_n 2, 1) := by decide +kernel
theorem dX10_go_86 : decode cX10_go 86 = .ok (.getfield 50, 3) := by decide +kernel
theorem dX10_go_89 : decode cX10_go 89 = .ok (.iload 5, 2) := by decide +kernel
theorem dX10_go_91 : decode cX10_go 91 = .ok (.iaload, 1) := by decide +kernel
theorem dX10_go_92 : decode cX10_go 92 = .ok (.iload 6, 2) := by decide +kernel
theorem dX10_go_94 : decode cX10_go 94 = .ok (.if_icmp .eq 25, 3) := by decide +kernel
theorem dX10_go_97 : decode cX10_go 97 = .ok (.aload_n 2, 1) := by decide +kernel
theorem dX10_go_98 : decode cX10_go 98 = .ok (.iload 5, 2) := by decide +kernel
theorem dX10_go_100 : decode cX10_go 100 = .ok (.iload 6, 2) := by decide +kernel
theorem dX10_go_102 : decode cX10_go 102 = .ok (.invokevirtual 55, 3) := by decide +kernel
theorem dX10_go_105 : decode cX10_go 105 = .ok (.aload_n 0, 1) := by decide +kernel
theorem dX10_go_106 : decode cX10_go 106 = .ok (.iload 4, 2) := by decide +kernel
theorem dX10_go_108 : decode cX10_go 108 = .ok (.aload_n 2, 1) := by decide +kernel
theorem dX10_go_109 : decode cX10_go 109 = .ok (.aload_n 3, 1) := by decide +kernel
theorem dX10_go_110 : decode cX10_go 110 = .ok (.invokevirtual 30, 3) := by decide +kernel
theorem dX10_go_113 : decode cX10_go 113 = .ok (.iinc 7 1, 3) := by decide +kernel
theorem dX10_go_116 : decode cX10_go 116 = .ok (.goto (-38), 3) := by decide +kernel
theorem dX10_go_119 : decode cX10_go 119 = .ok (.goto 20, 3) := by decide +kernel
theorem dX10_go_122 : decode cX10_go 122 = .ok (.aload_n 2, 1) := by decide +kernel
theorem dX10_go_123 : decode cX10_go 123 = .ok (.getfield 50, 3) := by decide +kernel
theorem dX10_go_126 : decode cX10_go 126 = .ok (.iload 5, 2) := by decide +kernel
theorem dX10_go_128 : decode cX10_go 128 = .ok (.iload 6, 2) := by decide +kernel
theorem dX10_go_130 : decode cX10_go 130 = .ok (.iastore, 1) := by decide +kernel
theorem dX10_go_131 : decode cX10_go 131 = .ok (.aload_n 0, 1) := by decide +kernel
theorem dX10_go_132 : decode cX10_go 132 = .ok (.iload 4, 2) := by decide +kernel
theorem dX10_go_134 : decode cX10_go 134 = .ok (.aload_n 2, 1) := by decide +kernel
theorem dX10_go_135 : decode cX10_go 135 = .ok (.aload_n 3, 1) := by decide +kernel
theorem dX10_go_136 : decode cX10_go 136 = .ok (.invokevirtual 30, 3) := by decide +kernel
theorem dX10_go_139 : decode cX10_go 139 = .ok (.iinc 4 1, 3) := by decide +kernel
theorem dX10_go_142 : decode cX10_go 142 = .ok (.goto (-103), 3) := by decide +kernel
theorem dX10_go_145 : decode cX10_go 145 = .ok (.return_, 1) := by decide +kernel
def l_X10_go_78 (S : SH) (k39 : (Int32 × Mem) → Option (Unit × Mem)) (a0 : Nat) (a1 : Nat) (a2 : Nat) (a3 : Nat) (a4 : Int32) (a5 : Int32) (a6 : Int32) (k78 : (Int32 × Mem) → Option (Unit × Mem)) (x : (Int32 × Mem)) : Option (Unit × Mem) :=
 (if 61 ≤ x.1 then
 k39 (a4 + 1, x.2)
 else
 (gR S 2 a2 3).bind fun v16 =>
 (aI S .int v16 a5 x.2).bind fun v17 =>
 (if v17 = a6 then
 k39 (a4 + 1, x.2)
 else
 (f_X2_approach S a2 a5 a6 x.2).bind fun q18 =>
 (f_X10_meet S a0 a4 a2 a3 q18.2).bind fun q19 =>
 k78 (x.1 + 1, q19.2)))
set_option maxRecDepth 100000 in
set_option maxHeartbeats 4000000 in
theorem t_X10_go_78 {γ : GE} {p : Program} {l : Launch} {e : Env} {s : State} {m : MethodId} {args : Array Value} {below : List Frame} {meth : Method} {c : Code} {S : SH} {X : (Unit × Mem)} (F : FX γ p s m args meth c cX10_go RX10 8) (hr : meth.sig.returnType = (none)) (k39 : (Int32 × Mem) → Option (Unit × Mem)) (hk39 : ∀ x : (Int32 × Mem), k39 x = some X → JJ γ p l e rm_X10_go s m args below meth c 8 0 0 (QV below γ S X args s 0 0) S x.2 39 [(0, .ref (gb γ + a0)), (1, .ref (gb γ + a1)), (2, .ref (gb γ + a2)), (3, .ref (gb γ + a3)), (4, .int x.1)] []) (a0 : Nat) (a1 : Nat) (a2 : Nat) (a3 : Nat) (a4 : Int32) (a5 : Int32) (a6 : Int32) (k78 : (Int32 × Mem) → Option (Unit × Mem)) (hk78 : ∀ x : (Int32 × Mem), k78 x = some X → JJ γ p l e rm_X10_go s m args below meth c 8 0 0 (QV below γ S X args s 0 0) S x.2 78 [(0, .ref (gb γ + a0)), (1, .ref (gb γ + a1)), (2, .ref (gb γ + a2)), (3, .ref (gb γ + a3)), (4, .int a4), (5, .int a5), (6, .int a6), (7, .int x.1)] []) (x : (Int32 × Mem)) (h : l_X10_go_78 S k39 a0 a1 a2 a3 a4 a5 a6 k78 x = some X) : JJ γ p l e rm_X10_go s m args below meth c 8 0 0 (QV below γ S X args s 0 0) S x.2 78 [(0, .ref (gb γ + a0)), (1, .ref (gb γ + a1)), (2, .ref (gb γ + a2)), (3, .ref (gb γ + a3)), (4, .int a4), (5, .int a5), (6, .int a6), (7, .int x.1)] [] := by
  unfold l_X10_go_78 at h
  refine j_iload F 7 dX10_go_78 rfl ?_
  refine j_bipush F 61 dX10_go_80 (by decide) ?_
  refine j_icmpge F 119 dX10_go_82 (by decide) h (fun _ h => ?_) (fun _ h => ?_)
  · refine j_goto F 139 dX10_go_119 (by decide) ?_
    refine j_iinc F 1 4 [(4, .int (a4 + 1)), (0, .ref (gb γ + a0)), (1, .ref (gb γ + a1)), (2, .ref (gb γ + a2)), (3, .ref (gb γ + a3)), (5, .int a5), (6, .int a6), (7, .int x.1)] dX10_go_139 rfl (by decide) (by decide) rfl ?_
    refine j_goto F 39 dX10_go_142 (by decide) ?_
    refine j_lv [(0, .ref (gb γ + a0)), (1, .ref (gb γ + a1)), (2, .ref (gb γ + a2)), (3, .ref (gb γ + a3)), (4, .int (a4 + 1))] [1, 2, 3, 4, 0] rfl ?_
    have h9 := hk39 _ h
    exact h9
  · refine j_aload_n F 2 dX10_go_85 rfl ?_
    refine j_gR F fl_RX10_50 rfl dX10_go_86 h (fun v16 h => ?_)
    refine j_iload F 5 dX10_go_89 rfl ?_
    refine j_iald F dX10_go_91 h (fun v17 h => ?_)
    refine j_iload F 6 dX10_go_92 rfl ?_
    refine j_icmpeq F 119 dX10_go_94 (by decide) h (fun _ h => ?_) (fun _ h => ?_)
    · refine j_goto F 139 dX10_go_119 (by decide) ?_
      refine j_iinc F 1 4 [(4, .int (a4 + 1)), (0, .ref (gb γ + a0)), (1, .ref (gb γ + a1)), (2, .ref (gb γ + a2)), (3, .ref (gb γ + a3)), (5, .int a5), (6, .int a6), (7, .int x.1)] dX10_go_139 rfl (by decide) (by decide) rfl ?_
      refine j_goto F 39 dX10_go_142 (by decide) ?_
      refine j_lv [(0, .ref (gb γ + a0)), (1, .ref (gb γ + a1)), (2, .ref (gb γ + a2)), (3, .ref (gb γ + a3)), (4, .int (a4 + 1))] [1, 2, 3, 4, 0] rfl ?_
      have h9 := hk39 _ h
      exact h9
    · refine j_aload_n F 2 dX10_go_97 rfl ?_
      refine j_iload F 5 dX10_go_98 rfl ?_
      refine j_iload F 6 dX10_go_100 rfl ?_
      refine j_cVV F mi_X2_approach w_851 (rest := []) h (fun _ g => c_X2_approach g) rfl rfl (Nat.le_of_ble_eq_true rfl) ⟨Nat.le_of_ble_eq_true rfl, Nat.le_of_ble_eq_true rfl⟩ ⟨Nat.le_of_ble_eq_true rfl, Nat.le_of_ble_eq_true rfl⟩ dX10_go_102 (fun q18 h => ?_)
      refine j_aload_n F 0 dX10_go_105 rfl ?_
      refine j_iload F 4 dX10_go_106 rfl ?_
      refine j_aload_n F 2 dX10_go_108 rfl ?_
      refine j_aload_n F 3 dX10_go_109 rfl ?_
      refine j_cVV F mi_X10_meet w_840 (rest := []) h (fun _ g => c_X10_meet g) rfl rfl (Nat.le_of_ble_eq_true rfl) ⟨Nat.le_of_ble_eq_true rfl, Nat.le_of_ble_eq_true rfl⟩ ⟨Nat.le_of_ble_eq_true rfl, Nat.le_of_ble_eq_true rfl⟩ dX10_go_110 (fun q19 h => ?_)
      refine j_iinc F 1 7 [(7, .int (x.1 + 1)), (0, .ref (gb γ + a0)), (1, .ref (gb γ + a1)), (2, .ref (gb γ + a2)), (3, .ref (gb γ + a3)), (4, .int a4), (5, .int a5), (6, .int a6)] dX10_go_113 rfl (by decide) (by decide) rfl ?_
      refine j_goto F 78 dX10_go_116 (by decide) ?_
      refine j_lv [(0, .ref (gb γ + a0)), (1, .ref (gb γ + a1)), (2, .ref (gb γ + a2)), (3, .ref (gb γ + a3)), (4, .int a4), (5, .int a5), (6, .int a6), (7, .int (x.1 + 1))] [1, 2, 3, 4, 5, 6, 7, 0] rfl ?_
      have h9 := hk78 _ h
      exact h9
theorem s_X10_go_78 {γ : GE} {p : Program} {l : Launch} {e : Env} {s : State} {m : MethodId} {args : Array Value} {below : List Frame} {meth : Method} {c : Code} {S : SH} {X : (Unit × Mem)} (F : FX γ p s m args meth c cX10_go RX10 8) (hr : meth.sig.returnType = (none)) (k39 : (Int32 × Mem) → Option (Unit × Mem)) (hk39 : ∀ x : (Int32 × Mem), k39 x = some X → JJ γ p l e rm_X10_go s m args below meth c 8 0 0 (QV below γ S X args s 0 0) S x.2 39 [(0, .ref (gb γ + a0)), (1, .ref (gb γ + a1)), (2, .ref (gb γ + a2)), (3, .ref (gb γ + a3)), (4, .int x.1)] []) (a0 : Nat) (a1 : Nat) (a2 : Nat) (a3 : Nat) (a4 : Int32) (a5 : Int32) (a6 : Int32) (x : (Int32 × Mem)) (h : lpN (l_X10_go_78 S k39 a0 a1 a2 a3 a4 a5 a6) fu x = some X) : JJ γ p l e rm_X10_go s m args below meth c 8 0 0 (QV below γ S X args s 0 0) S x.2 78 [(0, .ref (gb γ + a0)), (1, .ref (gb γ + a1)), (2, .ref (gb γ + a2)), (3, .ref (gb γ + a3)), (4, .int a4), (5, .int a5), (6, .int a6), (7, .int x.1)] [] :=
 lpN_sound (fun x => JJ γ p l e rm_X10_go s m args below meth c 8 0 0 (QV below γ S X args s 0 0) S x.2 78 [(0, .ref (gb γ + a0)), (1, .ref (gb γ + a1)), (2, .ref (gb γ + a2)), (3, .ref (gb γ + a3)), (4, .int a4), (5, .int a5), (6, .int a6), (7, .int x.1)] []) (fun k78 hk78 x h => t_X10_go_78 F hr k39 hk39 a0 a1 a2 a3 a4 a5 a6 k78 hk78 x h) fu x h
def l_X10_go_39 (S : SH) (a0 : Nat) (a1 : Nat) (a2 : Nat) (a3 : Nat) (k39 : (Int32 × Mem) → Option (Unit × Mem)) (x : (Int32 × Mem)) : Option (Unit × Mem) :=
 (gI S 6 a1 2 x.2).bind fun v7 =>
 (if v7 ≤ x.1 then
 some ((), x.2)
 else
 (gR S 6 a1 0).bind fun v8 =>
 (aI S .int v8 x.1 x.2).bind fun v9 =>
 (gR S 6 a1 1).bind fun v10 =>
 (aI S .int v10 x.1 x.2).bind fun v11 =>
 (f_X6_isMove S a1 x.1 x.2).bind fun q12 =>
 (if q12.1 = 0 then
 (gR S 2 a2 3).bind fun v13 =>
 (sI S v13 v9 v11 q12.2).bind fun ν14 =>
 (f_X10_meet S a0 x.1 a2 a3 ν14).bind fun q15 =>
 k39 (x.1 + 1, q15.2)
 else
 lpN (l_X10_go_78 S k39 a0 a1 a2 a3 x.1 v9 v11) fu (0, q12.2)))
set_option maxRecDepth 100000 in
set_option maxHeartbeats 4000000 in
theorem t_X10_go_39 {γ : GE} {p : Program} {l : Launch} {e : Env} {s : State} {m : MethodId} {args : Array Value} {below : List Frame} {meth : Method} {c : Code} {S : SH} {X : (Unit × Mem)} (F : FX γ p s m args meth c cX10_go RX10 8) (hr : meth.sig.returnType = (none)) (a0 : Nat) (a1 : Nat) (a2 : Nat) (a3 : Nat) (k39 : (Int32 × Mem) → Option (Unit × Mem)) (hk39 : ∀ x : (Int32 × Mem), k39 x = some X → JJ γ p l e rm_X10_go s m args below meth c 8 0 0 (QV below γ S X args s 0 0) S x.2 39 [(0, .ref (gb γ + a0)), (1, .ref (gb γ + a1)), (2, .ref (gb γ + a2)), (3, .ref (gb γ + a3)), (4, .int x.1)] []) (x : (Int32 × Mem)) (h : l_X10_go_39 S a0 a1 a2 a3 k39 x = some X) : JJ γ p l e rm_X10_go s m args below meth c 8 0 0 (QV below γ S X args s 0 0) S x.2 39 [(0, .ref (gb γ + a0)), (1, .ref (gb γ + a1)), (2, .ref (gb γ + a2)), (3, .ref (gb γ + a3)), (4, .int x.1)] [] := by
  unfold l_X10_go_39 at h
  refine j_iload F 4 dX10_go_39 rfl ?_
  refine j_aload_n F 1 dX10_go_41 rfl ?_
  refine j_gI F fl_RX10_34.l rfl dX10_go_42 h (fun v7 h => ?_)
  refine j_icmpge F 145 dX10_go_45 (by decide) h (fun _ h => ?_) (fun _ h => ?_)
  · exact j_vret F hr dX10_go_145 h
  · refine j_aload_n F 1 dX10_go_48 rfl ?_
    refine j_gR F fl_RX10_39 rfl dX10_go_49 h (fun v8 h => ?_)
    refine j_iload F 4 dX10_go_52 rfl ?_
    refine j_iald F dX10_go_54 h (fun v9 h => ?_)
    refine j_istore F [(5, .int v9), (0, .ref (gb γ + a0)), (1, .ref (gb γ + a1)), (2, .ref (gb γ + a2)), (3, .ref (gb γ + a3)), (4, .int x.1)] dX10_go_55 (by decide) rfl ?_
    refine j_aload_n F 2 dX10_go_57 rfl ?_
    refine j_gR F fl_RX10_43 rfl dX10_go_58 h (fun v10 h => ?_)
    refine j_iload F 5 dX10_go_61 rfl ?_
    refine j_iald F dX10_go_63 h (fun v11 h => ?_)
    refine j_istore F [(6, .int v11), (5, .int v9), (0, .ref (gb γ + a0)), (1, .ref (gb γ + a1)), (2, .ref (gb γ + a2)), (3, .ref (gb γ + a3)), (4, .int x.1)] dX10_go_64 (by decide) rfl ?_
    refine j_aload_n F 3 dX10_go_66 rfl ?_
    refine j_iload F 6 dX10_go_67 rfl ?_
    refine j_cVI F mi_X6_isMove w_847 (rest := []) h (fun _ g => c_X6_isMove g) rfl rfl (Nat.le_of_ble_eq_true rfl) ⟨Nat.le_of_ble_eq_true rfl, Nat.le_of_ble_eq_true rfl⟩ ⟨Nat.le_of_ble_eq_true rfl, Nat.le_of_ble_eq_true rfl⟩ dX10_go_69 (fun q12 h => ?_)
    refine j_ifeq F 122 dX10_go_72 (by decide) h (fun _ h => ?_) (fun _ h => ?_)
    · refine j_aload_n F 4 dX10_go_122 rfl ?_
      refine j_gR F fl_RX10_50 rfl dX10_go_123 h (fun v13 h => ?_)
      refine j_iload F 1 dX10_go_126 rfl ?_
      refine j_iload F 0 dX10_go_128 rfl ?_
      refine j_iast F dX10_go_130 h (fun ν14 h => ?_)
      refine j_aload_n F 2 dX10_go_131 rfl ?_
      refine j_iload F 6 dX10_go_132 rfl ?_
      refine j_aload_n F 4 dX10_go_134 rfl ?_
      refine j_aload_n F 5 dX10_go_135 rfl ?_
      refine j_cVV F mi_X10_meet w_840 (rest := []) h (fun _ g => c_X10_meet g) rfl rfl (Nat.le_of_ble_eq_true rfl) ⟨Nat.le_of_ble_eq_true rfl, Nat.le_of_ble_eq_true rfl⟩ ⟨Nat.le_of_ble_eq_true rfl, Nat.le_of_ble_eq_true rfl⟩ dX10_go_136 (fun q15 h => ?_)
      refine j_iinc F 1 6 [(4, .int (x.1 + 1)), (6, .int v11), (5, .int v9), (0, .ref (gb γ + a0)), (1, .ref (gb γ + a1)), (2, .ref (gb γ + a2)), (3, .ref (gb γ + a3))] dX10_go_139 rfl (by decide) (by decide) rfl ?_
      refine j_goto F 39 dX10_go_142 (by decide) ?_
      refine j_lv [(0, .ref (gb γ + a0)), (1, .ref (gb γ + a1)), (2, .ref (gb γ + a2)), (3, .ref (gb γ + a3)), (4, .int (x.1 + 1))] [3, 4, 5, 6, 0] rfl ?_
      have h9 := hk39 _ h
      exact h9
    · refine j_iconst F 0 dX10_go_75 (by decide) ?_
      refine j_istore F [(7, .int 0), (6, .int v11), (5, .int v9), (0, .ref (gb γ + a0)), (1, .ref (gb γ + a1)), (2, .ref (gb γ + a2)), (3, .ref (gb γ + a3)), (4, .int x.1)] dX10_go_76 (by decide) rfl ?_
      refine j_lv [(0, .ref (gb γ + a0)), (1, .ref (gb γ + a1)), (2, .ref (gb γ + a2)), (3, .ref (gb γ + a3)), (4, .int x.1), (5, .int v9), (6, .int v11), (7, .int 0)] [3, 4, 5, 6, 7, 2, 1, 0] rfl ?_
      exact s_X10_go_78 F hr _ hk39 _ _ _ _ _ _ _ _ h
theorem s_X10_go_39 {γ : GE} {p : Program} {l : Launch} {e : Env} {s : State} {m : MethodId} {args : Array Value} {below : List Frame} {meth : Method} {c : Code} {S : SH} {X : (Unit × Mem)} (F : FX γ p s m args meth c cX10_go RX10 8) (hr : meth.sig.returnType = (none)) (a0 : Nat) (a1 : Nat) (a2 : Nat) (a3 : Nat) (x : (Int32 × Mem)) (h : lpN (l_X10_go_39 S a0 a1 a2 a3) fu x = some X) : JJ γ p l e rm_X10_go s m args below meth c 8 0 0 (QV below γ S X args s 0 0) S x.2 39 [(0, .ref (gb γ + a0)), (1, .ref (gb γ + a1)), (2, .ref (gb γ + a2)), (3, .ref (gb γ + a3)), (4, .int x.1)] [] :=
 lpN_sound (fun x => JJ γ p l e rm_X10_go s m args below meth c 8 0 0 (QV below γ S X args s 0 0) S x.2 39 [(0, .ref (gb γ + a0)), (1, .ref (gb γ + a1)), (2, .ref (gb γ + a2)), (3, .ref (gb γ + a3)), (4, .int x.1)] []) (fun k39 hk39 x h => t_X10_go_39 F hr a0 a1 a2 a3 k39 hk39 x h) fu x h
def f_X10_go (S : SH) (a0 : Nat) (a1 : Nat) (a2 : Nat) (a3 : Nat) (μ : Mem) : Option (Unit × Mem) :=
  if isO S 10 a0 = true then
  (pI S 10 a0 0 0 μ).bind fun ν1 =>
  (pI S 10 a0 1 (-5) ν1).bind fun ν2 =>
  (pI S 10 a0 2 (-5) ν2).bind fun ν3 =>
  (pI S 10 a0 3 0 ν3).bind fun ν4 =>
  (pI S 10 a0 4 2147483647 ν4).bind fun ν5 =>
  (f_X10_meet S a0 (-5) a2 a3 ν5).bind fun q6 =>
  lpN (l_X10_go_39 S  a0 a1 a2 a3) fu (0, q6.2)
  else none
set_option maxRecDepth 100000 in
set_option maxHeartbeats 4000000 in
theorem c_X10_go {l : Launch} {γ : GE} {S : SH} {a0 : Nat} {a1 : Nat} {a2 : Nat} {a3 : Nat} {μ : Mem} {X : (Unit × Mem)} (h : f_X10_go S a0 a1 a2 a3 μ = some X) : isO S 10 a0 = true ∧ Ct l γ yX10_go cX10_go 8 (none) rm_X10_go [.ref (gb γ + a0), .ref (gb γ + a1), .ref (gb γ + a2), .ref (gb γ + a3)] S μ S X.2 none := by
  unfold f_X10_go at h
  obtain ⟨h0, h⟩ := if_some h
  refine ⟨h0, ?_⟩
  have hJ : ∀ (p : Program) (e : Env) (s : State) (m : MethodId) (args : Array Value) (below : List Frame) (meth : Method) (c : Code), FX γ p s m args meth c cX10_go RX10 8 → meth.sig.returnType = (none) → JJ γ p l e rm_X10_go s m args below meth c 8 0 0 (QV below γ S X args s 0 0) S μ 0 [(0, .ref (gb γ + a0)), (1, .ref (gb γ + a1)), (2, .ref (gb γ + a2)), (3, .ref (gb γ + a3))] [] := by
    intro p e s m args below meth c F hr
    refine j_aload_n F 0 dX10_go_0 rfl ?_
    refine j_iconst F 0 dX10_go_1 (by decide) ?_
    refine j_pI F fl_RX10_9 rfl dX10_go_2 h (fun ν1 h => ?_)
    refine j_aload_n F 0 dX10_go_5 rfl ?_
    refine j_bipush F (-5) dX10_go_6 (by decide) ?_
    refine j_pI F fl_RX10_15 rfl dX10_go_8 h (fun ν2 h => ?_)
    refine j_aload_n F 0 dX10_go_11 rfl ?_
    refine j_bipush F (-5) dX10_go_12 (by decide) ?_
    refine j_pI F fl_RX10_18 rfl dX10_go_14 h (fun ν3 h => ?_)
    refine j_aload_n F 0 dX10_go_17 rfl ?_
    refine j_iconst F 0 dX10_go_18 (by decide) ?_
    refine j_pI F fl_RX10_21 rfl dX10_go_19 h (fun ν4 h => ?_)
    refine j_aload_n F 0 dX10_go_22 rfl ?_
    refine j_ldci F 2147483647 dX10_go_23 w_839 ?_
    refine j_pI F fl_RX10_27 rfl dX10_go_25 h (fun ν5 h => ?_)
    refine j_aload_n F 0 dX10_go_28 rfl ?_
    refine j_bipush F (-5) dX10_go_29 (by decide) ?_
    refine j_aload_n F 2 dX10_go_31 rfl ?_
    refine j_aload_n F 3 dX10_go_32 rfl ?_
    refine j_cVV F mi_X10_meet w_840 (rest := []) h (fun _ g => c_X10_meet g) rfl rfl (Nat.le_of_ble_eq_true rfl) ⟨Nat.le_of_ble_eq_true rfl, Nat.le_of_ble_eq_true rfl⟩ ⟨Nat.le_of_ble_eq_true rfl, Nat.le_of_ble_eq_true rfl⟩ dX10_go_33 (fun q6 h => ?_)
    refine j_iconst F 0 dX10_go_36 (by decide) ?_
    refine j_istore F [(4, .int 0), (0, .ref (gb γ + a0)), (1, .ref (gb γ + a1)), (2, .ref (gb γ + a2)), (3, .ref (gb γ + a3))] dX10_go_37 (by decide) rfl ?_
    refine j_lv [(0, .ref (gb γ + a0)), (1, .ref (gb γ + a1)), (2, .ref (gb γ + a2)), (3, .ref (gb γ + a3)), (4, .int 0)] [1, 2, 3, 4, 0] rfl ?_
    exact s_X10_go_39 F hr _ _ _ _ _ h
  exact ct_of (by decide +kernel) (Nat.le_of_ble_eq_true rfl) (fun p e s m args below meth c F hr _ => hJ p e s m args below meth c F hr)
def rm_X11_isPad : Room := { frames := 1, cells := 0, slots := 0, locals := 22 }
theorem dX11_isPad_0 : decode cX11_isPad 0 = .ok (.iload_n 0, 1) := by decide +kernel
theorem dX11_isPad_1 : decode cX11_isPad 1 = .ok (.iconst 0, 1) := by decide +kernel
theorem dX11_isPad_2 : decode cX11_isPad 2 = .ok (.iconst 3, 1) := by decide +kernel
theorem dX11_isPad_3 : decode cX11_isPad 3 = .ok (.invokestatic 84, 3) := by decide +kernel
theorem dX11_isPad_6 : decode cX11_isPad 6 = .ok (.ireturn, 1) := by decide +kernel
def f_X11_isPad (S : SH) (a0 : Int32) (μ : Mem) : Option (Int32 × Mem) :=
  (f_X11_within S a0 0 3 μ).bind fun q1 =>
  (oz q1.1).bind fun z2 => some (z2, q1.2)
set_option maxRecDepth 100000 in
set_option maxHeartbeats 4000000 in
theorem c_X11_isPad {l : Launch} {γ : GE} {S : SH} {a0 : Int32} {μ : Mem} {X : (Int32 × Mem)} (h : f_X11_isPad S a0 μ = some X) : Ct l γ yX11_isPad cX11_isPad 1 (some .boolean) rm_X11_isPad [.int a0] S μ S X.2 (some (.int X.1)) := by
  unfold f_X11_isPad at h
  have hJ : ∀ (p : Program) (e : Env) (s : State) (m : MethodId) (args : Array Value) (below : List Frame) (meth : Method) (c : Code), FX γ p s m args meth c cX11_isPad RX11 1 → meth.sig.returnType = (some .boolean) → JJ γ p l e rm_X11_isPad s m args below meth c 1 0 0 (QI below γ S X args s 0 0) S μ 0 [(0, .int a0)] [] := by
    intro p e s m args below meth c F hr
    refine j_iload_n F 0 dX11_isPad_0 rfl ?_
    refine j_iconst F 0 dX11_isPad_1 (by decide) ?_
    refine j_iconst F 3 dX11_isPad_2 (by decide) ?_
    refine j_cSI F mi_X11_within w_464 (rest := []) h (fun _ g => c_X11_within g) rfl rfl (Nat.le_of_ble_eq_true rfl) ⟨Nat.le_of_ble_eq_true rfl, Nat.le_of_ble_eq_true rfl⟩ ⟨Nat.le_of_ble_eq_true rfl, Nat.le_of_ble_eq_true rfl⟩ dX11_isPad_3 (fun q1 h => ?_)
    exact j_zretG F hr dX11_isPad_6 h
  exact ct_of (by decide +kernel) (Nat.le_of_ble_eq_true rfl) (fun p e s m args below meth c F hr _ => hJ p e s m args below meth c F hr)
def rm_X11_pad : Room := { frames := 4, cells := 0, slots := 0, locals := 98 }
theorem dX11_pad_0 : decode cX11_pad 0 = .ok (.iload_n 1, 1) := by decide +kernel
theorem dX11_pad_1 : decode cX11_pad 1 = .ok (.invokestatic 80, 3) := by decide +kernel
theorem dX11_pad_4 : decode cX11_pad 4 = .ok (.ifCond .ne 5, 3) := by decide +kernel
theorem dX11_pad_7 : decode cX11_pad 7 = .ok (.iconst (-1), 1) := by decide +kernel
theorem dX11_pad_8 : decode cX11_pad 8 = .ok (.ireturn, 1) := by decide +kernel
theorem dX11_pad_9 : decode cX11_pad 9 = .ok (.iload_n 2, 1) := by decide +kernel
theorem dX11_pad_10 : decode cX11_pad 10 = .ok (.bipush (-30), 2) := by decide +kernel
theorem dX11_pad_12 : decode cX11_pad 12 = .ok (.bipush 30, 2) := by decide +kernel
theorem dX11_pad_14 : decode cX11_pad 14 = .ok (.invokestatic 84, 3) := by decide +kernel
theorem dX11_pad_17 : decode cX11_pad 17 = .ok (.ifCond .eq 26, 3) := by decide +kernel
theorem dX11_pad_20 : decode cX11_pad 20 = .ok (.iload_n 3, 1) := by decide +kernel
theorem dX11_pad_21 : decode cX11_pad 21 = .ok (.bipush (-30), 2) := by decide +kernel
theorem dX11_pad_23 : decode cX11_pad 23 = .ok (.bipush 30, 2) := by decide +kernel
theorem dX11_pad_25 : decode cX11_pad 25 = .ok (.invokestatic 84, 3) := by decide +kernel
theorem dX11_pad_28 : decode cX11_pad 28 = .ok (.ifCond .eq 15, 3) := by decide +kernel
theorem dX11_pad_31 : decode cX11_pad 31 = .ok (.iload 4, 2) := by decide +kernel
theorem dX11_pad_33 : decode cX11_pad 33 = .ok (.iconst 0, 1) := by decide +kernel
theorem dX11_pad_34 : decode cX11_pad 34 = .ok (.sipush 9999, 3) := by decide +kernel
theorem dX11_pad_37 : decode cX11_pad 37 = .ok (.invokestatic 84, 3) := by decide +kernel
theorem dX11_pad_40 : decode cX11_pad 40 = .ok (.ifCond .ne 6, 3) := by decide +kernel
theorem dX11_pad_43 : decode cX11_pad 43 = .ok (.bipush (-2), 2) := by decide +kernel
theorem dX11_pad_45 : decode cX11_pad 45 = .ok (.ireturn, 1) := by decide +kernel
theorem dX11_pad_46 : decode cX11_pad 46 = .ok (.aload_n 0, 1) := by decide +kernel
theorem dX11_pad_47 : decode cX11_pad 47 = .ok (.getfield 12, 3) := by decide +kernel
theorem dX11_pad_50 : decode cX11_pad 50 = .ok (.getfield 88, 3) := by decide +kernel
theorem dX11_pad_53 : decode cX11_pad 53 = .ok (.iload_n 1, 1) := by decide +kernel
theorem dX11_pad_54 : decode cX11_pad 54 = .ok (.iload_n 2, 1) := by decide +kernel
theorem dX11_pad_55 : decode cX11_pad 55 = .ok (.iload_n 3, 1) := by decide +kernel
theorem dX11_pad_56 : decode cX11_pad 56 = .ok (.iload 4, 2) := by decide +kernel
theorem dX11_pad_58 : decode cX11_pad 58 = .ok (.invokevirtual 92, 3) := by decide +kernel
theorem dX11_pad_61 : decode cX11_pad 61 = .ok (.aload_n 0, 1) := by decide +kernel
theorem dX11_pad_62 : decode cX11_pad 62 = .ok (.getfield 12, 3) := by decide +kernel
theorem dX11_pad_65 : decode cX11_pad 65 = .ok (.getfield 88, 3) := by decide +kernel
theorem dX11_pad_68 : decode cX11_pad 68 = .ok (.getfield 98, 3) := by decide +kernel
theorem dX11_pad_71 : decode cX11_pad 71 = .ok (.ifCond .eq 7, 3) := by decide +kernel
theorem dX11_pad_74 : decode cX11_pad 74 = .ok (.iconst 1, 1) := by decide +kernel
theorem dX11_pad_75 : decode cX11_pad 75 = .ok (.goto 4, 3) := by decide +kernel
theorem dX11_pad_78 : decode cX11_pad 78 = .ok (.iconst 0, 1) := by decide +kernel
theorem dX11_pad_79 : decode cX11_pad 79 = .ok (.ireturn, 1) := by decide +kernel
def f_X11_pad (S : SH) (a0 : Nat) (a1 : Int32) (a2 : Int32) (a3 : Int32) (a4 : Int32) (μ : Mem) : Option (Int32 × Mem) :=
  if isO S 11 a0 = true then
  (f_X11_isPad S a1 μ).bind fun q1 =>
  (if q1.1 = 0 then
  some ((-1), q1.2)
  else
  (f_X11_within S a2 (-30) 30 q1.2).bind fun q2 =>
  (if q2.1 = 0 then
  some ((-2), q2.2)
  else
  (f_X11_within S a3 (-30) 30 q2.2).bind fun q3 =>
  (if q3.1 = 0 then
  some ((-2), q3.2)
  else
  (f_X11_within S a4 0 9999 q3.2).bind fun q4 =>
  (if q4.1 = 0 then
  some ((-2), q4.2)
  else
  (gR S 11 a0 0).bind fun v5 =>
  (gR S 2 v5 0).bind fun v6 =>
  (f_X4_place S v6 a1 a2 a3 a4 q4.2).bind fun q7 =>
  (gR S 11 a0 0).bind fun v8 =>
  (gR S 2 v8 0).bind fun v9 =>
  (gI S 4 v9 3 q7.2).bind fun v10 =>
  (if v10 = 0 then
  some (0, q7.2)
  else
  some (1, q7.2))))))
  else none
set_option maxRecDepth 100000 in
set_option maxHeartbeats 4000000 in
theorem c_X11_pad {l : Launch} {γ : GE} {S : SH} {a0 : Nat} {a1 : Int32} {a2 : Int32} {a3 : Int32} {a4 : Int32} {μ : Mem} {X : (Int32 × Mem)} (h : f_X11_pad S a0 a1 a2 a3 a4 μ = some X) : isO S 11 a0 = true ∧ Ct l γ yX11_pad cX11_pad 5 (some .int) rm_X11_pad [.ref (gb γ + a0), .int a1, .int a2, .int a3, .int a4] S μ S X.2 (some (.int X.1)) := by
  unfold f_X11_pad at h
  obtain ⟨h0, h⟩ := if_some h
  refine ⟨h0, ?_⟩
  have hJ : ∀ (p : Program) (e : Env) (s : State) (m : MethodId) (args : Array Value) (below : List Frame) (meth : Method) (c : Code), FX γ p s m args meth c cX11_pad RX11 5 → meth.sig.returnType = (some .int) → JJ γ p l e rm_X11_pad s m args below meth c 5 0 0 (QI below γ S X args s 0 0) S μ 0 [(0, .ref (gb γ + a0)), (1, .int a1), (2, .int a2), (3, .int a3), (4, .int a4)] [] := by
    intro p e s m args below meth c F hr
    refine j_iload_n F 1 dX11_pad_0 rfl ?_
    refine j_cSI F mi_X11_isPad w_461 (rest := []) h (fun _ g => c_X11_isPad g) rfl rfl (Nat.le_of_ble_eq_true rfl) ⟨Nat.le_of_ble_eq_true rfl, Nat.le_of_ble_eq_true rfl⟩ ⟨Nat.le_of_ble_eq_true rfl, Nat.le_of_ble_eq_true rfl⟩ dX11_pad_1 (fun q1 h => ?_)
    refine j_ifne F 9 dX11_pad_4 (by decide) h (fun _ h => ?_) (fun _ h => ?_)
    · refine j_iload_n F 2 dX11_pad_9 rfl ?_
      refine j_bipush F (-30) dX11_pad_10 (by decide) ?_
      refine j_bipush F 30 dX11_pad_12 (by decide) ?_
      refine j_cSI F mi_X11_within w_464 (rest := []) h (fun _ g => c_X11_within g) rfl rfl (Nat.le_of_ble_eq_true rfl) ⟨Nat.le_of_ble_eq_true rfl, Nat.le_of_ble_eq_true rfl⟩ ⟨Nat.le_of_ble_eq_true rfl, Nat.le_of_ble_eq_true rfl⟩ dX11_pad_14 (fun q2 h => ?_)
      refine j_ifeq F 43 dX11_pad_17 (by decide) h (fun _ h => ?_) (fun _ h => ?_)
      · refine j_bipush F (-2) dX11_pad_43 (by decide) ?_
        exact j_iret F hr dX11_pad_45 h
      · refine j_iload_n F 3 dX11_pad_20 rfl ?_
        refine j_bipush F (-30) dX11_pad_21 (by decide) ?_
        refine j_bipush F 30 dX11_pad_23 (by decide) ?_
        refine j_cSI F mi_X11_within w_464 (rest := []) h (fun _ g => c_X11_within g) rfl rfl (Nat.le_of_ble_eq_true rfl) ⟨Nat.le_of_ble_eq_true rfl, Nat.le_of_ble_eq_true rfl⟩ ⟨Nat.le_of_ble_eq_true rfl, Nat.le_of_ble_eq_true rfl⟩ dX11_pad_25 (fun q3 h => ?_)
        refine j_ifeq F 43 dX11_pad_28 (by decide) h (fun _ h => ?_) (fun _ h => ?_)
        · refine j_bipush F (-2) dX11_pad_43 (by decide) ?_
          exact j_iret F hr dX11_pad_45 h
        · refine j_iload F 4 dX11_pad_31 rfl ?_
          refine j_iconst F 0 dX11_pad_33 (by decide) ?_
          refine j_sipush F 9999 dX11_pad_34 (by decide) ?_
          refine j_cSI F mi_X11_within w_464 (rest := []) h (fun _ g => c_X11_within g) rfl rfl (Nat.le_of_ble_eq_true rfl) ⟨Nat.le_of_ble_eq_true rfl, Nat.le_of_ble_eq_true rfl⟩ ⟨Nat.le_of_ble_eq_true rfl, Nat.le_of_ble_eq_true rfl⟩ dX11_pad_37 (fun q4 h => ?_)
          refine j_ifne F 46 dX11_pad_40 (by decide) h (fun _ h => ?_) (fun _ h => ?_)
          · refine j_aload_n F 0 dX11_pad_46 rfl ?_
            refine j_gR F fl_RX11_12 rfl dX11_pad_47 h (fun v5 h => ?_)
            refine j_gR F fl_RX11_88 rfl dX11_pad_50 h (fun v6 h => ?_)
            refine j_iload_n F 1 dX11_pad_53 rfl ?_
            refine j_iload_n F 2 dX11_pad_54 rfl ?_
            refine j_iload_n F 3 dX11_pad_55 rfl ?_
            refine j_iload F 4 dX11_pad_56 rfl ?_
            refine j_cVV F mi_X4_place w_467 (rest := []) h (fun _ g => c_X4_place g) rfl rfl (Nat.le_of_ble_eq_true rfl) ⟨Nat.le_of_ble_eq_true rfl, Nat.le_of_ble_eq_true rfl⟩ ⟨Nat.le_of_ble_eq_true rfl, Nat.le_of_ble_eq_true rfl⟩ dX11_pad_58 (fun q7 h => ?_)
            refine j_aload_n F 0 dX11_pad_61 rfl ?_
            refine j_gR F fl_RX11_12 rfl dX11_pad_62 h (fun v8 h => ?_)
            refine j_gR F fl_RX11_88 rfl dX11_pad_65 h (fun v9 h => ?_)
            refine j_gI F fl_RX11_98.l rfl dX11_pad_68 h (fun v10 h => ?_)
            refine j_ifeq F 78 dX11_pad_71 (by decide) h (fun _ h => ?_) (fun _ h => ?_)
            · refine j_iconst F 0 dX11_pad_78 (by decide) ?_
              exact j_iret F hr dX11_pad_79 h
            · refine j_iconst F 1 dX11_pad_74 (by decide) ?_
              refine j_goto F 79 dX11_pad_75 (by decide) ?_
              exact j_iret F hr dX11_pad_79 h
          · refine j_bipush F (-2) dX11_pad_43 (by decide) ?_
            exact j_iret F hr dX11_pad_45 h
    · refine j_iconst F (-1) dX11_pad_7 (by decide) ?_
      exact j_iret F hr dX11_pad_8 h
  exact ct_of (by decide +kernel) (Nat.le_of_ble_eq_true rfl) (fun p e s m args below meth c F hr _ => hJ p e s m args below meth c F hr)
def rm_X11_isMass : Room := { frames := 1, cells := 0, slots := 0, locals := 22 }
theorem dX11_isMass_0 : decode cX11_isMass 0 = .ok (.iload_n 0, 1) := by decide +kernel
theorem dX11_isMass_1 : decode cX11_isMass 1 = .ok (.iconst 1, 1) := by decide +kernel
theorem dX11_isMass_2 : decode cX11_isMass 2 = .ok (.sipush 999, 3) := by decide +kernel
theorem dX11_isMass_5 : decode cX11_isMass 5 = .ok (.invokestatic 84, 3) := by decide +kernel
theorem dX11_isMass_8 : decode cX11_isMass 8 = .ok (.ireturn, 1) := by decide +kernel
def f_X11_isMass (S : SH) (a0 : Int32) (μ : Mem) : Option (Int32 × Mem) :=
  (f_X11_within S a0 1 999 μ).bind fun q1 =>
  (oz q1.1).bind fun z2 => some (z2, q1.2)
set_option maxRecDepth 100000 in
set_option maxHeartbeats 4000000 in
theorem c_X11_isMass {l : Launch} {γ : GE} {S : SH} {a0 : Int32} {μ : Mem} {X : (Int32 × Mem)} (h : f_X11_isMass S a0 μ = some X) : Ct l γ yX11_isMass cX11_isMass 1 (some .boolean) rm_X11_isMass [.int a0] S μ S X.2 (some (.int X.1)) := by
  unfold f_X11_isMass at h
  have hJ : ∀ (p : Program) (e : Env) (s : State) (m : MethodId) (args : Array Value) (below : List Frame) (meth : Method) (c : Code), FX γ p s m args meth c cX11_isMass RX11 1 → meth.sig.returnType = (some .boolean) → JJ γ p l e rm_X11_isMass s m args below meth c 1 0 0 (QI below γ S X args s 0 0) S μ 0 [(0, .int a0)] [] := by
    intro p e s m args below meth c F hr
    refine j_iload_n F 0 dX11_isMass_0 rfl ?_
    refine j_iconst F 1 dX11_isMass_1 (by decide) ?_
    refine j_sipush F 999 dX11_isMass_2 (by decide) ?_
    refine j_cSI F mi_X11_within w_464 (rest := []) h (fun _ g => c_X11_within g) rfl rfl (Nat.le_of_ble_eq_true rfl) ⟨Nat.le_of_ble_eq_true rfl, Nat.le_of_ble_eq_true rfl⟩ ⟨Nat.le_of_ble_eq_true rfl, Nat.le_of_ble_eq_true rfl⟩ dX11_isMass_5 (fun q1 h => ?_)
    exact j_zretG F hr dX11_isMass_8 h
  exact ct_of (by decide +kernel) (Nat.le_of_ble_eq_true rfl) (fun p e s m args below meth c F hr _ => hJ p e s m args below meth c F hr)
def rm_X11_part : Room := { frames := 2, cells := 0, slots := 0, locals := 48 }
theorem dX11_part_0 : decode cX11_part 0 = .ok (.iload_n 1, 1) := by decide +kernel
theorem dX11_part_1 : decode cX11_part 1 = .ok (.invokestatic 101, 3) := by decide +kernel
theorem dX11_part_4 : decode cX11_part 4 = .ok (.ifCond .eq 25, 3) := by decide +kernel
theorem dX11_part_7 : decode cX11_part 7 = .ok (.iload_n 2, 1) := by decide +kernel
theorem dX11_part_8 : decode cX11_part 8 = .ok (.bipush (-40), 2) := by decide +kernel
theorem dX11_part_10 : decode cX11_part 10 = .ok (.bipush 40, 2) := by decide +kernel
theorem dX11_part_12 : decode cX11_part 12 = .ok (.invokestatic 84, 3) := by decide +kernel
theorem dX11_part_15 : decode cX11_part 15 = .ok (.ifCond .eq 14, 3) := by decide +kernel
theorem dX11_part_18 : decode cX11_part 18 = .ok (.iload_n 3, 1) := by decide +kernel
theorem dX11_part_19 : decode cX11_part 19 = .ok (.bipush (-40), 2) := by decide +kernel
theorem dX11_part_21 : decode cX11_part 21 = .ok (.bipush 40, 2) := by decide +kernel
theorem dX11_part_23 : decode cX11_part 23 = .ok (.invokestatic 84, 3) := by decide +kernel
theorem dX11_part_26 : decode cX11_part 26 = .ok (.ifCond .ne 6, 3) := by decide +kernel
theorem dX11_part_29 : decode cX11_part 29 = .ok (.bipush (-2), 2) := by decide +kernel
theorem dX11_part_31 : decode cX11_part 31 = .ok (.ireturn, 1) := by decide +kernel
theorem dX11_part_32 : decode cX11_part 32 = .ok (.aload_n 0, 1) := by decide +kernel
theorem dX11_part_33 : decode cX11_part 33 = .ok (.getfield 12, 3) := by decide +kernel
theorem dX11_part_36 : decode cX11_part 36 = .ok (.getfield 104, 3) := by decide +kernel
theorem dX11_part_39 : decode cX11_part 39 = .ok (.getfield 108, 3) := by decide +kernel
theorem dX11_part_42 : decode cX11_part 42 = .ok (.bipush 8, 2) := by decide +kernel
theorem dX11_part_44 : decode cX11_part 44 = .ok (.if_icmp .lt 6, 3) := by decide +kernel
theorem dX11_part_47 : decode cX11_part 47 = .ok (.bipush (-4), 2) := by decide +kernel
theorem dX11_part_49 : decode cX11_part 49 = .ok (.ireturn, 1) := by decide +kernel
theorem dX11_part_50 : decode cX11_part 50 = .ok (.aload_n 0, 1) := by decide +kernel
theorem dX11_part_51 : decode cX11_part 51 = .ok (.getfield 12, 3) := by decide +kernel
theorem dX11_part_54 : decode cX11_part 54 = .ok (.getfield 104, 3) := by decide +kernel
theorem dX11_part_57 : decode cX11_part 57 = .ok (.iload_n 1, 1) := by decide +kernel
theorem dX11_part_58 : decode cX11_part 58 = .ok (.iload_n 2, 1) := by decide +kernel
theorem dX11_part_59 : decode cX11_part 59 = .ok (.iload_n 3, 1) := by decide +kernel
theorem dX11_part_60 : decode cX11_part 60 = .ok (.iload 4, 2) := by decide +kernel
theorem dX11_part_62 : decode cX11_part 62 = .ok (.invokevirtual 114, 3) := by decide +kernel
theorem dX11_part_65 : decode cX11_part 65 = .ok (.ireturn, 1) := by decide +kernel
def f_X11_part (S : SH) (a0 : Nat) (a1 : Int32) (a2 : Int32) (a3 : Int32) (a4 : Int32) (μ : Mem) : Option (Int32 × Mem) :=
  if isO S 11 a0 = true then
  (f_X11_isMass S a1 μ).bind fun q1 =>
  (if q1.1 = 0 then
  some ((-2), q1.2)
  else
  (f_X11_within S a2 (-40) 40 q1.2).bind fun q2 =>
  (if q2.1 = 0 then
  some ((-2), q2.2)
  else
  (f_X11_within S a3 (-40) 40 q2.2).bind fun q3 =>
  (if q3.1 = 0 then
  some ((-2), q3.2)
  else
  (gR S 11 a0 0).bind fun v4 =>
  (gR S 2 v4 1).bind fun v5 =>
  (gI S 5 v5 4 q3.2).bind fun v6 =>
  (if v6 < 8 then
  (gR S 11 a0 0).bind fun v7 =>
  (gR S 2 v7 1).bind fun v8 =>
  (f_X5_append S v8 a1 a2 a3 a4 q3.2).bind fun q9 =>
  some (q9.1, q9.2)
  else
  some ((-4), q3.2)))))
  else none
set_option maxRecDepth 100000 in
set_option maxHeartbeats 4000000 in
theorem c_X11_part {l : Launch} {γ : GE} {S : SH} {a0 : Nat} {a1 : Int32} {a2 : Int32} {a3 : Int32} {a4 : Int32} {μ : Mem} {X : (Int32 × Mem)} (h : f_X11_part S a0 a1 a2 a3 a4 μ = some X) : isO S 11 a0 = true ∧ Ct l γ yX11_part cX11_part 5 (some .int) rm_X11_part [.ref (gb γ + a0), .int a1, .int a2, .int a3, .int a4] S μ S X.2 (some (.int X.1)) := by
  unfold f_X11_part at h
  obtain ⟨h0, h⟩ := if_some h
  refine ⟨h0, ?_⟩
  have hJ : ∀ (p : Program) (e : Env) (s : State) (m : MethodId) (args : Array Value) (below : List Frame) (meth : Method) (c : Code), FX γ p s m args meth c cX11_part RX11 5 → meth.sig.returnType = (some .int) → JJ γ p l e rm_X11_part s m args below meth c 5 0 0 (QI below γ S X args s 0 0) S μ 0 [(0, .ref (gb γ + a0)), (1, .int a1), (2, .int a2), (3, .int a3), (4, .int a4)] [] := by
    intro p e s m args below meth c F hr
    refine j_iload_n F 1 dX11_part_0 rfl ?_
    refine j_cSI F mi_X11_isMass w_475 (rest := []) h (fun _ g => c_X11_isMass g) rfl rfl (Nat.le_of_ble_eq_true rfl) ⟨Nat.le_of_ble_eq_true rfl, Nat.le_of_ble_eq_true rfl⟩ ⟨Nat.le_of_ble_eq_true rfl, Nat.le_of_ble_eq_true rfl⟩ dX11_part_1 (fun q1 h => ?_)
    refine j_ifeq F 29 dX11_part_4 (by decide) h (fun _ h => ?_) (fun _ h => ?_)
    · refine j_bipush F (-2) dX11_part_29 (by decide) ?_
      exact j_iret F hr dX11_part_31 h
    · refine j_iload_n F 2 dX11_part_7 rfl ?_
      refine j_bipush F (-40) dX11_part_8 (by decide) ?_
      refine j_bipush F 40 dX11_part_10 (by decide) ?_
      refine j_cSI F mi_X11_within w_464 (rest := []) h (fun _ g => c_X11_within g) rfl rfl (Nat.le_of_ble_eq_true rfl) ⟨Nat.le_of_ble_eq_true rfl, Nat.le_of_ble_eq_true rfl⟩ ⟨Nat.le_of_ble_eq_true rfl, Nat.le_of_ble_eq_true rfl⟩ dX11_part_12 (fun q2 h => ?_)
      refine j_ifeq F 29 dX11_part_15 (by decide) h (fun _ h => ?_) (fun _ h => ?_)
      · refine j_bipush F (-2) dX11_part_29 (by decide) ?_
        exact j_iret F hr dX11_part_31 h
      · refine j_iload_n F 3 dX11_part_18 rfl ?_
        refine j_bipush F (-40) dX11_part_19 (by decide) ?_
        refine j_bipush F 40 dX11_part_21 (by decide) ?_
        refine j_cSI F mi_X11_within w_464 (rest := []) h (fun _ g => c_X11_within g) rfl rfl (Nat.le_of_ble_eq_true rfl) ⟨Nat.le_of_ble_eq_true rfl, Nat.le_of_ble_eq_true rfl⟩ ⟨Nat.le_of_ble_eq_true rfl, Nat.le_of_ble_eq_true rfl⟩ dX11_part_23 (fun q3 h => ?_)
        refine j_ifne F 32 dX11_part_26 (by decide) h (fun _ h => ?_) (fun _ h => ?_)
        · refine j_aload_n F 0 dX11_part_32 rfl ?_
          refine j_gR F fl_RX11_12 rfl dX11_part_33 h (fun v4 h => ?_)
          refine j_gR F fl_RX11_104 rfl dX11_part_36 h (fun v5 h => ?_)
          refine j_gI F fl_RX11_108.l rfl dX11_part_39 h (fun v6 h => ?_)
          refine j_bipush F 8 dX11_part_42 (by decide) ?_
          refine j_icmplt F 50 dX11_part_44 (by decide) h (fun _ h => ?_) (fun _ h => ?_)
          · refine j_aload_n F 0 dX11_part_50 rfl ?_
            refine j_gR F fl_RX11_12 rfl dX11_part_51 h (fun v7 h => ?_)
            refine j_gR F fl_RX11_104 rfl dX11_part_54 h (fun v8 h => ?_)
            refine j_iload_n F 1 dX11_part_57 rfl ?_
            refine j_iload_n F 2 dX11_part_58 rfl ?_
            refine j_iload_n F 3 dX11_part_59 rfl ?_
            refine j_iload F 4 dX11_part_60 rfl ?_
            refine j_cVI F mi_X5_append w_478 (rest := []) h (fun _ g => c_X5_append g) rfl rfl (Nat.le_of_ble_eq_true rfl) ⟨Nat.le_of_ble_eq_true rfl, Nat.le_of_ble_eq_true rfl⟩ ⟨Nat.le_of_ble_eq_true rfl, Nat.le_of_ble_eq_true rfl⟩ dX11_part_62 (fun q9 h => ?_)
            exact j_iret F hr dX11_part_65 h
          · refine j_bipush F (-4) dX11_part_47 (by decide) ?_
            exact j_iret F hr dX11_part_49 h
        · refine j_bipush F (-2) dX11_part_29 (by decide) ?_
          exact j_iret F hr dX11_part_31 h
  exact ct_of (by decide +kernel) (Nat.le_of_ble_eq_true rfl) (fun p e s m args below meth c F hr _ => hJ p e s m args below meth c F hr)
def rm_X11_mass : Room := { frames := 2, cells := 0, slots := 0, locals := 42 }
theorem dX11_mass_0 : decode cX11_mass 0 = .ok (.aload_n 0, 1) := by decide +kernel
theorem dX11_mass_1 : decode cX11_mass 1 = .ok (.getfield 12, 3) := by decide +kernel
theorem dX11_mass_4 : decode cX11_mass 4 = .ok (.getfield 104, 3) := by decide +kernel
theorem dX11_mass_7 : decode cX11_mass 7 = .ok (.iload_n 1, 1) := by decide +kernel
theorem dX11_mass_8 : decode cX11_mass 8 = .ok (.invokevirtual 118, 3) := by decide +kernel
theorem dX11_mass_11 : decode cX11_mass 11 = .ok (.ifCond .ne 5, 3) := by decide +kernel
theorem dX11_mass_14 : decode cX11_mass 14 = .ok (.iconst (-1), 1) := by decide +kernel
theorem dX11_mass_15 : decode cX11_mass 15 = .ok (.ireturn, 1) := by decide +kernel
theorem dX11_mass_16 : decode cX11_mass 16 = .ok (.iload_n 2, 1) := by decide +kernel
theorem dX11_mass_17 : decode cX11_mass 17 = .ok (.invokestatic 101, 3) := by decide +kernel
theorem dX11_mass_20 : decode cX11_mass 20 = .ok (.ifCond .ne 6, 3) := by decide +kernel
theorem dX11_mass_23 : decode cX11_mass 23 = .ok (.bipush (-2), 2) := by decide +kernel
theorem dX11_mass_25 : decode cX11_mass 25 = .ok (.ireturn, 1) := by decide +kernel
theorem dX11_mass_26 : decode cX11_mass 26 = .ok (.aload_n 0, 1) := by decide +kernel
theorem dX11_mass_27 : decode cX11_mass 27 = .ok (.getfield 12, 3) := by decide +kernel
theorem dX11_mass_30 : decode cX11_mass 30 = .ok (.getfield 104, 3) := by decide +kernel
theorem dX11_mass_33 : decode cX11_mass 33 = .ok (.getfield 121, 3) := by decide +kernel
theorem dX11_mass_36 : decode cX11_mass 36 = .ok (.iload_n 1, 1) := by decide +kernel
theorem dX11_mass_37 : decode cX11_mass 37 = .ok (.iaload, 1) := by decide +kernel
theorem dX11_mass_38 : decode cX11_mass 38 = .ok (.istore_n 3, 1) := by decide +kernel
theorem dX11_mass_39 : decode cX11_mass 39 = .ok (.aload_n 0, 1) := by decide +kernel
theorem dX11_mass_40 : decode cX11_mass 40 = .ok (.getfield 12, 3) := by decide +kernel
theorem dX11_mass_43 : decode cX11_mass 43 = .ok (.getfield 104, 3) := by decide +kernel
theorem dX11_mass_46 : decode cX11_mass 46 = .ok (.iload_n 1, 1) := by decide +kernel
theorem dX11_mass_47 : decode cX11_mass 47 = .ok (.iload_n 2, 1) := by decide +kernel
theorem dX11_mass_48 : decode cX11_mass 48 = .ok (.invokevirtual 125, 3) := by decide +kernel
theorem dX11_mass_51 : decode cX11_mass 51 = .ok (.iload_n 3, 1) := by decide +kernel
theorem dX11_mass_52 : decode cX11_mass 52 = .ok (.ireturn, 1) := by decide +kernel
def f_X11_mass (S : SH) (a0 : Nat) (a1 : Int32) (a2 : Int32) (μ : Mem) : Option (Int32 × Mem) :=
  if isO S 11 a0 = true then
  (gR S 11 a0 0).bind fun v1 =>
  (gR S 2 v1 1).bind fun v2 =>
  (f_X5_has S v2 a1 μ).bind fun q3 =>
  (if q3.1 = 0 then
  some ((-1), q3.2)
  else
  (f_X11_isMass S a2 q3.2).bind fun q4 =>
  (if q4.1 = 0 then
  some ((-2), q4.2)
  else
  (gR S 11 a0 0).bind fun v5 =>
  (gR S 2 v5 1).bind fun v6 =>
  (gR S 5 v6 0).bind fun v7 =>
  (aI S .int v7 a1 q4.2).bind fun v8 =>
  (gR S 11 a0 0).bind fun v9 =>
  (gR S 2 v9 1).bind fun v10 =>
  (f_X5_reweigh S v10 a1 a2 q4.2).bind fun q11 =>
  some (v8, q11.2)))
  else none
set_option maxRecDepth 100000 in
set_option maxHeartbeats 4000000 in
theorem c_X11_mass {l : Launch} {γ : GE} {S : SH} {a0 : Nat} {a1 : Int32} {a2 : Int32} {μ : Mem} {X : (Int32 × Mem)} (h : f_X11_mass S a0 a1 a2 μ = some X) : isO S 11 a0 = true ∧ Ct l γ yX11_mass cX11_mass 4 (some .int) rm_X11_mass [.ref (gb γ + a0), .int a1, .int a2] S μ S X.2 (some (.int X.1)) := by
  unfold f_X11_mass at h
  obtain ⟨h0, h⟩ := if_some h
  refine ⟨h0, ?_⟩
  have hJ : ∀ (p : Program) (e : Env) (s : State) (m : MethodId) (args : Array Value) (below : List Frame) (meth : Method) (c : Code), FX γ p s m args meth c cX11_mass RX11 4 → meth.sig.returnType = (some .int) → JJ γ p l e rm_X11_mass s m args below meth c 4 0 0 (QI below γ S X args s 0 0) S μ 0 [(0, .ref (gb γ + a0)), (1, .int a1), (2, .int a2)] [] := by
    intro p e s m args below meth c F hr
    refine j_aload_n F 0 dX11_mass_0 rfl ?_
    refine j_gR F fl_RX11_12 rfl dX11_mass_1 h (fun v1 h => ?_)
    refine j_gR F fl_RX11_104 rfl dX11_mass_4 h (fun v2 h => ?_)
    refine j_iload_n F 1 dX11_mass_7 rfl ?_
    refine j_cVI F mi_X5_has w_490 (rest := []) h (fun _ g => c_X5_has g) rfl rfl (Nat.le_of_ble_eq_true rfl) ⟨Nat.le_of_ble_eq_true rfl, Nat.le_of_ble_eq_true rfl⟩ ⟨Nat.le_of_ble_eq_true rfl, Nat.le_of_ble_eq_true rfl⟩ dX11_mass_8 (fun q3 h => ?_)
    refine j_ifne F 16 dX11_mass_11 (by decide) h (fun _ h => ?_) (fun _ h => ?_)
    · refine j_iload_n F 2 dX11_mass_16 rfl ?_
      refine j_cSI F mi_X11_isMass w_475 (rest := []) h (fun _ g => c_X11_isMass g) rfl rfl (Nat.le_of_ble_eq_true rfl) ⟨Nat.le_of_ble_eq_true rfl, Nat.le_of_ble_eq_true rfl⟩ ⟨Nat.le_of_ble_eq_true rfl, Nat.le_of_ble_eq_true rfl⟩ dX11_mass_17 (fun q4 h => ?_)
      refine j_ifne F 26 dX11_mass_20 (by decide) h (fun _ h => ?_) (fun _ h => ?_)
      · refine j_aload_n F 0 dX11_mass_26 rfl ?_
        refine j_gR F fl_RX11_12 rfl dX11_mass_27 h (fun v5 h => ?_)
        refine j_gR F fl_RX11_104 rfl dX11_mass_30 h (fun v6 h => ?_)
        refine j_gR F fl_RX11_121 rfl dX11_mass_33 h (fun v7 h => ?_)
        refine j_iload_n F 1 dX11_mass_36 rfl ?_
        refine j_iald F dX11_mass_37 h (fun v8 h => ?_)
        refine j_istore_n F [(3, .int v8), (0, .ref (gb γ + a0)), (1, .int a1), (2, .int a2)] dX11_mass_38 rfl (by decide) rfl ?_
        refine j_aload_n F 1 dX11_mass_39 rfl ?_
        refine j_gR F fl_RX11_12 rfl dX11_mass_40 h (fun v9 h => ?_)
        refine j_gR F fl_RX11_104 rfl dX11_mass_43 h (fun v10 h => ?_)
        refine j_iload_n F 2 dX11_mass_46 rfl ?_
        refine j_iload_n F 3 dX11_mass_47 rfl ?_
        refine j_cVV F mi_X5_reweigh w_494 (rest := []) h (fun _ g => c_X5_reweigh g) rfl rfl (Nat.le_of_ble_eq_true rfl) ⟨Nat.le_of_ble_eq_true rfl, Nat.le_of_ble_eq_true rfl⟩ ⟨Nat.le_of_ble_eq_true rfl, Nat.le_of_ble_eq_true rfl⟩ dX11_mass_48 (fun q11 h => ?_)
        refine j_iload_n F 0 dX11_mass_51 rfl ?_
        exact j_iret F hr dX11_mass_52 h
      · refine j_bipush F (-2) dX11_mass_23 (by decide) ?_
        exact j_iret F hr dX11_mass_25 h
    · refine j_iconst F (-1) dX11_mass_14 (by decide) ?_
      exact j_iret F hr dX11_mass_15 h
  exact ct_of (by decide +kernel) (Nat.le_of_ble_eq_true rfl) (fun p e s m args below meth c F hr _ => hJ p e s m args below meth c F hr)
def rm_X11_isDial : Room := { frames := 1, cells := 0, slots := 0, locals := 22 }
theorem dX11_isDial_0 : decode cX11_isDial 0 = .ok (.iload_n 0, 1) := by decide +kernel
theorem dX11_isDial_1 : decode cX11_isDial 1 = .ok (.iconst 0, 1) := by decide +kernel
theorem dX11_isDial_2 : decode cX11_isDial 2 = .ok (.bipush 7, 2) := by decide +kernel
theorem dX11_isDial_4 : decode cX11_isDial 4 = .ok (.invokestatic 84, 3) := by decide +kernel
theorem dX11_isDial_7 : decode cX11_isDial 7 = .ok (.ifCond .ne 14, 3) := by decide +kernel
theorem dX11_isDial_10 : decode cX11_isDial 10 = .ok (.iload_n 0, 1) := by decide +kernel
theorem dX11_isDial_11 : decode cX11_isDial 11 = .ok (.bipush 10, 2) := by decide +kernel
theorem dX11_isDial_13 : decode cX11_isDial 13 = .ok (.bipush 13, 2) := by decide +kernel
theorem dX11_isDial_15 : decode cX11_isDial 15 = .ok (.invokestatic 84, 3) := by decide +kernel
theorem dX11_isDial_18 : decode cX11_isDial 18 = .ok (.ifCond .eq 7, 3) := by decide +kernel
theorem dX11_isDial_21 : decode cX11_isDial 21 = .ok (.iconst 1, 1) := by decide +kernel
theorem dX11_isDial_22 : decode cX11_isDial 22 = .ok (.goto 4, 3) := by decide +kernel
theorem dX11_isDial_25 : decode cX11_isDial 25 = .ok (.iconst 0, 1) := by decide +kernel
theorem dX11_isDial_26 : decode cX11_isDial 26 = .ok (.ireturn, 1) := by decide +kernel
def f_X11_isDial (S : SH) (a0 : Int32) (μ : Mem) : Option (Int32 × Mem) :=
  (f_X11_within S a0 0 7 μ).bind fun q1 =>
  (if q1.1 = 0 then
  (f_X11_within S a0 10 13 q1.2).bind fun q2 =>
  (if q2.1 = 0 then
  some (0, q2.2)
  else
  some (1, q2.2))
  else
  some (1, q1.2))
set_option maxRecDepth 100000 in
set_option maxHeartbeats 4000000 in
theorem c_X11_isDial {l : Launch} {γ : GE} {S : SH} {a0 : Int32} {μ : Mem} {X : (Int32 × Mem)} (h : f_X11_isDial S a0 μ = some X) : Ct l γ yX11_isDial cX11_isDial 1 (some .boolean) rm_X11_isDial [.int a0] S μ S X.2 (some (.int X.1)) := by
  unfold f_X11_isDial at h
  have hJ : ∀ (p : Program) (e : Env) (s : State) (m : MethodId) (args : Array Value) (below : List Frame) (meth : Method) (c : Code), FX γ p s m args meth c cX11_isDial RX11 1 → meth.sig.returnType = (some .boolean) → JJ γ p l e rm_X11_isDial s m args below meth c 1 0 0 (QI below γ S X args s 0 0) S μ 0 [(0, .int a0)] [] := by
    intro p e s m args below meth c F hr
    refine j_iload_n F 0 dX11_isDial_0 rfl ?_
    refine j_iconst F 0 dX11_isDial_1 (by decide) ?_
    refine j_bipush F 7 dX11_isDial_2 (by decide) ?_
    refine j_cSI F mi_X11_within w_464 (rest := []) h (fun _ g => c_X11_within g) rfl rfl (Nat.le_of_ble_eq_true rfl) ⟨Nat.le_of_ble_eq_true rfl, Nat.le_of_ble_eq_true rfl⟩ ⟨Nat.le_of_ble_eq_true rfl, Nat.le_of_ble_eq_true rfl⟩ dX11_isDial_4 (fun q1 h => ?_)
    refine j_ifne F 21 dX11_isDial_7 (by decide) h (fun _ h => ?_) (fun _ h => ?_)
    · refine j_iconst F 1 dX11_isDial_21 (by decide) ?_
      refine j_goto F 26 dX11_isDial_22 (by decide) ?_
      exact j_zret F hr (Or.inr rfl) dX11_isDial_26 h
    · refine j_iload_n F 0 dX11_isDial_10 rfl ?_
      refine j_bipush F 10 dX11_isDial_11 (by decide) ?_
      refine j_bipush F 13 dX11_isDial_13 (by decide) ?_
      refine j_cSI F mi_X11_within w_464 (rest := []) h (fun _ g => c_X11_within g) rfl rfl (Nat.le_of_ble_eq_true rfl) ⟨Nat.le_of_ble_eq_true rfl, Nat.le_of_ble_eq_true rfl⟩ ⟨Nat.le_of_ble_eq_true rfl, Nat.le_of_ble_eq_true rfl⟩ dX11_isDial_15 (fun q2 h => ?_)
      refine j_ifeq F 25 dX11_isDial_18 (by decide) h (fun _ h => ?_) (fun _ h => ?_)
      · refine j_iconst F 0 dX11_isDial_25 (by decide) ?_
        exact j_zret F hr (Or.inl rfl) dX11_isDial_26 h
      · refine j_iconst F 1 dX11_isDial_21 (by decide) ?_
        refine j_goto F 26 dX11_isDial_22 (by decide) ?_
        exact j_zret F hr (Or.inr rfl) dX11_isDial_26 h
  exact ct_of (by decide +kernel) (Nat.le_of_ble_eq_true rfl) (fun p e s m args below meth c F hr _ => hJ p e s m args below meth c F hr)
def rm_X11_put : Room := { frames := 2, cells := 0, slots := 0, locals := 43 }
theorem dX11_put_0 : decode cX11_put 0 = .ok (.iload_n 1, 1) := by decide +kernel
theorem dX11_put_1 : decode cX11_put 1 = .ok (.invokestatic 129, 3) := by decide +kernel
theorem dX11_put_4 : decode cX11_put 4 = .ok (.ifCond .ne 5, 3) := by decide +kernel
theorem dX11_put_7 : decode cX11_put 7 = .ok (.iconst (-1), 1) := by decide +kernel
theorem dX11_put_8 : decode cX11_put 8 = .ok (.ireturn, 1) := by decide +kernel
theorem dX11_put_9 : decode cX11_put 9 = .ok (.iload_n 1, 1) := by decide +kernel
theorem dX11_put_10 : decode cX11_put 10 = .ok (.iload_n 2, 1) := by decide +kernel
theorem dX11_put_11 : decode cX11_put 11 = .ok (.invokestatic 132, 3) := by decide +kernel
theorem dX11_put_14 : decode cX11_put 14 = .ok (.ifCond .ne 6, 3) := by decide +kernel
theorem dX11_put_17 : decode cX11_put 17 = .ok (.bipush (-2), 2) := by decide +kernel
theorem dX11_put_19 : decode cX11_put 19 = .ok (.ireturn, 1) := by decide +kernel
theorem dX11_put_20 : decode cX11_put 20 = .ok (.aload_n 0, 1) := by decide +kernel
theorem dX11_put_21 : decode cX11_put 21 = .ok (.getfield 12, 3) := by decide +kernel
theorem dX11_put_24 : decode cX11_put 24 = .ok (.getfield 136, 3) := by decide +kernel
theorem dX11_put_27 : decode cX11_put 27 = .ok (.iload_n 1, 1) := by decide +kernel
theorem dX11_put_28 : decode cX11_put 28 = .ok (.iaload, 1) := by decide +kernel
theorem dX11_put_29 : decode cX11_put 29 = .ok (.istore_n 3, 1) := by decide +kernel
theorem dX11_put_30 : decode cX11_put 30 = .ok (.aload_n 0, 1) := by decide +kernel
theorem dX11_put_31 : decode cX11_put 31 = .ok (.getfield 12, 3) := by decide +kernel
theorem dX11_put_34 : decode cX11_put 34 = .ok (.getfield 136, 3) := by decide +kernel
theorem dX11_put_37 : decode cX11_put 37 = .ok (.iload_n 1, 1) := by decide +kernel
theorem dX11_put_38 : decode cX11_put 38 = .ok (.iload_n 2, 1) := by decide +kernel
theorem dX11_put_39 : decode cX11_put 39 = .ok (.iastore, 1) := by decide +kernel
theorem dX11_put_40 : decode cX11_put 40 = .ok (.iload_n 3, 1) := by decide +kernel
theorem dX11_put_41 : decode cX11_put 41 = .ok (.ireturn, 1) := by decide +kernel
def f_X11_put (S : SH) (a0 : Nat) (a1 : Int32) (a2 : Int32) (μ : Mem) : Option (Int32 × Mem) :=
  if isO S 11 a0 = true then
  (f_X11_isDial S a1 μ).bind fun q1 =>
  (if q1.1 = 0 then
  some ((-1), q1.2)
  else
  (f_X11_fitsDial S a1 a2 q1.2).bind fun q2 =>
  (if q2.1 = 0 then
  some ((-2), q2.2)
  else
  (gR S 11 a0 0).bind fun v3 =>
  (gR S 2 v3 3).bind fun v4 =>
  (aI S .int v4 a1 q2.2).bind fun v5 =>
  (gR S 11 a0 0).bind fun v6 =>
  (gR S 2 v6 3).bind fun v7 =>
  (sI S v7 a1 a2 q2.2).bind fun ν8 =>
  some (v5, ν8)))
  else none
set_option maxRecDepth 100000 in
set_option maxHeartbeats 4000000 in
theorem c_X11_put {l : Launch} {γ : GE} {S : SH} {a0 : Nat} {a1 : Int32} {a2 : Int32} {μ : Mem} {X : (Int32 × Mem)} (h : f_X11_put S a0 a1 a2 μ = some X) : isO S 11 a0 = true ∧ Ct l γ yX11_put cX11_put 4 (some .int) rm_X11_put [.ref (gb γ + a0), .int a1, .int a2] S μ S X.2 (some (.int X.1)) := by
  unfold f_X11_put at h
  obtain ⟨h0, h⟩ := if_some h
  refine ⟨h0, ?_⟩
  have hJ : ∀ (p : Program) (e : Env) (s : State) (m : MethodId) (args : Array Value) (below : List Frame) (meth : Method) (c : Code), FX γ p s m args meth c cX11_put RX11 4 → meth.sig.returnType = (some .int) → JJ γ p l e rm_X11_put s m args below meth c 4 0 0 (QI below γ S X args s 0 0) S μ 0 [(0, .ref (gb γ + a0)), (1, .int a1), (2, .int a2)] [] := by
    intro p e s m args below meth c F hr
    refine j_iload_n F 1 dX11_put_0 rfl ?_
    refine j_cSI F mi_X11_isDial w_499 (rest := []) h (fun _ g => c_X11_isDial g) rfl rfl (Nat.le_of_ble_eq_true rfl) ⟨Nat.le_of_ble_eq_true rfl, Nat.le_of_ble_eq_true rfl⟩ ⟨Nat.le_of_ble_eq_true rfl, Nat.le_of_ble_eq_true rfl⟩ dX11_put_1 (fun q1 h => ?_)
    refine j_ifne F 9 dX11_put_4 (by decide) h (fun _ h => ?_) (fun _ h => ?_)
    · refine j_iload_n F 1 dX11_put_9 rfl ?_
      refine j_iload_n F 2 dX11_put_10 rfl ?_
      refine j_cSI F mi_X11_fitsDial w_502 (rest := []) h (fun _ g => c_X11_fitsDial g) rfl rfl (Nat.le_of_ble_eq_true rfl) ⟨Nat.le_of_ble_eq_true rfl, Nat.le_of_ble_eq_true rfl⟩ ⟨Nat.le_of_ble_eq_true rfl, Nat.le_of_ble_eq_true rfl⟩ dX11_put_11 (fun q2 h => ?_)
      refine j_ifne F 20 dX11_put_14 (by decide) h (fun _ h => ?_) (fun _ h => ?_)
      · refine j_aload_n F 0 dX11_put_20 rfl ?_
        refine j_gR F fl_RX11_12 rfl dX11_put_21 h (fun v3 h => ?_)
        refine j_gR F fl_RX11_136 rfl dX11_put_24 h (fun v4 h => ?_)
        refine j_iload_n F 1 dX11_put_27 rfl ?_
        refine j_iald F dX11_put_28 h (fun v5 h => ?_)
        refine j_istore_n F [(3, .int v5), (0, .ref (gb γ + a0)), (1, .int a1), (2, .int a2)] dX11_put_29 rfl (by decide) rfl ?_
        refine j_aload_n F 1 dX11_put_30 rfl ?_
        refine j_gR F fl_RX11_12 rfl dX11_put_31 h (fun v6 h => ?_)
        refine j_gR F fl_RX11_136 rfl dX11_put_34 h (fun v7 h => ?_)
        refine j_iload_n F 2 dX11_put_37 rfl ?_
        refine j_iload_n F 3 dX11_put_38 rfl ?_
        refine j_iast F dX11_put_39 h (fun ν8 h => ?_)
        refine j_iload_n F 0 dX11_put_40 rfl ?_
        exact j_iret F hr dX11_put_41 h
      · refine j_bipush F (-2) dX11_put_17 (by decide) ?_
        exact j_iret F hr dX11_put_19 h
    · refine j_iconst F (-1) dX11_put_7 (by decide) ?_
      exact j_iret F hr dX11_put_8 h
  exact ct_of (by decide +kernel) (Nat.le_of_ble_eq_true rfl) (fun p e s m args below meth c F hr _ => hJ p e s m args below meth c F hr)
def rm_X11_told : Room := { frames := 2, cells := 0, slots := 0, locals := 42 }
theorem dX11_told_0 : decode cX11_told 0 = .ok (.iload_n 1, 1) := by decide +kernel
theorem dX11_told_1 : decode cX11_told 1 = .ok (.invokestatic 129, 3) := by decide +kernel
theorem dX11_told_4 : decode cX11_told 4 = .ok (.ifCond .eq 15, 3) := by decide +kernel
theorem dX11_told_7 : decode cX11_told 7 = .ok (.aload_n 0, 1) := by decide +kernel
theorem dX11_told_8 : decode cX11_told 8 = .ok (.getfield 12, 3) := by decide +kernel
theorem dX11_told_11 : decode cX11_told 11 = .ok (.getfield 136, 3) := by decide +kernel
theorem dX11_told_14 : decode cX11_told 14 = .ok (.iload_n 1, 1) := by decide +kernel
theorem dX11_told_15 : decode cX11_told 15 = .ok (.iaload, 1) := by decide +kernel
theorem dX11_told_16 : decode cX11_told 16 = .ok (.goto 4, 3) := by decide +kernel
theorem dX11_told_19 : decode cX11_told 19 = .ok (.iconst (-1), 1) := by decide +kernel
theorem dX11_told_20 : decode cX11_told 20 = .ok (.ireturn, 1) := by decide +kernel
def f_X11_told (S : SH) (a0 : Nat) (a1 : Int32) (μ : Mem) : Option (Int32 × Mem) :=
  if isO S 11 a0 = true then
  (f_X11_isDial S a1 μ).bind fun q1 =>
  (if q1.1 = 0 then
  some ((-1), q1.2)
  else
  (gR S 11 a0 0).bind fun v2 =>
  (gR S 2 v2 3).bind fun v3 =>
  (aI S .int v3 a1 q1.2).bind fun v4 =>
  some (v4, q1.2))
  else none
set_option maxRecDepth 100000 in
set_option maxHeartbeats 4000000 in
theorem c_X11_told {l : Launch} {γ : GE} {S : SH} {a0 : Nat} {a1 : Int32} {μ : Mem} {X : (Int32 × Mem)} (h : f_X11_told S a0 a1 μ = some X) : isO S 11 a0 = true ∧ Ct l γ yX11_told cX11_told 2 (some .int) rm_X11_told [.ref (gb γ + a0), .int a1] S μ S X.2 (some (.int X.1)) := by
  unfold f_X11_told at h
  obtain ⟨h0, h⟩ := if_some h
  refine ⟨h0, ?_⟩
  have hJ : ∀ (p : Program) (e : Env) (s : State) (m : MethodId) (args : Array Value) (below : List Frame) (meth : Method) (c : Code), FX γ p s m args meth c cX11_told RX11 2 → meth.sig.returnType = (some .int) → JJ γ p l e rm_X11_told s m args below meth c 2 0 0 (QI below γ S X args s 0 0) S μ 0 [(0, .ref (gb γ + a0)), (1, .int a1)] [] := by
    intro p e s m args below meth c F hr
    refine j_iload_n F 1 dX11_told_0 rfl ?_
    refine j_cSI F mi_X11_isDial w_499 (rest := []) h (fun _ g => c_X11_isDial g) rfl rfl (Nat.le_of_ble_eq_true rfl) ⟨Nat.le_of_ble_eq_true rfl, Nat.le_of_ble_eq_true rfl⟩ ⟨Nat.le_of_ble_eq_true rfl, Nat.le_of_ble_eq_true rfl⟩ dX11_told_1 (fun q1 h => ?_)
    refine j_ifeq F 19 dX11_told_4 (by decide) h (fun _ h => ?_) (fun _ h => ?_)
    · refine j_iconst F (-1) dX11_told_19 (by decide) ?_
      exact j_iret F hr dX11_told_20 h
    · refine j_aload_n F 0 dX11_told_7 rfl ?_
      refine j_gR F fl_RX11_12 rfl dX11_told_8 h (fun v2 h => ?_)
      refine j_gR F fl_RX11_136 rfl dX11_told_11 h (fun v3 h => ?_)
      refine j_iload_n F 1 dX11_told_14 rfl ?_
      refine j_iald F dX11_told_15 h (fun v4 h => ?_)
      refine j_goto F 20 dX11_told_16 (by decide) ?_
      exact j_iret F hr dX11_told_20 h
  exact ct_of (by decide +kernel) (Nat.le_of_ble_eq_true rfl) (fun p e s m args below meth c F hr _ => hJ p e s m args below meth c F hr)
def rm_X11_padOf : Room := { frames := 2, cells := 0, slots := 0, locals := 42 }
theorem dX11_padOf_0 : decode cX11_padOf 0 = .ok (.iload_n 1, 1) := by decide +kernel
theorem dX11_padOf_1 : decode cX11_padOf 1 = .ok (.invokestatic 80, 3) := by decide +kernel
theorem dX11_padOf_4 : decode cX11_padOf 4 = .ok (.ifCond .ne 7, 3) := by decide +kernel
theorem dX11_padOf_7 : decode cX11_padOf 7 = .ok (.ldc2_w 139, 3) := by decide +kernel
theorem dX11_padOf_10 : decode cX11_padOf 10 = .ok (.lreturn, 1) := by decide +kernel
theorem dX11_padOf_11 : decode cX11_padOf 11 = .ok (.iload_n 2, 1) := by decide +kernel
theorem dX11_padOf_12 : decode cX11_padOf 12 = .ok (.tableswitch 70 0 2 #[28, 42, 56], 28) := by decide +kernel
theorem dX11_padOf_40 : decode cX11_padOf 40 = .ok (.aload_n 0, 1) := by decide +kernel
theorem dX11_padOf_41 : decode cX11_padOf 41 = .ok (.getfield 12, 3) := by decide +kernel
theorem dX11_padOf_44 : decode cX11_padOf 44 = .ok (.getfield 88, 3) := by decide +kernel
theorem dX11_padOf_47 : decode cX11_padOf 47 = .ok (.getfield 141, 3) := by decide +kernel
theorem dX11_padOf_50 : decode cX11_padOf 50 = .ok (.iload_n 1, 1) := by decide +kernel
theorem dX11_padOf_51 : decode cX11_padOf 51 = .ok (.iaload, 1) := by decide +kernel
theorem dX11_padOf_52 : decode cX11_padOf 52 = .ok (.i2l, 1) := by decide +kernel
theorem dX11_padOf_53 : decode cX11_padOf 53 = .ok (.lreturn, 1) := by decide +kernel
theorem dX11_padOf_54 : decode cX11_padOf 54 = .ok (.aload_n 0, 1) := by decide +kernel
theorem dX11_padOf_55 : decode cX11_padOf 55 = .ok (.getfield 12, 3) := by decide +kernel
theorem dX11_padOf_58 : decode cX11_padOf 58 = .ok (.getfield 88, 3) := by decide +kernel
theorem dX11_padOf_61 : decode cX11_padOf 61 = .ok (.getfield 144, 3) := by decide +kernel
theorem dX11_padOf_64 : decode cX11_padOf 64 = .ok (.iload_n 1, 1) := by decide +kernel
theorem dX11_padOf_65 : decode cX11_padOf 65 = .ok (.iaload, 1) := by decide +kernel
theorem dX11_padOf_66 : decode cX11_padOf 66 = .ok (.i2l, 1) := by decide +kernel
theorem dX11_padOf_67 : decode cX11_padOf 67 = .ok (.lreturn, 1) := by decide +kernel
theorem dX11_padOf_68 : decode cX11_padOf 68 = .ok (.aload_n 0, 1) := by decide +kernel
theorem dX11_padOf_69 : decode cX11_padOf 69 = .ok (.getfield 12, 3) := by decide +kernel
theorem dX11_padOf_72 : decode cX11_padOf 72 = .ok (.getfield 88, 3) := by decide +kernel
theorem dX11_padOf_75 : decode cX11_padOf 75 = .ok (.getfield 147, 3) := by decide +kernel
theorem dX11_padOf_78 : decode cX11_padOf 78 = .ok (.iload_n 1, 1) := by decide +kernel
theorem dX11_padOf_79 : decode cX11_padOf 79 = .ok (.iaload, 1) := by decide +kernel
theorem dX11_padOf_80 : decode cX11_padOf 80 = .ok (.i2l, 1) := by decide +kernel
theorem dX11_padOf_81 : decode cX11_padOf 81 = .ok (.lreturn, 1) := by decide +kernel
theorem dX11_padOf_82 : decode cX11_padOf 82 = .ok (.ldc2_w 139, 3) := by decide +kernel
theorem dX11_padOf_85 : decode cX11_padOf 85 = .ok (.lreturn, 1) := by decide +kernel
def f_X11_padOf (S : SH) (a0 : Nat) (a1 : Int32) (a2 : Int32) (μ : Mem) : Option (Int64 × Mem) :=
  if isO S 11 a0 = true then
  (f_X11_isPad S a1 μ).bind fun q1 =>
  (if q1.1 = 0 then
  some ((-9223372036854775808), q1.2)
  else
  (if a2 = 0 then
  (gR S 11 a0 0).bind fun v2 =>
  (gR S 2 v2 0).bind fun v3 =>
  (gR S 4 v3 0).bind fun v4 =>
  (aI S .int v4 a1 q1.2).bind fun v5 =>
  some (v5.toInt64, q1.2)
  else if a2 = 1 then
  (gR S 11 a0 0).bind fun v6 =>
  (gR S 2 v6 0).bind fun v7 =>
  (gR S 4 v7 1).bind fun v8 =>
  (aI S .int v8 a1 q1.2).bind fun v9 =>
  some (v9.toInt64, q1.2)
  else if a2 = 2 then
  (gR S 11 a0 0).bind fun v10 =>
  (gR S 2 v10 0).bind fun v11 =>
  (gR S 4 v11 2).bind fun v12 =>
  (aI S .int v12 a1 q1.2).bind fun v13 =>
  some (v13.toInt64, q1.2)
  else 
  some ((-9223372036854775808), q1.2)))
  else none
set_option maxRecDepth 100000 in
set_option maxHeartbeats 4000000 in
theorem c_X11_padOf {l : Launch} {γ : GE} {S : SH} {a0 : Nat} {a1 : Int32} {a2 : Int32} {μ : Mem} {X : (Int64 × Mem)} (h : f_X11_padOf S a0 a1 a2 μ = some X) : isO S 11 a0 = true ∧ Ct l γ yX11_padOf cX11_padOf 3 (some .long) rm_X11_padOf [.ref (gb γ + a0), .int a1, .int a2] S μ S X.2 (some (.long X.1)) := by
  unfold f_X11_padOf at h
  obtain ⟨h0, h⟩ := if_some h
  refine ⟨h0, ?_⟩
  have hJ : ∀ (p : Program) (e : Env) (s : State) (m : MethodId) (args : Array Value) (below : List Frame) (meth : Method) (c : Code), FX γ p s m args meth c cX11_padOf RX11 3 → meth.sig.returnType = (some .long) → JJ γ p l e rm_X11_padOf s m args below meth c 3 0 0 (QL below γ S X args s 0 0) S μ 0 [(0, .ref (gb γ + a0)), (1, .int a1), (2, .int a2)] [] := by
    intro p e s m args below meth c F hr
    refine j_iload_n F 1 dX11_padOf_0 rfl ?_
    refine j_cSI F mi_X11_isPad w_461 (rest := []) h (fun _ g => c_X11_isPad g) rfl rfl (Nat.le_of_ble_eq_true rfl) ⟨Nat.le_of_ble_eq_true rfl, Nat.le_of_ble_eq_true rfl⟩ ⟨Nat.le_of_ble_eq_true rfl, Nat.le_of_ble_eq_true rfl⟩ dX11_padOf_1 (fun q1 h => ?_)
    refine j_ifne F 11 dX11_padOf_4 (by decide) h (fun _ h => ?_) (fun _ h => ?_)
    · refine j_iload_n F 2 dX11_padOf_11 rfl ?_
      by_cases e0 : a2 = 0
      · rw [if_pos e0] at h
        refine j_tin F (off := 28) 40 dX11_padOf_12 (by rw [e0]; decide) (by rw [e0]; decide) (by rw [e0]; rfl) (by decide) ?_
        refine j_aload_n F 0 dX11_padOf_40 rfl ?_
        refine j_gR F fl_RX11_12 rfl dX11_padOf_41 h (fun v2 h => ?_)
        refine j_gR F fl_RX11_88 rfl dX11_padOf_44 h (fun v3 h => ?_)
        refine j_gR F fl_RX11_141 rfl dX11_padOf_47 h (fun v4 h => ?_)
        refine j_iload_n F 1 dX11_padOf_50 rfl ?_
        refine j_iald F dX11_padOf_51 h (fun v5 h => ?_)
        refine j_i2l F dX11_padOf_52 ?_
        exact j_lret F hr dX11_padOf_53 h
      rw [if_neg e0] at h
      by_cases e1 : a2 = 1
      · rw [if_pos e1] at h
        refine j_tin F (off := 42) 54 dX11_padOf_12 (by rw [e1]; decide) (by rw [e1]; decide) (by rw [e1]; rfl) (by decide) ?_
        refine j_aload_n F 0 dX11_padOf_54 rfl ?_
        refine j_gR F fl_RX11_12 rfl dX11_padOf_55 h (fun v6 h => ?_)
        refine j_gR F fl_RX11_88 rfl dX11_padOf_58 h (fun v7 h => ?_)
        refine j_gR F fl_RX11_144 rfl dX11_padOf_61 h (fun v8 h => ?_)
        refine j_iload_n F 1 dX11_padOf_64 rfl ?_
        refine j_iald F dX11_padOf_65 h (fun v9 h => ?_)
        refine j_i2l F dX11_padOf_66 ?_
        exact j_lret F hr dX11_padOf_67 h
      rw [if_neg e1] at h
      by_cases e2 : a2 = 2
      · rw [if_pos e2] at h
        refine j_tin F (off := 56) 68 dX11_padOf_12 (by rw [e2]; decide) (by rw [e2]; decide) (by rw [e2]; rfl) (by decide) ?_
        refine j_aload_n F 0 dX11_padOf_68 rfl ?_
        refine j_gR F fl_RX11_12 rfl dX11_padOf_69 h (fun v10 h => ?_)
        refine j_gR F fl_RX11_88 rfl dX11_padOf_72 h (fun v11 h => ?_)
        refine j_gR F fl_RX11_147 rfl dX11_padOf_75 h (fun v12 h => ?_)
        refine j_iload_n F 1 dX11_padOf_78 rfl ?_
        refine j_iald F dX11_padOf_79 h (fun v13 h => ?_)
        refine j_i2l F dX11_padOf_80 ?_
        exact j_lret F hr dX11_padOf_81 h
      rw [if_neg e2] at h
      have g0 : (a2).toInt ≠ (0 : Int) := fun q => e0 (Int32.toInt_inj.mp (q.trans (by decide)))
      have g1 : (a2).toInt ≠ (1 : Int) := fun q => e1 (Int32.toInt_inj.mp (q.trans (by decide)))
      have g2 : (a2).toInt ≠ (2 : Int) := fun q => e2 (Int32.toInt_inj.mp (q.trans (by decide)))
      refine j_tout F 82 dX11_padOf_12 (by omega) (by decide) ?_
      refine j_ldc2 F (-9223372036854775808) dX11_padOf_82 w_517 ?_
      exact j_lret F hr dX11_padOf_85 h
    · refine j_ldc2 F (-9223372036854775808) dX11_padOf_7 w_517 ?_
      exact j_lret F hr dX11_padOf_10 h
  exact ct_of (by decide +kernel) (Nat.le_of_ble_eq_true rfl) (fun p e s m args below meth c F hr _ => hJ p e s m args below meth c F hr)
def rm_X11_isChart : Room := { frames := 1, cells := 0, slots := 0, locals := 22 }
theorem dX11_isChart_0 : decode cX11_isChart 0 = .ok (.iload_n 0, 1) := by decide +kernel
theorem dX11_isChart_1 : decode cX11_isChart 1 = .ok (.iconst 0, 1) := by decide +kernel
theorem dX11_isChart_2 : decode cX11_isChart 2 = .ok (.iconst 2, 1) := by decide +kernel
theorem dX11_isChart_3 : decode cX11_isChart 3 = .ok (.invokestatic 84, 3) := by decide +kernel
theorem dX11_isChart_6 : decode cX11_isChart 6 = .ok (.ireturn, 1) := by decide +kernel
def f_X11_isChart (S : SH) (a0 : Int32) (μ : Mem) : Option (Int32 × Mem) :=
  (f_X11_within S a0 0 2 μ).bind fun q1 =>
  (oz q1.1).bind fun z2 => some (z2, q1.2)
set_option maxRecDepth 100000 in
set_option maxHeartbeats 4000000 in
theorem c_X11_isChart {l : Launch} {γ : GE} {S : SH} {a0 : Int32} {μ : Mem} {X : (Int32 × Mem)} (h : f_X11_isChart S a0 μ = some X) : Ct l γ yX11_isChart cX11_isChart 1 (some .boolean) rm_X11_isChart [.int a0] S μ S X.2 (some (.int X.1)) := by
  unfold f_X11_isChart at h
  have hJ : ∀ (p : Program) (e : Env) (s : State) (m : MethodId) (args : Array Value) (below : List Frame) (meth : Method) (c : Code), FX γ p s m args meth c cX11_isChart RX11 1 → meth.sig.returnType = (some .boolean) → JJ γ p l e rm_X11_isChart s m args below meth c 1 0 0 (QI below γ S X args s 0 0) S μ 0 [(0, .int a0)] [] := by
    intro p e s m args below meth c F hr
    refine j_iload_n F 0 dX11_isChart_0 rfl ?_
    refine j_iconst F 0 dX11_isChart_1 (by decide) ?_
    refine j_iconst F 2 dX11_isChart_2 (by decide) ?_
    refine j_cSI F mi_X11_within w_464 (rest := []) h (fun _ g => c_X11_within g) rfl rfl (Nat.le_of_ble_eq_true rfl) ⟨Nat.le_of_ble_eq_true rfl, Nat.le_of_ble_eq_true rfl⟩ ⟨Nat.le_of_ble_eq_true rfl, Nat.le_of_ble_eq_true rfl⟩ dX11_isChart_3 (fun q1 h => ?_)
    exact j_zretG F hr dX11_isChart_6 h
  exact ct_of (by decide +kernel) (Nat.le_of_ble_eq_true rfl) (fun p e s m args below meth c F hr _ => hJ p e s m args below meth c F hr)
def rm_X11_entry : Room := { frames := 2, cells := 0, slots := 0, locals := 43 }
theorem dX11_entry_0 : decode cX11_entry 0 = .ok (.iload_n 1, 1) := by decide +kernel
theorem dX11_entry_1 : decode cX11_entry 1 = .ok (.invokestatic 150, 3) := by decide +kernel
theorem dX11_entry_4 : decode cX11_entry 4 = .ok (.ifCond .ne 5, 3) := by decide +kernel
theorem dX11_entry_7 : decode cX11_entry 7 = .ok (.iconst (-1), 1) := by decide +kernel
theorem dX11_entry_8 : decode cX11_entry 8 = .ok (.ireturn, 1) := by decide +kernel
theorem dX11_entry_9 : decode cX11_entry 9 = .ok (.iconst 1, 1) := by decide +kernel
theorem dX11_entry_10 : decode cX11_entry 10 = .ok (.iload_n 2, 1) := by decide +kernel
theorem dX11_entry_11 : decode cX11_entry 11 = .ok (.invokestatic 132, 3) := by decide +kernel
theorem dX11_entry_14 : decode cX11_entry 14 = .ok (.ifCond .eq 14, 3) := by decide +kernel
theorem dX11_entry_17 : decode cX11_entry 17 = .ok (.iload_n 3, 1) := by decide +kernel
theorem dX11_entry_18 : decode cX11_entry 18 = .ok (.iconst (-1), 1) := by decide +kernel
theorem dX11_entry_19 : decode cX11_entry 19 = .ok (.sipush 9999, 3) := by decide +kernel
theorem dX11_entry_22 : decode cX11_entry 22 = .ok (.invokestatic 84, 3) := by decide +kernel
theorem dX11_entry_25 : decode cX11_entry 25 = .ok (.ifCond .ne 6, 3) := by decide +kernel
theorem dX11_entry_28 : decode cX11_entry 28 = .ok (.bipush (-2), 2) := by decide +kernel
theorem dX11_entry_30 : decode cX11_entry 30 = .ok (.ireturn, 1) := by decide +kernel
theorem dX11_entry_31 : decode cX11_entry 31 = .ok (.aload_n 0, 1) := by decide +kernel
theorem dX11_entry_32 : decode cX11_entry 32 = .ok (.getfield 12, 3) := by decide +kernel
theorem dX11_entry_35 : decode cX11_entry 35 = .ok (.getfield 153, 3) := by decide +kernel
theorem dX11_entry_38 : decode cX11_entry 38 = .ok (.iload_n 1, 1) := by decide +kernel
theorem dX11_entry_39 : decode cX11_entry 39 = .ok (.aaload, 1) := by decide +kernel
theorem dX11_entry_40 : decode cX11_entry 40 = .ok (.astore 4, 2) := by decide +kernel
theorem dX11_entry_42 : decode cX11_entry 42 = .ok (.aload 4, 2) := by decide +kernel
theorem dX11_entry_44 : decode cX11_entry 44 = .ok (.iload_n 2, 1) := by decide +kernel
theorem dX11_entry_45 : decode cX11_entry 45 = .ok (.invokevirtual 157, 3) := by decide +kernel
theorem dX11_entry_48 : decode cX11_entry 48 = .ok (.istore 5, 2) := by decide +kernel
theorem dX11_entry_50 : decode cX11_entry 50 = .ok (.iload_n 3, 1) := by decide +kernel
theorem dX11_entry_51 : decode cX11_entry 51 = .ok (.iconst (-1), 1) := by decide +kernel
theorem dX11_entry_52 : decode cX11_entry 52 = .ok (.if_icmp .ne 11, 3) := by decide +kernel
theorem dX11_entry_55 : decode cX11_entry 55 = .ok (.iload 5, 2) := by decide +kernel
theorem dX11_entry_57 : decode cX11_entry 57 = .ok (.ifCond .ne 6, 3) := by decide +kernel
theorem dX11_entry_60 : decode cX11_entry 60 = .ok (.bipush (-3), 2) := by decide +kernel
theorem dX11_entry_62 : decode cX11_entry 62 = .ok (.ireturn, 1) := by decide +kernel
theorem dX11_entry_63 : decode cX11_entry 63 = .ok (.iload 5, 2) := by decide +kernel
theorem dX11_entry_65 : decode cX11_entry 65 = .ok (.ifCond .ne 16, 3) := by decide +kernel
theorem dX11_entry_68 : decode cX11_entry 68 = .ok (.aload 4, 2) := by decide +kernel
theorem dX11_entry_70 : decode cX11_entry 70 = .ok (.getfield 160, 3) := by decide +kernel
theorem dX11_entry_73 : decode cX11_entry 73 = .ok (.bipush 10, 2) := by decide +kernel
theorem dX11_entry_75 : decode cX11_entry 75 = .ok (.if_icmp .lt 6, 3) := by decide +kernel
theorem dX11_entry_78 : decode cX11_entry 78 = .ok (.bipush (-4), 2) := by decide +kernel
theorem dX11_entry_80 : decode cX11_entry 80 = .ok (.ireturn, 1) := by decide +kernel
theorem dX11_entry_81 : decode cX11_entry 81 = .ok (.aload 4, 2) := by decide +kernel
theorem dX11_entry_83 : decode cX11_entry 83 = .ok (.iload_n 2, 1) := by decide +kernel
theorem dX11_entry_84 : decode cX11_entry 84 = .ok (.iload_n 3, 1) := by decide +kernel
theorem dX11_entry_85 : decode cX11_entry 85 = .ok (.invokevirtual 161, 3) := by decide +kernel
theorem dX11_entry_88 : decode cX11_entry 88 = .ok (.aload 4, 2) := by decide +kernel
theorem dX11_entry_90 : decode cX11_entry 90 = .ok (.getfield 160, 3) := by decide +kernel
theorem dX11_entry_93 : decode cX11_entry 93 = .ok (.ireturn, 1) := by decide +kernel
def b_X11_entry_63 (S : SH) (a2 : Int32) (a3 : Int32) (a4 : Nat) (a5 : Int32) (μ : Mem) : Option (Int32 × Mem) :=
 (if a5 = 0 then
 (gI S 1 a4 1 μ).bind fun v10 =>
 (if v10 < 10 then
 (f_X1_write S a4 a2 a3 μ).bind fun q11 =>
 (gI S 1 a4 1 q11.2).bind fun v12 =>
 some (v12, q11.2)
 else
 some ((-4), μ))
 else
 (f_X1_write S a4 a2 a3 μ).bind fun q8 =>
 (gI S 1 a4 1 q8.2).bind fun v9 =>
 some (v9, q8.2))
set_option maxRecDepth 100000 in
set_option maxHeartbeats 4000000 in
theorem s_X11_entry_63 {γ : GE} {p : Program} {l : Launch} {e : Env} {s : State} {m : MethodId} {args : Array Value} {below : List Frame} {meth : Method} {c : Code} {S : SH} {X : (Int32 × Mem)} (F : FX γ p s m args meth c cX11_entry RX11 6) (hr : meth.sig.returnType = (some .int))  (a2 : Int32) (a3 : Int32) (a4 : Nat) (a5 : Int32)  (μ : Mem) (h : b_X11_entry_63 S a2 a3 a4 a5 μ = some X) : JJ γ p l e rm_X11_entry s m args below meth c 6 0 0 (QI below γ S X args s 0 0) S μ 63 [(2, .int a2), (3, .int a3), (4, .ref (gb γ + a4)), (5, .int a5)] [] := by
  unfold b_X11_entry_63 at h
  refine j_iload F 3 dX11_entry_63 rfl ?_
  refine j_ifne F 81 dX11_entry_65 (by decide) h (fun _ h => ?_) (fun _ h => ?_)
  · refine j_aload F 2 dX11_entry_81 rfl ?_
    refine j_iload_n F 0 dX11_entry_83 rfl ?_
    refine j_iload_n F 1 dX11_entry_84 rfl ?_
    refine j_cVV F mi_X1_write w_529 (rest := []) h (fun _ g => c_X1_write g) rfl rfl (Nat.le_of_ble_eq_true rfl) ⟨Nat.le_of_ble_eq_true rfl, Nat.le_of_ble_eq_true rfl⟩ ⟨Nat.le_of_ble_eq_true rfl, Nat.le_of_ble_eq_true rfl⟩ dX11_entry_85 (fun q8 h => ?_)
    refine j_aload F 2 dX11_entry_88 rfl ?_
    refine j_gI F fl_RX11_160.l rfl dX11_entry_90 h (fun v9 h => ?_)
    exact j_iret F hr dX11_entry_93 h
  · refine j_aload F 2 dX11_entry_68 rfl ?_
    refine j_gI F fl_RX11_160.l rfl dX11_entry_70 h (fun v10 h => ?_)
    refine j_bipush F 10 dX11_entry_73 (by decide) ?_
    refine j_icmplt F 81 dX11_entry_75 (by decide) h (fun _ h => ?_) (fun _ h => ?_)
    · refine j_aload F 2 dX11_entry_81 rfl ?_
      refine j_iload_n F 0 dX11_entry_83 rfl ?_
      refine j_iload_n F 1 dX11_entry_84 rfl ?_
      refine j_cVV F mi_X1_write w_529 (rest := []) h (fun _ g => c_X1_write g) rfl rfl (Nat.le_of_ble_eq_true rfl) ⟨Nat.le_of_ble_eq_true rfl, Nat.le_of_ble_eq_true rfl⟩ ⟨Nat.le_of_ble_eq_true rfl, Nat.le_of_ble_eq_true rfl⟩ dX11_entry_85 (fun q11 h => ?_)
      refine j_aload F 2 dX11_entry_88 rfl ?_
      refine j_gI F fl_RX11_160.l rfl dX11_entry_90 h (fun v12 h => ?_)
      exact j_iret F hr dX11_entry_93 h
    · refine j_bipush F (-4) dX11_entry_78 (by decide) ?_
      exact j_iret F hr dX11_entry_80 h
def f_X11_entry (S : SH) (a0 : Nat) (a1 : Int32) (a2 : Int32) (a3 : Int32) (μ : Mem) : Option (Int32 × Mem) :=
  if isO S 11 a0 = true then
  (f_X11_isChart S a1 μ).bind fun q1 =>
  (if q1.1 = 0 then
  some ((-1), q1.2)
  else
  (f_X11_fitsDial S 1 a2 q1.2).bind fun q2 =>
  (if q2.1 = 0 then
  some ((-2), q2.2)
  else
  (f_X11_within S a3 (-1) 9999 q2.2).bind fun q3 =>
  (if q3.1 = 0 then
  some ((-2), q3.2)
  else
  (gR S 11 a0 0).bind fun v4 =>
  (gR S 2 v4 2).bind fun v5 =>
  (aR S (.object "CranePads$Chart") v5 a1).bind fun v6 =>
  (f_X1_has S v6 a2 q3.2).bind fun q7 =>
  (if a3 = (-1) then
  (if q7.1 = 0 then
  some ((-3), q7.2)
  else
  b_X11_entry_63 S a2 a3 v6 q7.1 q7.2)
  else
  b_X11_entry_63 S a2 a3 v6 q7.1 q7.2))))
  else none
set_option maxRecDepth 100000 in
set_option maxHeartbeats 4000000 in
theorem c_X11_entry {l : Launch} {γ : GE} {S : SH} {a0 : Nat} {a1 : Int32} {a2 : Int32} {a3 : Int32} {μ : Mem} {X : (Int32 × Mem)} (h : f_X11_entry S a0 a1 a2 a3 μ = some X) : isO S 11 a0 = true ∧ Ct l γ yX11_entry cX11_entry 6 (some .int) rm_X11_entry [.ref (gb γ + a0), .int a1, .int a2, .int a3] S μ S X.2 (some (.int X.1)) := by
  unfold f_X11_entry at h
  obtain ⟨h0, h⟩ := if_some h
  refine ⟨h0, ?_⟩
  have hJ : ∀ (p : Program) (e : Env) (s : State) (m : MethodId) (args : Array Value) (below : List Frame) (meth : Method) (c : Code), FX γ p s m args meth c cX11_entry RX11 6 → meth.sig.returnType = (some .int) → JJ γ p l e rm_X11_entry s m args below meth c 6 0 0 (QI below γ S X args s 0 0) S μ 0 [(0, .ref (gb γ + a0)), (1, .int a1), (2, .int a2), (3, .int a3)] [] := by
    intro p e s m args below meth c F hr
    refine j_iload_n F 1 dX11_entry_0 rfl ?_
    refine j_cSI F mi_X11_isChart w_522 (rest := []) h (fun _ g => c_X11_isChart g) rfl rfl (Nat.le_of_ble_eq_true rfl) ⟨Nat.le_of_ble_eq_true rfl, Nat.le_of_ble_eq_true rfl⟩ ⟨Nat.le_of_ble_eq_true rfl, Nat.le_of_ble_eq_true rfl⟩ dX11_entry_1 (fun q1 h => ?_)
    refine j_ifne F 9 dX11_entry_4 (by decide) h (fun _ h => ?_) (fun _ h => ?_)
    · refine j_iconst F 1 dX11_entry_9 (by decide) ?_
      refine j_iload_n F 2 dX11_entry_10 rfl ?_
      refine j_cSI F mi_X11_fitsDial w_502 (rest := []) h (fun _ g => c_X11_fitsDial g) rfl rfl (Nat.le_of_ble_eq_true rfl) ⟨Nat.le_of_ble_eq_true rfl, Nat.le_of_ble_eq_true rfl⟩ ⟨Nat.le_of_ble_eq_true rfl, Nat.le_of_ble_eq_true rfl⟩ dX11_entry_11 (fun q2 h => ?_)
      refine j_ifeq F 28 dX11_entry_14 (by decide) h (fun _ h => ?_) (fun _ h => ?_)
      · refine j_bipush F (-2) dX11_entry_28 (by decide) ?_
        exact j_iret F hr dX11_entry_30 h
      · refine j_iload_n F 3 dX11_entry_17 rfl ?_
        refine j_iconst F (-1) dX11_entry_18 (by decide) ?_
        refine j_sipush F 9999 dX11_entry_19 (by decide) ?_
        refine j_cSI F mi_X11_within w_464 (rest := []) h (fun _ g => c_X11_within g) rfl rfl (Nat.le_of_ble_eq_true rfl) ⟨Nat.le_of_ble_eq_true rfl, Nat.le_of_ble_eq_true rfl⟩ ⟨Nat.le_of_ble_eq_true rfl, Nat.le_of_ble_eq_true rfl⟩ dX11_entry_22 (fun q3 h => ?_)
        refine j_ifne F 31 dX11_entry_25 (by decide) h (fun _ h => ?_) (fun _ h => ?_)
        · refine j_aload_n F 0 dX11_entry_31 rfl ?_
          refine j_gR F fl_RX11_12 rfl dX11_entry_32 h (fun v4 h => ?_)
          refine j_gR F fl_RX11_153 rfl dX11_entry_35 h (fun v5 h => ?_)
          refine j_iload_n F 1 dX11_entry_38 rfl ?_
          refine j_aald F 4 rfl rfl rfl dX11_entry_39 h (fun v6 h => ?_)
          refine j_astore F [(4, .ref (gb γ + v6)), (0, .ref (gb γ + a0)), (1, .int a1), (2, .int a2), (3, .int a3)] dX11_entry_40 (by decide) rfl ?_
          refine j_aload F 0 dX11_entry_42 rfl ?_
          refine j_iload_n F 3 dX11_entry_44 rfl ?_
          refine j_cVI F mi_X1_has w_525 (rest := []) h (fun _ g => c_X1_has g) rfl rfl (Nat.le_of_ble_eq_true rfl) ⟨Nat.le_of_ble_eq_true rfl, Nat.le_of_ble_eq_true rfl⟩ ⟨Nat.le_of_ble_eq_true rfl, Nat.le_of_ble_eq_true rfl⟩ dX11_entry_45 (fun q7 h => ?_)
          refine j_istore F [(5, .int q7.1), (4, .ref (gb γ + v6)), (0, .ref (gb γ + a0)), (1, .int a1), (2, .int a2), (3, .int a3)] dX11_entry_48 (by decide) rfl ?_
          refine j_iload_n F 5 dX11_entry_50 rfl ?_
          refine j_iconst F (-1) dX11_entry_51 (by decide) ?_
          refine j_icmpne F 63 dX11_entry_52 (by decide) h (fun _ h => ?_) (fun _ h => ?_)
          · refine j_lv [(2, .int a2), (3, .int a3), (4, .ref (gb γ + v6)), (5, .int q7.1)] [4, 5, 1, 0] rfl ?_
            exact s_X11_entry_63 F hr _ _ _ _ _ h
          · refine j_iload F 0 dX11_entry_55 rfl ?_
            refine j_ifne F 63 dX11_entry_57 (by decide) h (fun _ h => ?_) (fun _ h => ?_)
            · refine j_lv [(2, .int a2), (3, .int a3), (4, .ref (gb γ + v6)), (5, .int q7.1)] [4, 5, 1, 0] rfl ?_
              exact s_X11_entry_63 F hr _ _ _ _ _ h
            · refine j_bipush F (-3) dX11_entry_60 (by decide) ?_
              exact j_iret F hr dX11_entry_62 h
        · refine j_bipush F (-2) dX11_entry_28 (by decide) ?_
          exact j_iret F hr dX11_entry_30 h
    · refine j_iconst F (-1) dX11_entry_7 (by decide) ?_
      exact j_iret F hr dX11_entry_8 h
  exact ct_of (by decide +kernel) (Nat.le_of_ble_eq_true rfl) (fun p e s m args below meth c F hr _ => hJ p e s m args below meth c F hr)
def rm_X11_read : Room := { frames := 2, cells := 0, slots := 0, locals := 43 }
theorem dX11_read_0 : decode cX11_read 0 = .ok (.iload_n 1, 1) := by decide +kernel
theorem dX11_read_1 : decode cX11_read 1 = .ok (.invokestatic 150, 3) := by decide +kernel
theorem dX11_read_4 : decode cX11_read 4 = .ok (.ifCond .ne 5, 3) := by decide +kernel
theorem dX11_read_7 : decode cX11_read 7 = .ok (.iconst (-1), 1) := by decide +kernel
theorem dX11_read_8 : decode cX11_read 8 = .ok (.ireturn, 1) := by decide +kernel
theorem dX11_read_9 : decode cX11_read 9 = .ok (.iconst 1, 1) := by decide +kernel
theorem dX11_read_10 : decode cX11_read 10 = .ok (.iload_n 2, 1) := by decide +kernel
theorem dX11_read_11 : decode cX11_read 11 = .ok (.invokestatic 132, 3) := by decide +kernel
theorem dX11_read_14 : decode cX11_read 14 = .ok (.ifCond .ne 6, 3) := by decide +kernel
theorem dX11_read_17 : decode cX11_read 17 = .ok (.bipush (-2), 2) := by decide +kernel
theorem dX11_read_19 : decode cX11_read 19 = .ok (.ireturn, 1) := by decide +kernel
theorem dX11_read_20 : decode cX11_read 20 = .ok (.aload_n 0, 1) := by decide +kernel
theorem dX11_read_21 : decode cX11_read 21 = .ok (.getfield 12, 3) := by decide +kernel
theorem dX11_read_24 : decode cX11_read 24 = .ok (.getfield 153, 3) := by decide +kernel
theorem dX11_read_27 : decode cX11_read 27 = .ok (.iload_n 1, 1) := by decide +kernel
theorem dX11_read_28 : decode cX11_read 28 = .ok (.aaload, 1) := by decide +kernel
theorem dX11_read_29 : decode cX11_read 29 = .ok (.iload_n 2, 1) := by decide +kernel
theorem dX11_read_30 : decode cX11_read 30 = .ok (.invokevirtual 164, 3) := by decide +kernel
theorem dX11_read_33 : decode cX11_read 33 = .ok (.ireturn, 1) := by decide +kernel
def f_X11_read (S : SH) (a0 : Nat) (a1 : Int32) (a2 : Int32) (μ : Mem) : Option (Int32 × Mem) :=
  if isO S 11 a0 = true then
  (f_X11_isChart S a1 μ).bind fun q1 =>
  (if q1.1 = 0 then
  some ((-1), q1.2)
  else
  (f_X11_fitsDial S 1 a2 q1.2).bind fun q2 =>
  (if q2.1 = 0 then
  some ((-2), q2.2)
  else
  (gR S 11 a0 0).bind fun v3 =>
  (gR S 2 v3 2).bind fun v4 =>
  (aR S (.object "CranePads$Chart") v4 a1).bind fun v5 =>
  (f_X1_at S v5 a2 q2.2).bind fun q6 =>
  some (q6.1, q6.2)))
  else none
set_option maxRecDepth 100000 in
set_option maxHeartbeats 4000000 in
theorem c_X11_read {l : Launch} {γ : GE} {S : SH} {a0 : Nat} {a1 : Int32} {a2 : Int32} {μ : Mem} {X : (Int32 × Mem)} (h : f_X11_read S a0 a1 a2 μ = some X) : isO S 11 a0 = true ∧ Ct l γ yX11_read cX11_read 3 (some .int) rm_X11_read [.ref (gb γ + a0), .int a1, .int a2] S μ S X.2 (some (.int X.1)) := by
  unfold f_X11_read at h
  obtain ⟨h0, h⟩ := if_some h
  refine ⟨h0, ?_⟩
  have hJ : ∀ (p : Program) (e : Env) (s : State) (m : MethodId) (args : Array Value) (below : List Frame) (meth : Method) (c : Code), FX γ p s m args meth c cX11_read RX11 3 → meth.sig.returnType = (some .int) → JJ γ p l e rm_X11_read s m args below meth c 3 0 0 (QI below γ S X args s 0 0) S μ 0 [(0, .ref (gb γ + a0)), (1, .int a1), (2, .int a2)] [] := by
    intro p e s m args below meth c F hr
    refine j_iload_n F 1 dX11_read_0 rfl ?_
    refine j_cSI F mi_X11_isChart w_522 (rest := []) h (fun _ g => c_X11_isChart g) rfl rfl (Nat.le_of_ble_eq_true rfl) ⟨Nat.le_of_ble_eq_true rfl, Nat.le_of_ble_eq_true rfl⟩ ⟨Nat.le_of_ble_eq_true rfl, Nat.le_of_ble_eq_true rfl⟩ dX11_read_1 (fun q1 h => ?_)
    refine j_ifne F 9 dX11_read_4 (by decide) h (fun _ h => ?_) (fun _ h => ?_)
    · refine j_iconst F 1 dX11_read_9 (by decide) ?_
      refine j_iload_n F 2 dX11_read_10 rfl ?_
      refine j_cSI F mi_X11_fitsDial w_502 (rest := []) h (fun _ g => c_X11_fitsDial g) rfl rfl (Nat.le_of_ble_eq_true rfl) ⟨Nat.le_of_ble_eq_true rfl, Nat.le_of_ble_eq_true rfl⟩ ⟨Nat.le_of_ble_eq_true rfl, Nat.le_of_ble_eq_true rfl⟩ dX11_read_11 (fun q2 h => ?_)
      refine j_ifne F 20 dX11_read_14 (by decide) h (fun _ h => ?_) (fun _ h => ?_)
      · refine j_aload_n F 0 dX11_read_20 rfl ?_
        refine j_gR F fl_RX11_12 rfl dX11_read_21 h (fun v3 h => ?_)
        refine j_gR F fl_RX11_153 rfl dX11_read_24 h (fun v4 h => ?_)
        refine j_iload_n F 1 dX11_read_27 rfl ?_
        refine j_aald F 4 rfl rfl rfl dX11_read_28 h (fun v5 h => ?_)
        refine j_iload_n F 2 dX11_read_29 rfl ?_
        refine j_cVI F mi_X1_at w_538 (rest := []) h (fun _ g => c_X1_at g) rfl rfl (Nat.le_of_ble_eq_true rfl) ⟨Nat.le_of_ble_eq_true rfl, Nat.le_of_ble_eq_true rfl⟩ ⟨Nat.le_of_ble_eq_true rfl, Nat.le_of_ble_eq_true rfl⟩ dX11_read_30 (fun q6 h => ?_)
        exact j_iret F hr dX11_read_33 h
      · refine j_bipush F (-2) dX11_read_17 (by decide) ?_
        exact j_iret F hr dX11_read_19 h
    · refine j_iconst F (-1) dX11_read_7 (by decide) ?_
      exact j_iret F hr dX11_read_8 h
  exact ct_of (by decide +kernel) (Nat.le_of_ble_eq_true rfl) (fun p e s m args below meth c F hr _ => hJ p e s m args below meth c F hr)
def rm_X11_allowed : Room := { frames := 2, cells := 0, slots := 0, locals := 47 }
theorem dX11_allowed_0 : decode cX11_allowed 0 = .ok (.iconst 0, 1) := by decide +kernel
theorem dX11_allowed_1 : decode cX11_allowed 1 = .ok (.iload_n 1, 1) := by decide +kernel
theorem dX11_allowed_2 : decode cX11_allowed 2 = .ok (.invokestatic 132, 3) := by decide +kernel
theorem dX11_allowed_5 : decode cX11_allowed 5 = .ok (.ifCond .ne 5, 3) := by decide +kernel
theorem dX11_allowed_8 : decode cX11_allowed 8 = .ok (.iconst (-1), 1) := by decide +kernel
theorem dX11_allowed_9 : decode cX11_allowed 9 = .ok (.ireturn, 1) := by decide +kernel
theorem dX11_allowed_10 : decode cX11_allowed 10 = .ok (.iconst 1, 1) := by decide +kernel
theorem dX11_allowed_11 : decode cX11_allowed 11 = .ok (.iload_n 2, 1) := by decide +kernel
theorem dX11_allowed_12 : decode cX11_allowed 12 = .ok (.invokestatic 132, 3) := by decide +kernel
theorem dX11_allowed_15 : decode cX11_allowed 15 = .ok (.ifCond .ne 6, 3) := by decide +kernel
theorem dX11_allowed_18 : decode cX11_allowed 18 = .ok (.bipush (-2), 2) := by decide +kernel
theorem dX11_allowed_20 : decode cX11_allowed 20 = .ok (.ireturn, 1) := by decide +kernel
theorem dX11_allowed_21 : decode cX11_allowed 21 = .ok (.aload_n 0, 1) := by decide +kernel
theorem dX11_allowed_22 : decode cX11_allowed 22 = .ok (.getfield 12, 3) := by decide +kernel
theorem dX11_allowed_25 : decode cX11_allowed 25 = .ok (.iload_n 1, 1) := by decide +kernel
theorem dX11_allowed_26 : decode cX11_allowed 26 = .ok (.iload_n 2, 1) := by decide +kernel
theorem dX11_allowed_27 : decode cX11_allowed 27 = .ok (.invokevirtual 168, 3) := by decide +kernel
theorem dX11_allowed_30 : decode cX11_allowed 30 = .ok (.ireturn, 1) := by decide +kernel
def f_X11_allowed (S : SH) (a0 : Nat) (a1 : Int32) (a2 : Int32) (μ : Mem) : Option (Int32 × Mem) :=
  if isO S 11 a0 = true then
  (f_X11_fitsDial S 0 a1 μ).bind fun q1 =>
  (if q1.1 = 0 then
  some ((-1), q1.2)
  else
  (f_X11_fitsDial S 1 a2 q1.2).bind fun q2 =>
  (if q2.1 = 0 then
  some ((-2), q2.2)
  else
  (gR S 11 a0 0).bind fun v3 =>
  (f_X2_mayHang S v3 a1 a2 q2.2).bind fun q4 =>
  some (q4.1, q4.2)))
  else none
set_option maxRecDepth 100000 in
set_option maxHeartbeats 4000000 in
theorem c_X11_allowed {l : Launch} {γ : GE} {S : SH} {a0 : Nat} {a1 : Int32} {a2 : Int32} {μ : Mem} {X : (Int32 × Mem)} (h : f_X11_allowed S a0 a1 a2 μ = some X) : isO S 11 a0 = true ∧ Ct l γ yX11_allowed cX11_allowed 3 (some .int) rm_X11_allowed [.ref (gb γ + a0), .int a1, .int a2] S μ S X.2 (some (.int X.1)) := by
  unfold f_X11_allowed at h
  obtain ⟨h0, h⟩ := if_some h
  refine ⟨h0, ?_⟩
  have hJ : ∀ (p : Program) (e : Env) (s : State) (m : MethodId) (args : Array Value) (below : List Frame) (meth : Method) (c : Code), FX γ p s m args meth c cX11_allowed RX11 3 → meth.sig.returnType = (some .int) → JJ γ p l e rm_X11_allowed s m args below meth c 3 0 0 (QI below γ S X args s 0 0) S μ 0 [(0, .ref (gb γ + a0)), (1, .int a1), (2, .int a2)] [] := by
    intro p e s m args below meth c F hr
    refine j_iconst F 0 dX11_allowed_0 (by decide) ?_
    refine j_iload_n F 1 dX11_allowed_1 rfl ?_
    refine j_cSI F mi_X11_fitsDial w_502 (rest := []) h (fun _ g => c_X11_fitsDial g) rfl rfl (Nat.le_of_ble_eq_true rfl) ⟨Nat.le_of_ble_eq_true rfl, Nat.le_of_ble_eq_true rfl⟩ ⟨Nat.le_of_ble_eq_true rfl, Nat.le_of_ble_eq_true rfl⟩ dX11_allowed_2 (fun q1 h => ?_)
    refine j_ifne F 10 dX11_allowed_5 (by decide) h (fun _ h => ?_) (fun _ h => ?_)
    · refine j_iconst F 1 dX11_allowed_10 (by decide) ?_
      refine j_iload_n F 2 dX11_allowed_11 rfl ?_
      refine j_cSI F mi_X11_fitsDial w_502 (rest := []) h (fun _ g => c_X11_fitsDial g) rfl rfl (Nat.le_of_ble_eq_true rfl) ⟨Nat.le_of_ble_eq_true rfl, Nat.le_of_ble_eq_true rfl⟩ ⟨Nat.le_of_ble_eq_true rfl, Nat.le_of_ble_eq_true rfl⟩ dX11_allowed_12 (fun q2 h => ?_)
      refine j_ifne F 21 dX11_allowed_15 (by decide) h (fun _ h => ?_) (fun _ h => ?_)
      · refine j_aload_n F 0 dX11_allowed_21 rfl ?_
        refine j_gR F fl_RX11_12 rfl dX11_allowed_22 h (fun v3 h => ?_)
        refine j_iload_n F 1 dX11_allowed_25 rfl ?_
        refine j_iload_n F 2 dX11_allowed_26 rfl ?_
        refine j_cVI F mi_X2_mayHang w_546 (rest := []) h (fun _ g => c_X2_mayHang g) rfl rfl (Nat.le_of_ble_eq_true rfl) ⟨Nat.le_of_ble_eq_true rfl, Nat.le_of_ble_eq_true rfl⟩ ⟨Nat.le_of_ble_eq_true rfl, Nat.le_of_ble_eq_true rfl⟩ dX11_allowed_27 (fun q4 h => ?_)
        exact j_iret F hr dX11_allowed_30 h
      · refine j_bipush F (-2) dX11_allowed_18 (by decide) ?_
        exact j_iret F hr dX11_allowed_20 h
    · refine j_iconst F (-1) dX11_allowed_8 (by decide) ?_
      exact j_iret F hr dX11_allowed_9 h
  exact ct_of (by decide +kernel) (Nat.le_of_ble_eq_true rfl) (fun p e s m args below meth c F hr _ => hJ p e s m args below meth c F hr)
def rm_X11_weight : Room := { frames := 2, cells := 0, slots := 0, locals := 40 }
theorem dX11_weight_0 : decode cX11_weight 0 = .ok (.aload_n 0, 1) := by decide +kernel
theorem dX11_weight_1 : decode cX11_weight 1 = .ok (.getfield 12, 3) := by decide +kernel
theorem dX11_weight_4 : decode cX11_weight 4 = .ok (.invokevirtual 172, 3) := by decide +kernel
theorem dX11_weight_7 : decode cX11_weight 7 = .ok (.ireturn, 1) := by decide +kernel
def f_X11_weight (S : SH) (a0 : Nat) (μ : Mem) : Option (Int32 × Mem) :=
  if isO S 11 a0 = true then
  (gR S 11 a0 0).bind fun v1 =>
  (f_X2_wholeMass S v1 μ).bind fun q2 =>
  some (q2.1, q2.2)
  else none
set_option maxRecDepth 100000 in
set_option maxHeartbeats 4000000 in
theorem c_X11_weight {l : Launch} {γ : GE} {S : SH} {a0 : Nat} {μ : Mem} {X : (Int32 × Mem)} (h : f_X11_weight S a0 μ = some X) : isO S 11 a0 = true ∧ Ct l γ yX11_weight cX11_weight 1 (some .int) rm_X11_weight [.ref (gb γ + a0)] S μ S X.2 (some (.int X.1)) := by
  unfold f_X11_weight at h
  obtain ⟨h0, h⟩ := if_some h
  refine ⟨h0, ?_⟩
  have hJ : ∀ (p : Program) (e : Env) (s : State) (m : MethodId) (args : Array Value) (below : List Frame) (meth : Method) (c : Code), FX γ p s m args meth c cX11_weight RX11 1 → meth.sig.returnType = (some .int) → JJ γ p l e rm_X11_weight s m args below meth c 1 0 0 (QI below γ S X args s 0 0) S μ 0 [(0, .ref (gb γ + a0))] [] := by
    intro p e s m args below meth c F hr
    refine j_aload_n F 0 dX11_weight_0 rfl ?_
    refine j_gR F fl_RX11_12 rfl dX11_weight_1 h (fun v1 h => ?_)
    refine j_cVI F mi_X2_wholeMass w_558 (rest := []) h (fun _ g => c_X2_wholeMass g) rfl rfl (Nat.le_of_ble_eq_true rfl) ⟨Nat.le_of_ble_eq_true rfl, Nat.le_of_ble_eq_true rfl⟩ ⟨Nat.le_of_ble_eq_true rfl, Nat.le_of_ble_eq_true rfl⟩ dX11_weight_4 (fun q2 h => ?_)
    exact j_iret F hr dX11_weight_7 h
  exact ct_of (by decide +kernel) (Nat.le_of_ble_eq_true rfl) (fun p e s m args below meth c F hr _ => hJ p e s m args below meth c F hr)
def rm_X11_isSide : Room := { frames := 1, cells := 0, slots := 0, locals := 22 }
theorem dX11_isSide_0 : decode cX11_isSide 0 = .ok (.iload_n 0, 1) := by decide +kernel
theorem dX11_isSide_1 : decode cX11_isSide 1 = .ok (.iconst 0, 1) := by decide +kernel
theorem dX11_isSide_2 : decode cX11_isSide 2 = .ok (.iconst 1, 1) := by decide +kernel
theorem dX11_isSide_3 : decode cX11_isSide 3 = .ok (.invokestatic 84, 3) := by decide +kernel
theorem dX11_isSide_6 : decode cX11_isSide 6 = .ok (.ireturn, 1) := by decide +kernel
def f_X11_isSide (S : SH) (a0 : Int32) (μ : Mem) : Option (Int32 × Mem) :=
  (f_X11_within S a0 0 1 μ).bind fun q1 =>
  (oz q1.1).bind fun z2 => some (z2, q1.2)
set_option maxRecDepth 100000 in
set_option maxHeartbeats 4000000 in
theorem c_X11_isSide {l : Launch} {γ : GE} {S : SH} {a0 : Int32} {μ : Mem} {X : (Int32 × Mem)} (h : f_X11_isSide S a0 μ = some X) : Ct l γ yX11_isSide cX11_isSide 1 (some .boolean) rm_X11_isSide [.int a0] S μ S X.2 (some (.int X.1)) := by
  unfold f_X11_isSide at h
  have hJ : ∀ (p : Program) (e : Env) (s : State) (m : MethodId) (args : Array Value) (below : List Frame) (meth : Method) (c : Code), FX γ p s m args meth c cX11_isSide RX11 1 → meth.sig.returnType = (some .boolean) → JJ γ p l e rm_X11_isSide s m args below meth c 1 0 0 (QI below γ S X args s 0 0) S μ 0 [(0, .int a0)] [] := by
    intro p e s m args below meth c F hr
    refine j_iload_n F 0 dX11_isSide_0 rfl ?_
    refine j_iconst F 0 dX11_isSide_1 (by decide) ?_
    refine j_iconst F 1 dX11_isSide_2 (by decide) ?_
    refine j_cSI F mi_X11_within w_464 (rest := []) h (fun _ g => c_X11_within g) rfl rfl (Nat.le_of_ble_eq_true rfl) ⟨Nat.le_of_ble_eq_true rfl, Nat.le_of_ble_eq_true rfl⟩ ⟨Nat.le_of_ble_eq_true rfl, Nat.le_of_ble_eq_true rfl⟩ dX11_isSide_3 (fun q1 h => ?_)
    exact j_zretG F hr dX11_isSide_6 h
  exact ct_of (by decide +kernel) (Nat.le_of_ble_eq_true rfl) (fun p e s m args below meth c F hr _ => hJ p e s m args below meth c F hr)
def rm_X11_commonDivisor : Room := { frames := 0, cells := 0, slots := 0, locals := 0 }
theorem dX11_commonDivisor_0 : decode cX11_commonDivisor 0 = .ok (.lload_n 0, 1) := by decide +kernel
theorem dX11_commonDivisor_1 : decode cX11_commonDivisor 1 = .ok (.lstore 4, 2) := by decide +kernel
theorem dX11_commonDivisor_3 : decode cX11_commonDivisor 3 = .ok (.lload_n 2, 1) := by decide +kernel
theorem dX11_commonDivisor_4 : decode cX11_commonDivisor 4 = .ok (.lstore 6, 2) := by decide +kernel
theorem dX11_commonDivisor_6 : decode cX11_commonDivisor 6 = .ok (.iconst 0, 1) := by decide +kernel
theorem dX11_commonDivisor_7 : decode cX11_commonDivisor 7 = .ok (.istore 8, 2) := by decide +kernel
theorem dX11_commonDivisor_9 : decode cX11_commonDivisor 9 = .ok (.iload 8, 2) := by decide +kernel
theorem dX11_commonDivisor_11 : decode cX11_commonDivisor 11 = .ok (.sipush 200, 3) := by decide +kernel
theorem dX11_commonDivisor_14 : decode cX11_commonDivisor 14 = .ok (.if_icmp .ge 31, 3) := by decide +kernel
theorem dX11_commonDivisor_17 : decode cX11_commonDivisor 17 = .ok (.lload 6, 2) := by decide +kernel
theorem dX11_commonDivisor_19 : decode cX11_commonDivisor 19 = .ok (.lconst 0, 1) := by decide +kernel
theorem dX11_commonDivisor_20 : decode cX11_commonDivisor 20 = .ok (.lcmp, 1) := by decide +kernel
theorem dX11_commonDivisor_21 : decode cX11_commonDivisor 21 = .ok (.ifCond .eq 24, 3) := by decide +kernel
theorem dX11_commonDivisor_24 : decode cX11_commonDivisor 24 = .ok (.lload 4, 2) := by decide +kernel
theorem dX11_commonDivisor_26 : decode cX11_commonDivisor 26 = .ok (.lload 6, 2) := by decide +kernel
theorem dX11_commonDivisor_28 : decode cX11_commonDivisor 28 = .ok (.lrem, 1) := by decide +kernel
theorem dX11_commonDivisor_29 : decode cX11_commonDivisor 29 = .ok (.lstore 9, 2) := by decide +kernel
theorem dX11_commonDivisor_31 : decode cX11_commonDivisor 31 = .ok (.lload 6, 2) := by decide +kernel
theorem dX11_commonDivisor_33 : decode cX11_commonDivisor 33 = .ok (.lstore 4, 2) := by decide +kernel
theorem dX11_commonDivisor_35 : decode cX11_commonDivisor 35 = .ok (.lload 9, 2) := by decide +kernel
theorem dX11_commonDivisor_37 : decode cX11_commonDivisor 37 = .ok (.lstore 6, 2) := by decide +kernel
theorem dX11_commonDivisor_39 : decode cX11_commonDivisor 39 = .ok (.iinc 8 1, 3) := by decide +kernel
theorem dX11_commonDivisor_42 : decode cX11_commonDivisor 42 = .ok (.goto (-33), 3) := by decide +kernel
theorem dX11_commonDivisor_45 : decode cX11_commonDivisor 45 = .ok (.lload 4, 2) := by decide +kernel
theorem dX11_commonDivisor_47 : decode cX11_commonDivisor 47 = .ok (.lreturn, 1) := by decide +kernel
def l_X11_commonDivisor_9 (S : SH) (k9 : (Int64 × Int64 × Int32 × Mem) → Option (Int64 × Mem)) (x : (Int64 × Int64 × Int32 × Mem)) : Option (Int64 × Mem) :=
 (if 200 ≤ x.2.2.1 then
 some (x.1, x.2.2.2)
 else
 (if x.2.1 = 0 then
 some (x.1, x.2.2.2)
 else
 (o_lrem x.1 x.2.1).bind fun v1 =>
 k9 (x.2.1, v1, x.2.2.1 + 1, x.2.2.2)))
set_option maxRecDepth 100000 in
set_option maxHeartbeats 4000000 in
theorem t_X11_commonDivisor_9 {γ : GE} {p : Program} {l : Launch} {e : Env} {s : State} {m : MethodId} {args : Array Value} {below : List Frame} {meth : Method} {c : Code} {S : SH} {X : (Int64 × Mem)} (F : FX γ p s m args meth c cX11_commonDivisor RX11 11) (hr : meth.sig.returnType = (some .long)) (k9 : (Int64 × Int64 × Int32 × Mem) → Option (Int64 × Mem)) (hk9 : ∀ x : (Int64 × Int64 × Int32 × Mem), k9 x = some X → JJ γ p l e rm_X11_commonDivisor s m args below meth c 11 0 0 (QL below γ S X args s 0 0) S x.2.2.2 9 [(4, .long x.1), (6, .long x.2.1), (8, .int x.2.2.1)] []) (x : (Int64 × Int64 × Int32 × Mem)) (h : l_X11_commonDivisor_9 S k9 x = some X) : JJ γ p l e rm_X11_commonDivisor s m args below meth c 11 0 0 (QL below γ S X args s 0 0) S x.2.2.2 9 [(4, .long x.1), (6, .long x.2.1), (8, .int x.2.2.1)] [] := by
  unfold l_X11_commonDivisor_9 at h
  refine j_iload F 2 dX11_commonDivisor_9 rfl ?_
  refine j_sipush F 200 dX11_commonDivisor_11 (by decide) ?_
  refine j_icmpge F 45 dX11_commonDivisor_14 (by decide) h (fun _ h => ?_) (fun _ h => ?_)
  · refine j_lload F 0 dX11_commonDivisor_45 rfl ?_
    exact j_lret F hr dX11_commonDivisor_47 h
  · refine j_lload F 1 dX11_commonDivisor_17 rfl ?_
    refine j_lconst F 0 dX11_commonDivisor_19 (by decide) ?_
    refine j_lcmpeq F 45 dX11_commonDivisor_20 dX11_commonDivisor_21 (by decide) h (fun _ h => ?_) (fun _ h => ?_)
    · refine j_lload F 0 dX11_commonDivisor_45 rfl ?_
      exact j_lret F hr dX11_commonDivisor_47 h
    · refine j_lload F 0 dX11_commonDivisor_24 rfl ?_
      refine j_lload F 1 dX11_commonDivisor_26 rfl ?_
      refine j_lrem F dX11_commonDivisor_28 h (fun v1 h => ?_)
      refine j_lstore F [(9, .long v1), (4, .long x.1), (6, .long x.2.1), (8, .int x.2.2.1)] dX11_commonDivisor_29 (by decide) rfl ?_
      refine j_lload F 2 dX11_commonDivisor_31 rfl ?_
      refine j_lstore F [(4, .long x.2.1), (9, .long v1), (6, .long x.2.1), (8, .int x.2.2.1)] dX11_commonDivisor_33 (by decide) rfl ?_
      refine j_lload F 1 dX11_commonDivisor_35 rfl ?_
      refine j_lstore F [(6, .long v1), (4, .long x.2.1), (9, .long v1), (8, .int x.2.2.1)] dX11_commonDivisor_37 (by decide) rfl ?_
      refine j_iinc F 1 3 [(8, .int (x.2.2.1 + 1)), (6, .long v1), (4, .long x.2.1), (9, .long v1)] dX11_commonDivisor_39 rfl (by decide) (by decide) rfl ?_
      refine j_goto F 9 dX11_commonDivisor_42 (by decide) ?_
      refine j_lv [(4, .long x.2.1), (6, .long v1), (8, .int (x.2.2.1 + 1))] [2, 1, 0] rfl ?_
      have h9 := hk9 _ h
      exact h9
theorem s_X11_commonDivisor_9 {γ : GE} {p : Program} {l : Launch} {e : Env} {s : State} {m : MethodId} {args : Array Value} {below : List Frame} {meth : Method} {c : Code} {S : SH} {X : (Int64 × Mem)} (F : FX γ p s m args meth c cX11_commonDivisor RX11 11) (hr : meth.sig.returnType = (some .long)) (x : (Int64 × Int64 × Int32 × Mem)) (h : lpN (l_X11_commonDivisor_9 S ) fu x = some X) : JJ γ p l e rm_X11_commonDivisor s m args below meth c 11 0 0 (QL below γ S X args s 0 0) S x.2.2.2 9 [(4, .long x.1), (6, .long x.2.1), (8, .int x.2.2.1)] [] :=
 lpN_sound (fun x => JJ γ p l e rm_X11_commonDivisor s m args below meth c 11 0 0 (QL below γ S X args s 0 0) S x.2.2.2 9 [(4, .long x.1), (6, .long x.2.1), (8, .int x.2.2.1)] []) (fun k9 hk9 x h => t_X11_commonDivisor_9 F hr k9 hk9 x h) fu x h
def f_X11_commonDivisor (S : SH) (a0 : Int64) (a2 : Int64) (μ : Mem) : Option (Int64 × Mem) :=
  lpN (l_X11_commonDivisor_9 S  ) fu (a0, a2, 0, μ)
set_option maxRecDepth 100000 in
set_option maxHeartbeats 4000000 in
theorem c_X11_commonDivisor {l : Launch} {γ : GE} {S : SH} {a0 : Int64} {a2 : Int64} {μ : Mem} {X : (Int64 × Mem)} (h : f_X11_commonDivisor S a0 a2 μ = some X) : Ct l γ yX11_commonDivisor cX11_commonDivisor 11 (some .long) rm_X11_commonDivisor [.long a0, .long a2] S μ S X.2 (some (.long X.1)) := by
  unfold f_X11_commonDivisor at h
  have hJ : ∀ (p : Program) (e : Env) (s : State) (m : MethodId) (args : Array Value) (below : List Frame) (meth : Method) (c : Code), FX γ p s m args meth c cX11_commonDivisor RX11 11 → meth.sig.returnType = (some .long) → JJ γ p l e rm_X11_commonDivisor s m args below meth c 11 0 0 (QL below γ S X args s 0 0) S μ 0 [(0, .long a0), (2, .long a2)] [] := by
    intro p e s m args below meth c F hr
    refine j_lload_n F 0 dX11_commonDivisor_0 rfl ?_
    refine j_lstore F [(4, .long a0), (0, .long a0), (2, .long a2)] dX11_commonDivisor_1 (by decide) rfl ?_
    refine j_lload_n F 2 dX11_commonDivisor_3 rfl ?_
    refine j_lstore F [(6, .long a2), (4, .long a0), (0, .long a0), (2, .long a2)] dX11_commonDivisor_4 (by decide) rfl ?_
    refine j_iconst F 0 dX11_commonDivisor_6 (by decide) ?_
    refine j_istore F [(8, .int 0), (6, .long a2), (4, .long a0), (0, .long a0), (2, .long a2)] dX11_commonDivisor_7 (by decide) rfl ?_
    refine j_lv [(4, .long a0), (6, .long a2), (8, .int 0)] [2, 1, 0] rfl ?_
    exact s_X11_commonDivisor_9 F hr _ h
  exact ct_of (by decide +kernel) (Nat.le_of_ble_eq_true rfl) (fun p e s m args below meth c F hr _ => hJ p e s m args below meth c F hr)
def rm_X11_inLowestTerms : Room := { frames := 1, cells := 0, slots := 0, locals := 30 }
theorem dX11_inLowestTerms_0 : decode cX11_inLowestTerms 0 = .ok (.lload_n 0, 1) := by decide +kernel
theorem dX11_inLowestTerms_1 : decode cX11_inLowestTerms 1 = .ok (.invokestatic 339, 3) := by decide +kernel
theorem dX11_inLowestTerms_4 : decode cX11_inLowestTerms 4 = .ok (.lload_n 2, 1) := by decide +kernel
theorem dX11_inLowestTerms_5 : decode cX11_inLowestTerms 5 = .ok (.invokestatic 345, 3) := by decide +kernel
theorem dX11_inLowestTerms_8 : decode cX11_inLowestTerms 8 = .ok (.lstore 5, 2) := by decide +kernel
theorem dX11_inLowestTerms_10 : decode cX11_inLowestTerms 10 = .ok (.lload 5, 2) := by decide +kernel
theorem dX11_inLowestTerms_12 : decode cX11_inLowestTerms 12 = .ok (.lconst 0, 1) := by decide +kernel
theorem dX11_inLowestTerms_13 : decode cX11_inLowestTerms 13 = .ok (.lcmp, 1) := by decide +kernel
theorem dX11_inLowestTerms_14 : decode cX11_inLowestTerms 14 = .ok (.ifCond .ne 7, 3) := by decide +kernel
theorem dX11_inLowestTerms_17 : decode cX11_inLowestTerms 17 = .ok (.ldc2_w 139, 3) := by decide +kernel
theorem dX11_inLowestTerms_20 : decode cX11_inLowestTerms 20 = .ok (.lreturn, 1) := by decide +kernel
theorem dX11_inLowestTerms_21 : decode cX11_inLowestTerms 21 = .ok (.iload 4, 2) := by decide +kernel
theorem dX11_inLowestTerms_23 : decode cX11_inLowestTerms 23 = .ok (.ifCond .ne 7, 3) := by decide +kernel
theorem dX11_inLowestTerms_26 : decode cX11_inLowestTerms 26 = .ok (.lload_n 0, 1) := by decide +kernel
theorem dX11_inLowestTerms_27 : decode cX11_inLowestTerms 27 = .ok (.goto 4, 3) := by decide +kernel
theorem dX11_inLowestTerms_30 : decode cX11_inLowestTerms 30 = .ok (.lload_n 2, 1) := by decide +kernel
theorem dX11_inLowestTerms_31 : decode cX11_inLowestTerms 31 = .ok (.lload 5, 2) := by decide +kernel
theorem dX11_inLowestTerms_33 : decode cX11_inLowestTerms 33 = .ok (.ldiv, 1) := by decide +kernel
theorem dX11_inLowestTerms_34 : decode cX11_inLowestTerms 34 = .ok (.lreturn, 1) := by decide +kernel
def f_X11_inLowestTerms (S : SH) (a0 : Int64) (a2 : Int64) (a4 : Int32) (μ : Mem) : Option (Int64 × Mem) :=
  (f_X11_commonDivisor S ((if 0 < a0 then a0 else -a0)) a2 μ).bind fun q1 =>
  (if q1.1 = 0 then
  some ((-9223372036854775808), q1.2)
  else
  (if a4 = 0 then
  (o_ldiv a0 q1.1).bind fun v3 =>
  some (v3, q1.2)
  else
  (o_ldiv a2 q1.1).bind fun v2 =>
  some (v2, q1.2)))
set_option maxRecDepth 100000 in
set_option maxHeartbeats 4000000 in
theorem c_X11_inLowestTerms {l : Launch} {γ : GE} {S : SH} {a0 : Int64} {a2 : Int64} {a4 : Int32} {μ : Mem} {X : (Int64 × Mem)} (h : f_X11_inLowestTerms S a0 a2 a4 μ = some X) : Ct l γ yX11_inLowestTerms cX11_inLowestTerms 7 (some .long) rm_X11_inLowestTerms [.long a0, .long a2, .int a4] S μ S X.2 (some (.long X.1)) := by
  unfold f_X11_inLowestTerms at h
  have hJ : ∀ (p : Program) (e : Env) (s : State) (m : MethodId) (args : Array Value) (below : List Frame) (meth : Method) (c : Code), FX γ p s m args meth c cX11_inLowestTerms RX11 7 → meth.sig.returnType = (some .long) → JJ γ p l e rm_X11_inLowestTerms s m args below meth c 7 0 0 (QL below γ S X args s 0 0) S μ 0 [(0, .long a0), (2, .long a2), (4, .int a4)] [] := by
    intro p e s m args below meth c F hr
    refine j_lload_n F 0 dX11_inLowestTerms_0 rfl ?_
    refine j_mabs F w_587 ⟨Nat.le_of_ble_eq_true rfl, Nat.le_of_ble_eq_true rfl, Nat.le_of_ble_eq_true rfl, Nat.le_of_ble_eq_true rfl⟩ dX11_inLowestTerms_1 mg_abs ?_
    refine j_lload_n F 1 dX11_inLowestTerms_4 rfl ?_
    refine j_cSJ F mi_X11_commonDivisor w_590 (rest := []) h (fun _ g => c_X11_commonDivisor g) rfl rfl (Nat.le_of_ble_eq_true rfl) ⟨Nat.le_of_ble_eq_true rfl, Nat.le_of_ble_eq_true rfl⟩ ⟨Nat.le_of_ble_eq_true rfl, Nat.le_of_ble_eq_true rfl⟩ dX11_inLowestTerms_5 (fun q1 h => ?_)
    refine j_lstore F [(5, .long q1.1), (0, .long a0), (2, .long a2), (4, .int a4)] dX11_inLowestTerms_8 (by decide) rfl ?_
    refine j_lload F 0 dX11_inLowestTerms_10 rfl ?_
    refine j_lconst F 0 dX11_inLowestTerms_12 (by decide) ?_
    refine j_lcmpne F 21 dX11_inLowestTerms_13 dX11_inLowestTerms_14 (by decide) h (fun _ h => ?_) (fun _ h => ?_)
    · refine j_iload F 3 dX11_inLowestTerms_21 rfl ?_
      refine j_ifne F 30 dX11_inLowestTerms_23 (by decide) h (fun _ h => ?_) (fun _ h => ?_)
      · refine j_lload_n F 2 dX11_inLowestTerms_30 rfl ?_
        refine j_lload F 0 dX11_inLowestTerms_31 rfl ?_
        refine j_ldiv F dX11_inLowestTerms_33 h (fun v2 h => ?_)
        exact j_lret F hr dX11_inLowestTerms_34 h
      · refine j_lload_n F 1 dX11_inLowestTerms_26 rfl ?_
        refine j_goto F 31 dX11_inLowestTerms_27 (by decide) ?_
        refine j_lload F 0 dX11_inLowestTerms_31 rfl ?_
        refine j_ldiv F dX11_inLowestTerms_33 h (fun v3 h => ?_)
        exact j_lret F hr dX11_inLowestTerms_34 h
    · refine j_ldc2 F (-9223372036854775808) dX11_inLowestTerms_17 w_517 ?_
      exact j_lret F hr dX11_inLowestTerms_20 h
  exact ct_of (by decide +kernel) (Nat.le_of_ble_eq_true rfl) (fun p e s m args below meth c F hr _ => hJ p e s m args below meth c F hr)
def rm_X11_centre : Room := { frames := 3, cells := 0, slots := 0, locals := 70 }
theorem dX11_centre_0 : decode cX11_centre 0 = .ok (.aload_n 0, 1) := by decide +kernel
theorem dX11_centre_1 : decode cX11_centre 1 = .ok (.getfield 27, 3) := by decide +kernel
theorem dX11_centre_4 : decode cX11_centre 4 = .ok (.aload_n 0, 1) := by decide +kernel
theorem dX11_centre_5 : decode cX11_centre 5 = .ok (.getfield 12, 3) := by decide +kernel
theorem dX11_centre_8 : decode cX11_centre 8 = .ok (.invokevirtual 176, 3) := by decide +kernel
theorem dX11_centre_11 : decode cX11_centre 11 = .ok (.iload_n 1, 1) := by decide +kernel
theorem dX11_centre_12 : decode cX11_centre 12 = .ok (.iconst 0, 1) := by decide +kernel
theorem dX11_centre_13 : decode cX11_centre 13 = .ok (.iconst 1, 1) := by decide +kernel
theorem dX11_centre_14 : decode cX11_centre 14 = .ok (.invokestatic 84, 3) := by decide +kernel
theorem dX11_centre_17 : decode cX11_centre 17 = .ok (.ifCond .eq 22, 3) := by decide +kernel
theorem dX11_centre_20 : decode cX11_centre 20 = .ok (.iload_n 2, 1) := by decide +kernel
theorem dX11_centre_21 : decode cX11_centre 21 = .ok (.invokestatic 180, 3) := by decide +kernel
theorem dX11_centre_24 : decode cX11_centre 24 = .ok (.ifCond .eq 15, 3) := by decide +kernel
theorem dX11_centre_27 : decode cX11_centre 27 = .ok (.aload_n 0, 1) := by decide +kernel
theorem dX11_centre_28 : decode cX11_centre 28 = .ok (.getfield 27, 3) := by decide +kernel
theorem dX11_centre_31 : decode cX11_centre 31 = .ok (.getfield 183, 3) := by decide +kernel
theorem dX11_centre_34 : decode cX11_centre 34 = .ok (.lconst 0, 1) := by decide +kernel
theorem dX11_centre_35 : decode cX11_centre 35 = .ok (.lcmp, 1) := by decide +kernel
theorem dX11_centre_36 : decode cX11_centre 36 = .ok (.ifCond .ne 7, 3) := by decide +kernel
theorem dX11_centre_39 : decode cX11_centre 39 = .ok (.ldc2_w 139, 3) := by decide +kernel
theorem dX11_centre_42 : decode cX11_centre 42 = .ok (.lreturn, 1) := by decide +kernel
theorem dX11_centre_43 : decode cX11_centre 43 = .ok (.iload_n 1, 1) := by decide +kernel
theorem dX11_centre_44 : decode cX11_centre 44 = .ok (.ifCond .ne 13, 3) := by decide +kernel
theorem dX11_centre_47 : decode cX11_centre 47 = .ok (.aload_n 0, 1) := by decide +kernel
theorem dX11_centre_48 : decode cX11_centre 48 = .ok (.getfield 27, 3) := by decide +kernel
theorem dX11_centre_51 : decode cX11_centre 51 = .ok (.getfield 187, 3) := by decide +kernel
theorem dX11_centre_54 : decode cX11_centre 54 = .ok (.goto 10, 3) := by decide +kernel
theorem dX11_centre_57 : decode cX11_centre 57 = .ok (.aload_n 0, 1) := by decide +kernel
theorem dX11_centre_58 : decode cX11_centre 58 = .ok (.getfield 27, 3) := by decide +kernel
theorem dX11_centre_61 : decode cX11_centre 61 = .ok (.getfield 190, 3) := by decide +kernel
theorem dX11_centre_64 : decode cX11_centre 64 = .ok (.aload_n 0, 1) := by decide +kernel
theorem dX11_centre_65 : decode cX11_centre 65 = .ok (.getfield 27, 3) := by decide +kernel
theorem dX11_centre_68 : decode cX11_centre 68 = .ok (.getfield 183, 3) := by decide +kernel
theorem dX11_centre_71 : decode cX11_centre 71 = .ok (.iload_n 2, 1) := by decide +kernel
theorem dX11_centre_72 : decode cX11_centre 72 = .ok (.invokestatic 193, 3) := by decide +kernel
theorem dX11_centre_75 : decode cX11_centre 75 = .ok (.lreturn, 1) := by decide +kernel
def f_X11_centre (S : SH) (a0 : Nat) (a1 : Int32) (a2 : Int32) (μ : Mem) : Option (Int64 × Mem) :=
  if isO S 11 a0 = true then
  (gR S 11 a0 3).bind fun v1 =>
  (gR S 11 a0 0).bind fun v2 =>
  (f_X3_gather S v1 v2 μ).bind fun q3 =>
  (f_X11_within S a1 0 1 q3.2).bind fun q4 =>
  (if q4.1 = 0 then
  some ((-9223372036854775808), q4.2)
  else
  (f_X11_isSide S a2 q4.2).bind fun q5 =>
  (if q5.1 = 0 then
  some ((-9223372036854775808), q5.2)
  else
  (gR S 11 a0 3).bind fun v6 =>
  (gL S 3 v6 0 q5.2).bind fun v7 =>
  (if v7 = 0 then
  some ((-9223372036854775808), q5.2)
  else
  (if a1 = 0 then
  (gR S 11 a0 3).bind fun v13 =>
  (gL S 3 v13 1 q5.2).bind fun v14 =>
  (gR S 11 a0 3).bind fun v15 =>
  (gL S 3 v15 0 q5.2).bind fun v16 =>
  (f_X11_inLowestTerms S v14 v16 a2 q5.2).bind fun q17 =>
  some (q17.1, q17.2)
  else
  (gR S 11 a0 3).bind fun v8 =>
  (gL S 3 v8 2 q5.2).bind fun v9 =>
  (gR S 11 a0 3).bind fun v10 =>
  (gL S 3 v10 0 q5.2).bind fun v11 =>
  (f_X11_inLowestTerms S v9 v11 a2 q5.2).bind fun q12 =>
  some (q12.1, q12.2)))))
  else none
set_option maxRecDepth 100000 in
set_option maxHeartbeats 4000000 in
theorem c_X11_centre {l : Launch} {γ : GE} {S : SH} {a0 : Nat} {a1 : Int32} {a2 : Int32} {μ : Mem} {X : (Int64 × Mem)} (h : f_X11_centre S a0 a1 a2 μ = some X) : isO S 11 a0 = true ∧ Ct l γ yX11_centre cX11_centre 3 (some .long) rm_X11_centre [.ref (gb γ + a0), .int a1, .int a2] S μ S X.2 (some (.long X.1)) := by
  unfold f_X11_centre at h
  obtain ⟨h0, h⟩ := if_some h
  refine ⟨h0, ?_⟩
  have hJ : ∀ (p : Program) (e : Env) (s : State) (m : MethodId) (args : Array Value) (below : List Frame) (meth : Method) (c : Code), FX γ p s m args meth c cX11_centre RX11 3 → meth.sig.returnType = (some .long) → JJ γ p l e rm_X11_centre s m args below meth c 3 0 0 (QL below γ S X args s 0 0) S μ 0 [(0, .ref (gb γ + a0)), (1, .int a1), (2, .int a2)] [] := by
    intro p e s m args below meth c F hr
    refine j_aload_n F 0 dX11_centre_0 rfl ?_
    refine j_gR F fl_RX11_27 rfl dX11_centre_1 h (fun v1 h => ?_)
    refine j_aload_n F 0 dX11_centre_4 rfl ?_
    refine j_gR F fl_RX11_12 rfl dX11_centre_5 h (fun v2 h => ?_)
    refine j_cVV F mi_X3_gather w_570 (rest := []) h (fun _ g => c_X3_gather g) rfl rfl (Nat.le_of_ble_eq_true rfl) ⟨Nat.le_of_ble_eq_true rfl, Nat.le_of_ble_eq_true rfl⟩ ⟨Nat.le_of_ble_eq_true rfl, Nat.le_of_ble_eq_true rfl⟩ dX11_centre_8 (fun q3 h => ?_)
    refine j_iload_n F 1 dX11_centre_11 rfl ?_
    refine j_iconst F 0 dX11_centre_12 (by decide) ?_
    refine j_iconst F 1 dX11_centre_13 (by decide) ?_
    refine j_cSI F mi_X11_within w_464 (rest := []) h (fun _ g => c_X11_within g) rfl rfl (Nat.le_of_ble_eq_true rfl) ⟨Nat.le_of_ble_eq_true rfl, Nat.le_of_ble_eq_true rfl⟩ ⟨Nat.le_of_ble_eq_true rfl, Nat.le_of_ble_eq_true rfl⟩ dX11_centre_14 (fun q4 h => ?_)
    refine j_ifeq F 39 dX11_centre_17 (by decide) h (fun _ h => ?_) (fun _ h => ?_)
    · refine j_ldc2 F (-9223372036854775808) dX11_centre_39 w_517 ?_
      exact j_lret F hr dX11_centre_42 h
    · refine j_iload_n F 2 dX11_centre_20 rfl ?_
      refine j_cSI F mi_X11_isSide w_581 (rest := []) h (fun _ g => c_X11_isSide g) rfl rfl (Nat.le_of_ble_eq_true rfl) ⟨Nat.le_of_ble_eq_true rfl, Nat.le_of_ble_eq_true rfl⟩ ⟨Nat.le_of_ble_eq_true rfl, Nat.le_of_ble_eq_true rfl⟩ dX11_centre_21 (fun q5 h => ?_)
      refine j_ifeq F 39 dX11_centre_24 (by decide) h (fun _ h => ?_) (fun _ h => ?_)
      · refine j_ldc2 F (-9223372036854775808) dX11_centre_39 w_517 ?_
        exact j_lret F hr dX11_centre_42 h
      · refine j_aload_n F 0 dX11_centre_27 rfl ?_
        refine j_gR F fl_RX11_27 rfl dX11_centre_28 h (fun v6 h => ?_)
        refine j_gL F fl_RX11_183.l rfl dX11_centre_31 h (fun v7 h => ?_)
        refine j_lconst F 0 dX11_centre_34 (by decide) ?_
        refine j_lcmpne F 43 dX11_centre_35 dX11_centre_36 (by decide) h (fun _ h => ?_) (fun _ h => ?_)
        · refine j_iload_n F 1 dX11_centre_43 rfl ?_
          refine j_ifne F 57 dX11_centre_44 (by decide) h (fun _ h => ?_) (fun _ h => ?_)
          · refine j_aload_n F 0 dX11_centre_57 rfl ?_
            refine j_gR F fl_RX11_27 rfl dX11_centre_58 h (fun v8 h => ?_)
            refine j_gL F fl_RX11_190.l rfl dX11_centre_61 h (fun v9 h => ?_)
            refine j_aload_n F 0 dX11_centre_64 rfl ?_
            refine j_gR F fl_RX11_27 rfl dX11_centre_65 h (fun v10 h => ?_)
            refine j_gL F fl_RX11_183.l rfl dX11_centre_68 h (fun v11 h => ?_)
            refine j_iload_n F 2 dX11_centre_71 rfl ?_
            refine j_cSJ F mi_X11_inLowestTerms w_584 (rest := []) h (fun _ g => c_X11_inLowestTerms g) rfl rfl (Nat.le_of_ble_eq_true rfl) ⟨Nat.le_of_ble_eq_true rfl, Nat.le_of_ble_eq_true rfl⟩ ⟨Nat.le_of_ble_eq_true rfl, Nat.le_of_ble_eq_true rfl⟩ dX11_centre_72 (fun q12 h => ?_)
            exact j_lret F hr dX11_centre_75 h
          · refine j_aload_n F 0 dX11_centre_47 rfl ?_
            refine j_gR F fl_RX11_27 rfl dX11_centre_48 h (fun v13 h => ?_)
            refine j_gL F fl_RX11_187.l rfl dX11_centre_51 h (fun v14 h => ?_)
            refine j_goto F 64 dX11_centre_54 (by decide) ?_
            refine j_aload_n F 0 dX11_centre_64 rfl ?_
            refine j_gR F fl_RX11_27 rfl dX11_centre_65 h (fun v15 h => ?_)
            refine j_gL F fl_RX11_183.l rfl dX11_centre_68 h (fun v16 h => ?_)
            refine j_iload_n F 2 dX11_centre_71 rfl ?_
            refine j_cSJ F mi_X11_inLowestTerms w_584 (rest := []) h (fun _ g => c_X11_inLowestTerms g) rfl rfl (Nat.le_of_ble_eq_true rfl) ⟨Nat.le_of_ble_eq_true rfl, Nat.le_of_ble_eq_true rfl⟩ ⟨Nat.le_of_ble_eq_true rfl, Nat.le_of_ble_eq_true rfl⟩ dX11_centre_72 (fun q17 h => ?_)
            exact j_lret F hr dX11_centre_75 h
        · refine j_ldc2 F (-9223372036854775808) dX11_centre_39 w_517 ?_
          exact j_lret F hr dX11_centre_42 h
  exact ct_of (by decide +kernel) (Nat.le_of_ble_eq_true rfl) (fun p e s m args below meth c F hr _ => hJ p e s m args below meth c F hr)
