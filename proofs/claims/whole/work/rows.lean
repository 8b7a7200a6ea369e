section
-- ===== PART A: goes FIRST, ahead of the names: the tables' words, and 'selects' of the private methods out of them =====
/-- a private method of a class that the tables say can be made, by its rows of tables_1 -/
def lw_okq (q : MethodName × Nat) : Prop := (q.1.cls ≠ "java/lang/invoke/MethodHandle" ∧ q.1.cls ≠ "java/lang/invoke/VarHandle") ∧ Cond.instantiable q.1.cls q.2 ∈ tables_1 ∧ Cond.privateMethod q.1 ∈ tables_1 ∧ Cond.instanceMethod q.1 ∈ tables_1
theorem lw_p0 : lw_okq (⟨"CranePads$Pads", "measure", "()V"⟩, 11) := ⟨⟨by decide +kernel, by decide +kernel⟩, List.mem_of_getElem? (i := 36) (by decide +kernel), List.mem_of_getElem? (i := 42) (by decide +kernel), List.mem_of_getElem? (i := 43) (by decide +kernel)⟩
theorem lw_p1 : lw_okq (⟨"CranePads$Judge", "addMoment", "(LCranePads$Pads;IIJJ)V"⟩, 8) := ⟨⟨by decide +kernel, by decide +kernel⟩, List.mem_of_getElem? (i := 203) (by decide +kernel), List.mem_of_getElem? (i := 557) (by decide +kernel), List.mem_of_getElem? (i := 558) (by decide +kernel)⟩
theorem lw_p2 : lw_okq (⟨"CranePads$Judge", "tipsOver", "(LCranePads$Pads;)Z"⟩, 8) := ⟨⟨by decide +kernel, by decide +kernel⟩, List.mem_of_getElem? (i := 203) (by decide +kernel), List.mem_of_getElem? (i := 575) (by decide +kernel), List.mem_of_getElem? (i := 576) (by decide +kernel)⟩
theorem lw_p3 : lw_okq (⟨"CranePads$Judge", "shareByPlane", "(LCranePads$Pads;)V"⟩, 8) := ⟨⟨by decide +kernel, by decide +kernel⟩, List.mem_of_getElem? (i := 203) (by decide +kernel), List.mem_of_getElem? (i := 580) (by decide +kernel), List.mem_of_getElem? (i := 581) (by decide +kernel)⟩
theorem lw_p4 : lw_okq (⟨"CranePads$Judge", "lowestBelowNothing", "()I"⟩, 8) := ⟨⟨by decide +kernel, by decide +kernel⟩, List.mem_of_getElem? (i := 203) (by decide +kernel), List.mem_of_getElem? (i := 584) (by decide +kernel), List.mem_of_getElem? (i := 585) (by decide +kernel)⟩
theorem lw_p5 : lw_okq (⟨"CranePads$Judge", "shareByThree", "(LCranePads$Pads;I)Z"⟩, 8) := ⟨⟨by decide +kernel, by decide +kernel⟩, List.mem_of_getElem? (i := 203) (by decide +kernel), List.mem_of_getElem? (i := 588) (by decide +kernel), List.mem_of_getElem? (i := 589) (by decide +kernel)⟩
theorem lw_p6 : lw_okq (⟨"CranePads$Judge", "isOverLimit", "(LCranePads$Pads;)Z"⟩, 8) := ⟨⟨by decide +kernel, by decide +kernel⟩, List.mem_of_getElem? (i := 203) (by decide +kernel), List.mem_of_getElem? (i := 593) (by decide +kernel), List.mem_of_getElem? (i := 594) (by decide +kernel)⟩
theorem lw_p7 : lw_okq (⟨"CranePads$Route", "spread", "()Z"⟩, 3) := ⟨⟨by decide +kernel, by decide +kernel⟩, List.mem_of_getElem? (i := 243) (by decide +kernel), List.mem_of_getElem? (i := 666) (by decide +kernel), List.mem_of_getElem? (i := 667) (by decide +kernel)⟩
theorem lw_p8 : lw_okq (⟨"CranePads$Tape", "readStep", "(LCranePads$Plan;)I"⟩, 3) := ⟨⟨by decide +kernel, by decide +kernel⟩, List.mem_of_getElem? (i := 260) (by decide +kernel), List.mem_of_getElem? (i := 695) (by decide +kernel), List.mem_of_getElem? (i := 696) (by decide +kernel)⟩
theorem lw_p9 : lw_okq (⟨"CranePads$Tape", "spells", "(ILjava/lang/String;)Z"⟩, 3) := ⟨⟨by decide +kernel, by decide +kernel⟩, List.mem_of_getElem? (i := 260) (by decide +kernel), List.mem_of_getElem? (i := 700) (by decide +kernel), List.mem_of_getElem? (i := 701) (by decide +kernel)⟩
theorem lw_p10 : lw_okq (⟨"CranePads$Tape", "dialOfWord", "(I)I"⟩, 3) := ⟨⟨by decide +kernel, by decide +kernel⟩, List.mem_of_getElem? (i := 260) (by decide +kernel), List.mem_of_getElem? (i := 756) (by decide +kernel), List.mem_of_getElem? (i := 757) (by decide +kernel)⟩
theorem lw_p11 : lw_okq (⟨"CranePads$Tape", "readNumber", "(LCranePads$Plan;I)I"⟩, 3) := ⟨⟨by decide +kernel, by decide +kernel⟩, List.mem_of_getElem? (i := 260) (by decide +kernel), List.mem_of_getElem? (i := 764) (by decide +kernel), List.mem_of_getElem? (i := 765) (by decide +kernel)⟩
theorem lw_p12 : lw_okq (⟨"CranePads$Walk", "meet", "(ILCranePads$Crane;LCranePads$Judge;)V"⟩, 5) := ⟨⟨by decide +kernel, by decide +kernel⟩, List.mem_of_getElem? (i := 299) (by decide +kernel), List.mem_of_getElem? (i := 786) (by decide +kernel), List.mem_of_getElem? (i := 787) (by decide +kernel)⟩
theorem lw_p13 : lw_okq (⟨"CranePads$Book", "dropEldest", "()V"⟩, 4) := ⟨⟨by decide +kernel, by decide +kernel⟩, List.mem_of_getElem? (i := 326) (by decide +kernel), List.mem_of_getElem? (i := 857) (by decide +kernel), List.mem_of_getElem? (i := 858) (by decide +kernel)⟩
theorem lw_p14 : lw_okq (⟨"CranePads", "mayBeAsBooked", "(I)Z"⟩, 12) := ⟨⟨by decide +kernel, by decide +kernel⟩, List.mem_of_getElem? (i := 22) (by decide +kernel), List.mem_of_getElem? (i := 866) (by decide +kernel), List.mem_of_getElem? (i := 867) (by decide +kernel)⟩
theorem lw_p15 : lw_okq (⟨"CranePadsModel", "stands", "()Z"⟩, 41) := ⟨⟨by decide +kernel, by decide +kernel⟩, List.mem_of_getElem? (i := 913) (by decide +kernel), List.mem_of_getElem? (i := 1053) (by decide +kernel), List.mem_of_getElem? (i := 1054) (by decide +kernel)⟩
def lw_privs_1 : List (MethodName × Nat) := [(⟨"CranePads$Pads", "measure", "()V"⟩, 11), (⟨"CranePads$Judge", "addMoment", "(LCranePads$Pads;IIJJ)V"⟩, 8), (⟨"CranePads$Judge", "tipsOver", "(LCranePads$Pads;)Z"⟩, 8), (⟨"CranePads$Judge", "shareByPlane", "(LCranePads$Pads;)V"⟩, 8), (⟨"CranePads$Judge", "lowestBelowNothing", "()I"⟩, 8), (⟨"CranePads$Judge", "shareByThree", "(LCranePads$Pads;I)Z"⟩, 8), (⟨"CranePads$Judge", "isOverLimit", "(LCranePads$Pads;)Z"⟩, 8), (⟨"CranePads$Route", "spread", "()Z"⟩, 3), (⟨"CranePads$Tape", "readStep", "(LCranePads$Plan;)I"⟩, 3), (⟨"CranePads$Tape", "spells", "(ILjava/lang/String;)Z"⟩, 3), (⟨"CranePads$Tape", "dialOfWord", "(I)I"⟩, 3), (⟨"CranePads$Tape", "readNumber", "(LCranePads$Plan;I)I"⟩, 3), (⟨"CranePads$Walk", "meet", "(ILCranePads$Crane;LCranePads$Judge;)V"⟩, 5), (⟨"CranePads$Book", "dropEldest", "()V"⟩, 4), (⟨"CranePads", "mayBeAsBooked", "(I)Z"⟩, 12), (⟨"CranePadsModel", "stands", "()Z"⟩, 41)]
theorem lw_r1 : ∀ q ∈ lw_privs_1, lw_okq q := List.forall_mem_cons.mpr ⟨lw_p0, List.forall_mem_cons.mpr ⟨lw_p1, List.forall_mem_cons.mpr ⟨lw_p2, List.forall_mem_cons.mpr ⟨lw_p3, List.forall_mem_cons.mpr ⟨lw_p4, List.forall_mem_cons.mpr ⟨lw_p5, List.forall_mem_cons.mpr ⟨lw_p6, List.forall_mem_cons.mpr ⟨lw_p7, List.forall_mem_cons.mpr ⟨lw_p8, List.forall_mem_cons.mpr ⟨lw_p9, List.forall_mem_cons.mpr ⟨lw_p10, List.forall_mem_cons.mpr ⟨lw_p11, List.forall_mem_cons.mpr ⟨lw_p12, List.forall_mem_cons.mpr ⟨lw_p13, List.forall_mem_cons.mpr ⟨lw_p14, List.forall_mem_cons.mpr ⟨lw_p15, fun _ h => absurd h List.not_mem_nil⟩⟩⟩⟩⟩⟩⟩⟩⟩⟩⟩⟩⟩⟩⟩⟩
theorem lw_p16 : lw_okq (⟨"CranePadsModel", "x", "(I)I"⟩, 41) := ⟨⟨by decide +kernel, by decide +kernel⟩, List.mem_of_getElem? (i := 913) (by decide +kernel), List.mem_of_getElem? (i := 1057) (by decide +kernel), List.mem_of_getElem? (i := 1058) (by decide +kernel)⟩
theorem lw_p17 : lw_okq (⟨"CranePadsModel", "y", "(I)I"⟩, 41) := ⟨⟨by decide +kernel, by decide +kernel⟩, List.mem_of_getElem? (i := 913) (by decide +kernel), List.mem_of_getElem? (i := 1061) (by decide +kernel), List.mem_of_getElem? (i := 1062) (by decide +kernel)⟩
theorem lw_p18 : lw_okq (⟨"CranePadsModel", "isPartOf", "(I)Z"⟩, 41) := ⟨⟨by decide +kernel, by decide +kernel⟩, List.mem_of_getElem? (i := 913) (by decide +kernel), List.mem_of_getElem? (i := 1073) (by decide +kernel), List.mem_of_getElem? (i := 1074) (by decide +kernel)⟩
theorem lw_p19 : lw_okq (⟨"CranePadsModel", "placeOf", "(II)I"⟩, 41) := ⟨⟨by decide +kernel, by decide +kernel⟩, List.mem_of_getElem? (i := 913) (by decide +kernel), List.mem_of_getElem? (i := 1109) (by decide +kernel), List.mem_of_getElem? (i := 1110) (by decide +kernel)⟩
theorem lw_p20 : lw_okq (⟨"CranePadsModel", "isThere", "(III)Z"⟩, 41) := ⟨⟨by decide +kernel, by decide +kernel⟩, List.mem_of_getElem? (i := 913) (by decide +kernel), List.mem_of_getElem? (i := 1113) (by decide +kernel), List.mem_of_getElem? (i := 1114) (by decide +kernel)⟩
theorem lw_p21 : lw_okq (⟨"CranePadsModel", "goes", "(II)V"⟩, 41) := ⟨⟨by decide +kernel, by decide +kernel⟩, List.mem_of_getElem? (i := 913) (by decide +kernel), List.mem_of_getElem? (i := 1117) (by decide +kernel), List.mem_of_getElem? (i := 1118) (by decide +kernel)⟩
theorem lw_p22 : lw_okq (⟨"CranePadsModel", "comes", "(III)V"⟩, 41) := ⟨⟨by decide +kernel, by decide +kernel⟩, List.mem_of_getElem? (i := 913) (by decide +kernel), List.mem_of_getElem? (i := 1121) (by decide +kernel), List.mem_of_getElem? (i := 1122) (by decide +kernel)⟩
theorem lw_p23 : lw_okq (⟨"CranePadsModel", "readOf", "(II)I"⟩, 41) := ⟨⟨by decide +kernel, by decide +kernel⟩, List.mem_of_getElem? (i := 913) (by decide +kernel), List.mem_of_getElem? (i := 1129) (by decide +kernel), List.mem_of_getElem? (i := 1130) (by decide +kernel)⟩
theorem lw_p24 : lw_okq (⟨"CranePadsModel", "allowedAt", "(II)I"⟩, 41) := ⟨⟨by decide +kernel, by decide +kernel⟩, List.mem_of_getElem? (i := 913) (by decide +kernel), List.mem_of_getElem? (i := 1140) (by decide +kernel), List.mem_of_getElem? (i := 1141) (by decide +kernel)⟩
theorem lw_p25 : lw_okq (⟨"CranePadsModel", "looks", "()V"⟩, 41) := ⟨⟨by decide +kernel, by decide +kernel⟩, List.mem_of_getElem? (i := 913) (by decide +kernel), List.mem_of_getElem? (i := 1149) (by decide +kernel), List.mem_of_getElem? (i := 1150) (by decide +kernel)⟩
theorem lw_p26 : lw_okq (⟨"CranePadsModel", "lays", "(IJJ)V"⟩, 41) := ⟨⟨by decide +kernel, by decide +kernel⟩, List.mem_of_getElem? (i := 913) (by decide +kernel), List.mem_of_getElem? (i := 1165) (by decide +kernel), List.mem_of_getElem? (i := 1166) (by decide +kernel)⟩
theorem lw_p27 : lw_okq (⟨"CranePadsModel", "sum", "(I)J"⟩, 41) := ⟨⟨by decide +kernel, by decide +kernel⟩, List.mem_of_getElem? (i := 913) (by decide +kernel), List.mem_of_getElem? (i := 1169) (by decide +kernel), List.mem_of_getElem? (i := 1170) (by decide +kernel)⟩
theorem lw_p28 : lw_okq (⟨"CranePadsModel", "moments", "(II)J"⟩, 41) := ⟨⟨by decide +kernel, by decide +kernel⟩, List.mem_of_getElem? (i := 913) (by decide +kernel), List.mem_of_getElem? (i := 1191) (by decide +kernel), List.mem_of_getElem? (i := 1192) (by decide +kernel)⟩
theorem lw_p29 : lw_okq (⟨"CranePadsModel", "momentOf", "(II)J"⟩, 41) := ⟨⟨by decide +kernel, by decide +kernel⟩, List.mem_of_getElem? (i := 913) (by decide +kernel), List.mem_of_getElem? (i := 1195) (by decide +kernel), List.mem_of_getElem? (i := 1196) (by decide +kernel)⟩
theorem lw_p30 : lw_okq (⟨"CranePadsModel", "pushes", "()I"⟩, 41) := ⟨⟨by decide +kernel, by decide +kernel⟩, List.mem_of_getElem? (i := 913) (by decide +kernel), List.mem_of_getElem? (i := 1207) (by decide +kernel), List.mem_of_getElem? (i := 1208) (by decide +kernel)⟩
theorem lw_p31 : lw_okq (⟨"CranePadsModel", "tips", "()Z"⟩, 41) := ⟨⟨by decide +kernel, by decide +kernel⟩, List.mem_of_getElem? (i := 913) (by decide +kernel), List.mem_of_getElem? (i := 1211) (by decide +kernel), List.mem_of_getElem? (i := 1212) (by decide +kernel)⟩
def lw_privs_2 : List (MethodName × Nat) := [(⟨"CranePadsModel", "x", "(I)I"⟩, 41), (⟨"CranePadsModel", "y", "(I)I"⟩, 41), (⟨"CranePadsModel", "isPartOf", "(I)Z"⟩, 41), (⟨"CranePadsModel", "placeOf", "(II)I"⟩, 41), (⟨"CranePadsModel", "isThere", "(III)Z"⟩, 41), (⟨"CranePadsModel", "goes", "(II)V"⟩, 41), (⟨"CranePadsModel", "comes", "(III)V"⟩, 41), (⟨"CranePadsModel", "readOf", "(II)I"⟩, 41), (⟨"CranePadsModel", "allowedAt", "(II)I"⟩, 41), (⟨"CranePadsModel", "looks", "()V"⟩, 41), (⟨"CranePadsModel", "lays", "(IJJ)V"⟩, 41), (⟨"CranePadsModel", "sum", "(I)J"⟩, 41), (⟨"CranePadsModel", "moments", "(II)J"⟩, 41), (⟨"CranePadsModel", "momentOf", "(II)J"⟩, 41), (⟨"CranePadsModel", "pushes", "()I"⟩, 41), (⟨"CranePadsModel", "tips", "()Z"⟩, 41)]
theorem lw_r2 : ∀ q ∈ lw_privs_2, lw_okq q := List.forall_mem_cons.mpr ⟨lw_p16, List.forall_mem_cons.mpr ⟨lw_p17, List.forall_mem_cons.mpr ⟨lw_p18, List.forall_mem_cons.mpr ⟨lw_p19, List.forall_mem_cons.mpr ⟨lw_p20, List.forall_mem_cons.mpr ⟨lw_p21, List.forall_mem_cons.mpr ⟨lw_p22, List.forall_mem_cons.mpr ⟨lw_p23, List.forall_mem_cons.mpr ⟨lw_p24, List.forall_mem_cons.mpr ⟨lw_p25, List.forall_mem_cons.mpr ⟨lw_p26, List.forall_mem_cons.mpr ⟨lw_p27, List.forall_mem_cons.mpr ⟨lw_p28, List.forall_mem_cons.mpr ⟨lw_p29, List.forall_mem_cons.mpr ⟨lw_p30, List.forall_mem_cons.mpr ⟨lw_p31, fun _ h => absurd h List.not_mem_nil⟩⟩⟩⟩⟩⟩⟩⟩⟩⟩⟩⟩⟩⟩⟩⟩
theorem lw_p32 : lw_okq (⟨"CranePadsModel", "plane", "(I)V"⟩, 41) := ⟨⟨by decide +kernel, by decide +kernel⟩, List.mem_of_getElem? (i := 913) (by decide +kernel), List.mem_of_getElem? (i := 1215) (by decide +kernel), List.mem_of_getElem? (i := 1216) (by decide +kernel)⟩
theorem lw_p33 : lw_okq (⟨"CranePadsModel", "least", "()I"⟩, 41) := ⟨⟨by decide +kernel, by decide +kernel⟩, List.mem_of_getElem? (i := 913) (by decide +kernel), List.mem_of_getElem? (i := 1222) (by decide +kernel), List.mem_of_getElem? (i := 1223) (by decide +kernel)⟩
theorem lw_p34 : lw_okq (⟨"CranePadsModel", "whyNow", "()I"⟩, 41) := ⟨⟨by decide +kernel, by decide +kernel⟩, List.mem_of_getElem? (i := 913) (by decide +kernel), List.mem_of_getElem? (i := 1238) (by decide +kernel), List.mem_of_getElem? (i := 1239) (by decide +kernel)⟩
theorem lw_p35 : lw_okq (⟨"CranePadsModel", "isAboveLimit", "()Z"⟩, 41) := ⟨⟨by decide +kernel, by decide +kernel⟩, List.mem_of_getElem? (i := 913) (by decide +kernel), List.mem_of_getElem? (i := 1242) (by decide +kernel), List.mem_of_getElem? (i := 1243) (by decide +kernel)⟩
theorem lw_p36 : lw_okq (⟨"CranePadsModel", "spareNow", "()I"⟩, 41) := ⟨⟨by decide +kernel, by decide +kernel⟩, List.mem_of_getElem? (i := 913) (by decide +kernel), List.mem_of_getElem? (i := 1246) (by decide +kernel), List.mem_of_getElem? (i := 1247) (by decide +kernel)⟩
theorem lw_p37 : lw_okq (⟨"CranePadsModel", "may", "()Z"⟩, 41) := ⟨⟨by decide +kernel, by decide +kernel⟩, List.mem_of_getElem? (i := 913) (by decide +kernel), List.mem_of_getElem? (i := 1254) (by decide +kernel), List.mem_of_getElem? (i := 1255) (by decide +kernel)⟩
theorem lw_p38 : lw_okq (⟨"CranePadsModel", "mayAt", "(II)Z"⟩, 41) := ⟨⟨by decide +kernel, by decide +kernel⟩, List.mem_of_getElem? (i := 913) (by decide +kernel), List.mem_of_getElem? (i := 1262) (by decide +kernel), List.mem_of_getElem? (i := 1263) (by decide +kernel)⟩
theorem lw_p39 : lw_okq (⟨"CranePadsModel", "comesTo", "(III)V"⟩, 41) := ⟨⟨by decide +kernel, by decide +kernel⟩, List.mem_of_getElem? (i := 913) (by decide +kernel), List.mem_of_getElem? (i := 1274) (by decide +kernel), List.mem_of_getElem? (i := 1275) (by decide +kernel)⟩
theorem lw_p40 : lw_okq (⟨"CranePadsModel", "reads", "()I"⟩, 41) := ⟨⟨by decide +kernel, by decide +kernel⟩, List.mem_of_getElem? (i := 913) (by decide +kernel), List.mem_of_getElem? (i := 1294) (by decide +kernel), List.mem_of_getElem? (i := 1295) (by decide +kernel)⟩
theorem lw_p41 : lw_okq (⟨"CranePadsModel", "readStep", "(I)I"⟩, 41) := ⟨⟨by decide +kernel, by decide +kernel⟩, List.mem_of_getElem? (i := 913) (by decide +kernel), List.mem_of_getElem? (i := 1298) (by decide +kernel), List.mem_of_getElem? (i := 1299) (by decide +kernel)⟩
theorem lw_p42 : lw_okq (⟨"CranePadsModel", "here", "()I"⟩, 41) := ⟨⟨by decide +kernel, by decide +kernel⟩, List.mem_of_getElem? (i := 913) (by decide +kernel), List.mem_of_getElem? (i := 1302) (by decide +kernel), List.mem_of_getElem? (i := 1303) (by decide +kernel)⟩
theorem lw_p43 : lw_okq (⟨"CranePadsModel", "isWord", "(ILjava/lang/String;)Z"⟩, 41) := ⟨⟨by decide +kernel, by decide +kernel⟩, List.mem_of_getElem? (i := 913) (by decide +kernel), List.mem_of_getElem? (i := 1314) (by decide +kernel), List.mem_of_getElem? (i := 1315) (by decide +kernel)⟩
theorem lw_p44 : lw_okq (⟨"CranePadsModel", "checks", "()V"⟩, 41) := ⟨⟨by decide +kernel, by decide +kernel⟩, List.mem_of_getElem? (i := 913) (by decide +kernel), List.mem_of_getElem? (i := 1327) (by decide +kernel), List.mem_of_getElem? (i := 1328) (by decide +kernel)⟩
theorem lw_p45 : lw_okq (⟨"CranePadsModel", "remembers", "()V"⟩, 41) := ⟨⟨by decide +kernel, by decide +kernel⟩, List.mem_of_getElem? (i := 913) (by decide +kernel), List.mem_of_getElem? (i := 1331) (by decide +kernel), List.mem_of_getElem? (i := 1332) (by decide +kernel)⟩
theorem lw_p46 : lw_okq (⟨"CranePadsModel", "goesAll", "()V"⟩, 41) := ⟨⟨by decide +kernel, by decide +kernel⟩, List.mem_of_getElem? (i := 913) (by decide +kernel), List.mem_of_getElem? (i := 1335) (by decide +kernel), List.mem_of_getElem? (i := 1336) (by decide +kernel)⟩
theorem lw_p47 : lw_okq (⟨"CranePadsModel", "begins", "()V"⟩, 41) := ⟨⟨by decide +kernel, by decide +kernel⟩, List.mem_of_getElem? (i := 913) (by decide +kernel), List.mem_of_getElem? (i := 1339) (by decide +kernel), List.mem_of_getElem? (i := 1340) (by decide +kernel)⟩
def lw_privs_3 : List (MethodName × Nat) := [(⟨"CranePadsModel", "plane", "(I)V"⟩, 41), (⟨"CranePadsModel", "least", "()I"⟩, 41), (⟨"CranePadsModel", "whyNow", "()I"⟩, 41), (⟨"CranePadsModel", "isAboveLimit", "()Z"⟩, 41), (⟨"CranePadsModel", "spareNow", "()I"⟩, 41), (⟨"CranePadsModel", "may", "()Z"⟩, 41), (⟨"CranePadsModel", "mayAt", "(II)Z"⟩, 41), (⟨"CranePadsModel", "comesTo", "(III)V"⟩, 41), (⟨"CranePadsModel", "reads", "()I"⟩, 41), (⟨"CranePadsModel", "readStep", "(I)I"⟩, 41), (⟨"CranePadsModel", "here", "()I"⟩, 41), (⟨"CranePadsModel", "isWord", "(ILjava/lang/String;)Z"⟩, 41), (⟨"CranePadsModel", "checks", "()V"⟩, 41), (⟨"CranePadsModel", "remembers", "()V"⟩, 41), (⟨"CranePadsModel", "goesAll", "()V"⟩, 41), (⟨"CranePadsModel", "begins", "()V"⟩, 41)]
theorem lw_r3 : ∀ q ∈ lw_privs_3, lw_okq q := List.forall_mem_cons.mpr ⟨lw_p32, List.forall_mem_cons.mpr ⟨lw_p33, List.forall_mem_cons.mpr ⟨lw_p34, List.forall_mem_cons.mpr ⟨lw_p35, List.forall_mem_cons.mpr ⟨lw_p36, List.forall_mem_cons.mpr ⟨lw_p37, List.forall_mem_cons.mpr ⟨lw_p38, List.forall_mem_cons.mpr ⟨lw_p39, List.forall_mem_cons.mpr ⟨lw_p40, List.forall_mem_cons.mpr ⟨lw_p41, List.forall_mem_cons.mpr ⟨lw_p42, List.forall_mem_cons.mpr ⟨lw_p43, List.forall_mem_cons.mpr ⟨lw_p44, List.forall_mem_cons.mpr ⟨lw_p45, List.forall_mem_cons.mpr ⟨lw_p46, List.forall_mem_cons.mpr ⟨lw_p47, fun _ h => absurd h List.not_mem_nil⟩⟩⟩⟩⟩⟩⟩⟩⟩⟩⟩⟩⟩⟩⟩⟩
theorem lw_p48 : lw_okq (⟨"CranePadsModel", "looksAt", "(I)V"⟩, 41) := ⟨⟨by decide +kernel, by decide +kernel⟩, List.mem_of_getElem? (i := 913) (by decide +kernel), List.mem_of_getElem? (i := 1343) (by decide +kernel), List.mem_of_getElem? (i := 1344) (by decide +kernel)⟩
theorem lw_p49 : lw_okq (⟨"CranePadsModel", "goesStep", "(I)V"⟩, 41) := ⟨⟨by decide +kernel, by decide +kernel⟩, List.mem_of_getElem? (i := 913) (by decide +kernel), List.mem_of_getElem? (i := 1348) (by decide +kernel), List.mem_of_getElem? (i := 1349) (by decide +kernel)⟩
theorem lw_p50 : lw_okq (⟨"CranePadsModel", "slews", "(II)V"⟩, 41) := ⟨⟨by decide +kernel, by decide +kernel⟩, List.mem_of_getElem? (i := 913) (by decide +kernel), List.mem_of_getElem? (i := 1352) (by decide +kernel), List.mem_of_getElem? (i := 1353) (by decide +kernel)⟩
theorem lw_p51 : lw_okq (⟨"CranePadsModel", "reaches", "(II)V"⟩, 41) := ⟨⟨by decide +kernel, by decide +kernel⟩, List.mem_of_getElem? (i := 913) (by decide +kernel), List.mem_of_getElem? (i := 1356) (by decide +kernel), List.mem_of_getElem? (i := 1357) (by decide +kernel)⟩
theorem lw_p52 : lw_okq (⟨"CranePadsModel", "returns", "()V"⟩, 41) := ⟨⟨by decide +kernel, by decide +kernel⟩, List.mem_of_getElem? (i := 913) (by decide +kernel), List.mem_of_getElem? (i := 1360) (by decide +kernel), List.mem_of_getElem? (i := 1361) (by decide +kernel)⟩
theorem lw_p53 : lw_okq (⟨"CranePadsModel", "isSeen", "(I)Z"⟩, 41) := ⟨⟨by decide +kernel, by decide +kernel⟩, List.mem_of_getElem? (i := 913) (by decide +kernel), List.mem_of_getElem? (i := 1384) (by decide +kernel), List.mem_of_getElem? (i := 1385) (by decide +kernel)⟩
theorem lw_p54 : lw_okq (⟨"CranePadsModel", "mayLift", "(I)Z"⟩, 41) := ⟨⟨by decide +kernel, by decide +kernel⟩, List.mem_of_getElem? (i := 913) (by decide +kernel), List.mem_of_getElem? (i := 1412) (by decide +kernel), List.mem_of_getElem? (i := 1413) (by decide +kernel)⟩
def lw_privs_4 : List (MethodName × Nat) := [(⟨"CranePadsModel", "looksAt", "(I)V"⟩, 41), (⟨"CranePadsModel", "goesStep", "(I)V"⟩, 41), (⟨"CranePadsModel", "slews", "(II)V"⟩, 41), (⟨"CranePadsModel", "reaches", "(II)V"⟩, 41), (⟨"CranePadsModel", "returns", "()V"⟩, 41), (⟨"CranePadsModel", "isSeen", "(I)Z"⟩, 41), (⟨"CranePadsModel", "mayLift", "(I)Z"⟩, 41)]
theorem lw_r4 : ∀ q ∈ lw_privs_4, lw_okq q := List.forall_mem_cons.mpr ⟨lw_p48, List.forall_mem_cons.mpr ⟨lw_p49, List.forall_mem_cons.mpr ⟨lw_p50, List.forall_mem_cons.mpr ⟨lw_p51, List.forall_mem_cons.mpr ⟨lw_p52, List.forall_mem_cons.mpr ⟨lw_p53, List.forall_mem_cons.mpr ⟨lw_p54, fun _ h => absurd h List.not_mem_nil⟩⟩⟩⟩⟩⟩⟩
def lw_privs : List (MethodName × Nat) := lw_privs_1 ++ (lw_privs_2 ++ (lw_privs_3 ++ (lw_privs_4)))
def lw_tbl : List Cond := k2_sels lw_privs ++ tables_1
theorem lw_privs_ok : ∀ q ∈ lw_privs, lw_okq q := by
  show ∀ q ∈ lw_privs_1 ++ (lw_privs_2 ++ (lw_privs_3 ++ (lw_privs_4))), lw_okq q
  exact List.forall_mem_append.mpr ⟨lw_r1, List.forall_mem_append.mpr ⟨lw_r2, List.forall_mem_append.mpr ⟨lw_r3, lw_r4⟩⟩⟩
end
section

/-! ===== BEGIN printed: names, fields, word lists, decode rows ===== -/
def RX0 : String := "CranePads$Book"
def TX0 : u_T := fun k => match k with
  | 0 => ("CranePads$Book", "load", "[I", true)
  | 1 => ("CranePads$Book", "direction", "[I", true)
  | 2 => ("CranePads$Book", "reach", "[I", true)
  | _ => ("CranePads$Book", "size", "I", false)
def tyX0 : Nat → FieldType := fun k => match k with
  | 0 => .array .int
  | 1 => .array .int
  | 2 => .array .int
  | _ => .int
abbrev wsX00 : List Cond := u_ws RX0 TX0 4
theorem nmX0 : ∀ a, a < 4 → ∀ b, b < 4 → a ≠ b → (TX0 a).2.1 ≠ (TX0 b).2.1 := by decide +kernel
theorem tyX0_ok : ∀ k, k < 4 → parseFieldDescriptor (TX0 k).2.2.1 = some (tyX0 k) := by decide +kernel
abbrev cX0_init : ByteArray := prog_2_method_1_code
def yX0_init : MethodName := ⟨RX0, "<init>", "()V"⟩
abbrev cX0_keep : ByteArray := prog_2_method_2_code
def yX0_keep : MethodName := ⟨RX0, "keep", "(III)I"⟩
abbrev cX0_dropEldest : ByteArray := prog_2_method_3_code
def yX0_dropEldest : MethodName := ⟨RX0, "dropEldest", "()V"⟩
abbrev cX0_withMost : ByteArray := prog_2_method_4_code
def yX0_withMost : MethodName := ⟨RX0, "withMost", "()I"⟩
def RX1 : String := "CranePads$Chart"
def TX1 : u_T := fun k => match k with
  | 0 => ("CranePads$Chart", "said", "[I", true)
  | _ => ("CranePads$Chart", "size", "I", false)
def tyX1 : Nat → FieldType := fun k => match k with
  | 0 => .array .int
  | _ => .int
abbrev wsX10 : List Cond := u_ws RX1 TX1 2
theorem nmX1 : ∀ a, a < 2 → ∀ b, b < 2 → a ≠ b → (TX1 a).2.1 ≠ (TX1 b).2.1 := by decide +kernel
theorem tyX1_ok : ∀ k, k < 2 → parseFieldDescriptor (TX1 k).2.2.1 = some (tyX1 k) := by decide +kernel
abbrev cX1_init : ByteArray := prog_3_method_1_code
def yX1_init : MethodName := ⟨RX1, "<init>", "()V"⟩
abbrev cX1_has : ByteArray := prog_3_method_2_code
def yX1_has : MethodName := ⟨RX1, "has", "(I)Z"⟩
abbrev cX1_write : ByteArray := prog_3_method_3_code
def yX1_write : MethodName := ⟨RX1, "write", "(II)V"⟩
abbrev cX1_at : ByteArray := prog_3_method_4_code
def yX1_at : MethodName := ⟨RX1, "at", "(I)I"⟩
abbrev cX1_readAs : ByteArray := prog_3_method_5_code
def yX1_readAs : MethodName := ⟨RX1, "readAs", "(LCranePads$Chart;)V"⟩
def RX2 : String := "CranePads$Crane"
def TX2 : u_T := fun k => match k with
  | 0 => ("CranePads$Crane", "pads", "LCranePads$Pads;", true)
  | 1 => ("CranePads$Crane", "parts", "LCranePads$Parts;", true)
  | 2 => ("CranePads$Crane", "charts", "[LCranePads$Chart;", true)
  | _ => ("CranePads$Crane", "dials", "[I", true)
def tyX2 : Nat → FieldType := fun k => match k with
  | 0 => .object "CranePads$Pads"
  | 1 => .object "CranePads$Parts"
  | 2 => .array (.object "CranePads$Chart")
  | _ => .array .int
abbrev wsX20 : List Cond := u_ws RX2 TX2 4
theorem nmX2 : ∀ a, a < 4 → ∀ b, b < 4 → a ≠ b → (TX2 a).2.1 ≠ (TX2 b).2.1 := by decide +kernel
theorem tyX2_ok : ∀ k, k < 4 → parseFieldDescriptor (TX2 k).2.2.1 = some (tyX2 k) := by decide +kernel
abbrev cX2_init : ByteArray := prog_4_method_1_code
def yX2_init : MethodName := ⟨RX2, "<init>", "()V"⟩
abbrev cX2_become : ByteArray := prog_4_method_2_code
def yX2_become : MethodName := ⟨RX2, "become", "(LCranePads$Crane;)V"⟩
abbrev cX2_hanging : ByteArray := prog_4_method_3_code
def yX2_hanging : MethodName := ⟨RX2, "hanging", "()I"⟩
abbrev cX2_wholeMass : ByteArray := prog_4_method_4_code
def yX2_wholeMass : MethodName := ⟨RX2, "wholeMass", "()I"⟩
abbrev cX2_mayHang : ByteArray := prog_4_method_5_code
def yX2_mayHang : MethodName := ⟨RX2, "mayHang", "(II)I"⟩
abbrev cX2_room : ByteArray := prog_4_method_6_code
def yX2_room : MethodName := ⟨RX2, "room", "()I"⟩
abbrev cX2_approach : ByteArray := prog_4_method_7_code
def yX2_approach : MethodName := ⟨RX2, "approach", "(II)V"⟩
def RX3 : String := "CranePads$Judge"
def TX3 : u_T := fun k => match k with
  | 0 => ("CranePads$Judge", "w", "J", false)
  | 1 => ("CranePads$Judge", "mx", "J", false)
  | 2 => ("CranePads$Judge", "my", "J", false)
  | 3 => ("CranePads$Judge", "share", "[J", true)
  | 4 => ("CranePads$Judge", "below", "J", false)
  | 5 => ("CranePads$Judge", "inTheAir", "I", false)
  | 6 => ("CranePads$Judge", "holding", "J", false)
  | _ => ("CranePads$Judge", "tipping", "J", false)
def tyX3 : Nat → FieldType := fun k => match k with
  | 0 => .long
  | 1 => .long
  | 2 => .long
  | 3 => .array .long
  | 4 => .long
  | 5 => .int
  | 6 => .long
  | _ => .long
abbrev wsX30 : List Cond := u_ws RX3 TX3 8
theorem nmX3 : ∀ a, a < 8 → ∀ b, b < 8 → a ≠ b → (TX3 a).2.1 ≠ (TX3 b).2.1 := by decide +kernel
theorem tyX3_ok : ∀ k, k < 8 → parseFieldDescriptor (TX3 k).2.2.1 = some (tyX3 k) := by decide +kernel
abbrev cX3_init : ByteArray := prog_5_method_1_code
def yX3_init : MethodName := ⟨RX3, "<init>", "()V"⟩
abbrev cX3_verdict : ByteArray := prog_5_method_2_code
def yX3_verdict : MethodName := ⟨RX3, "verdict", "(LCranePads$Crane;)I"⟩
abbrev cX3_finds : ByteArray := prog_5_method_3_code
def yX3_finds : MethodName := ⟨RX3, "finds", "(LCranePads$Crane;)Z"⟩
abbrev cX3_lawfulDirections : ByteArray := prog_5_method_4_code
def yX3_lawfulDirections : MethodName := ⟨RX3, "lawfulDirections", "(LCranePads$Crane;I)I"⟩
abbrev cX3_gather : ByteArray := prog_5_method_5_code
def yX3_gather : MethodName := ⟨RX3, "gather", "(LCranePads$Crane;)V"⟩
abbrev cX3_about : ByteArray := prog_5_method_6_code
def yX3_about : MethodName := ⟨RX3, "about", "(LCranePads$Pads;II)J"⟩
abbrev cX3_sharesAre : ByteArray := prog_5_method_7_code
def yX3_sharesAre : MethodName := ⟨RX3, "sharesAre", "([JI)Z"⟩
abbrev cX3_wholeShare : ByteArray := prog_5_method_8_code
def yX3_wholeShare : MethodName := ⟨RX3, "wholeShare", "(I)J"⟩
abbrev cX3_splitMoments : ByteArray := prog_5_method_9_code
def yX3_splitMoments : MethodName := ⟨RX3, "splitMoments", "(LCranePads$Crane;I)V"⟩
abbrev cX3_addMoment : ByteArray := prog_5_method_10_code
def yX3_addMoment : MethodName := ⟨RX3, "addMoment", "(LCranePads$Pads;IIJJ)V"⟩
abbrev cX3_tipsOver : ByteArray := prog_5_method_11_code
def yX3_tipsOver : MethodName := ⟨RX3, "tipsOver", "(LCranePads$Pads;)Z"⟩
abbrev cX3_isOverLimit : ByteArray := prog_5_method_12_code
def yX3_isOverLimit : MethodName := ⟨RX3, "isOverLimit", "(LCranePads$Pads;)Z"⟩
abbrev cX3_lowestBelowNothing : ByteArray := prog_5_method_13_code
def yX3_lowestBelowNothing : MethodName := ⟨RX3, "lowestBelowNothing", "()I"⟩
abbrev cX3_shareByPlane : ByteArray := prog_5_method_14_code
def yX3_shareByPlane : MethodName := ⟨RX3, "shareByPlane", "(LCranePads$Pads;)V"⟩
abbrev cX3_shareByThree : ByteArray := prog_5_method_15_code
def yX3_shareByThree : MethodName := ⟨RX3, "shareByThree", "(LCranePads$Pads;I)Z"⟩
def RX4 : String := "CranePads$Pads"
def TX4 : u_T := fun k => match k with
  | 0 => ("CranePads$Pads", "x", "[I", true)
  | 1 => ("CranePads$Pads", "y", "[I", true)
  | 2 => ("CranePads$Pads", "limit", "[I", true)
  | 3 => ("CranePads$Pads", "standing", "Z", false)
  | 4 => ("CranePads$Pads", "one", "J", false)
  | 5 => ("CranePads$Pads", "oneX", "J", false)
  | 6 => ("CranePads$Pads", "oneY", "J", false)
  | 7 => ("CranePads$Pads", "xx", "J", false)
  | 8 => ("CranePads$Pads", "xy", "J", false)
  | 9 => ("CranePads$Pads", "yy", "J", false)
  | _ => ("CranePads$Pads", "determinant", "J", false)
def tyX4 : Nat → FieldType := fun k => match k with
  | 0 => .array .int
  | 1 => .array .int
  | 2 => .array .int
  | 3 => .boolean
  | 4 => .long
  | 5 => .long
  | 6 => .long
  | 7 => .long
  | 8 => .long
  | 9 => .long
  | _ => .long
abbrev wsX40 : List Cond := u_ws RX4 TX4 11
theorem nmX4 : ∀ a, a < 11 → ∀ b, b < 11 → a ≠ b → (TX4 a).2.1 ≠ (TX4 b).2.1 := by decide +kernel
theorem tyX4_ok : ∀ k, k < 11 → parseFieldDescriptor (TX4 k).2.2.1 = some (tyX4 k) := by decide +kernel
abbrev cX4_init : ByteArray := prog_6_method_1_code
def yX4_init : MethodName := ⟨RX4, "<init>", "()V"⟩
abbrev cX4_place : ByteArray := prog_6_method_2_code
def yX4_place : MethodName := ⟨RX4, "place", "(IIII)V"⟩
abbrev cX4_placeAs : ByteArray := prog_6_method_3_code
def yX4_placeAs : MethodName := ⟨RX4, "placeAs", "(LCranePads$Pads;)V"⟩
abbrev cX4_span : ByteArray := prog_6_method_4_code
def yX4_span : MethodName := ⟨RX4, "span", "(I)J"⟩
abbrev cX4_measure : ByteArray := prog_6_method_5_code
def yX4_measure : MethodName := ⟨RX4, "measure", "()V"⟩
def RX5 : String := "CranePads$Parts"
def TX5 : u_T := fun k => match k with
  | 0 => ("CranePads$Parts", "mass", "[I", true)
  | 1 => ("CranePads$Parts", "a", "[I", true)
  | 2 => ("CranePads$Parts", "b", "[I", true)
  | 3 => ("CranePads$Parts", "turning", "[Z", true)
  | 4 => ("CranePads$Parts", "size", "I", false)
  | 5 => ("CranePads$Parts", "total", "I", false)
  | 6 => ("CranePads$Parts", "stayA", "I", false)
  | 7 => ("CranePads$Parts", "stayB", "I", false)
  | 8 => ("CranePads$Parts", "turnA", "I", false)
  | _ => ("CranePads$Parts", "turnB", "I", false)
def tyX5 : Nat → FieldType := fun k => match k with
  | 0 => .array .int
  | 1 => .array .int
  | 2 => .array .int
  | 3 => .array .boolean
  | 4 => .int
  | 5 => .int
  | 6 => .int
  | 7 => .int
  | 8 => .int
  | _ => .int
abbrev wsX50 : List Cond := u_ws RX5 TX5 10
theorem nmX5 : ∀ a, a < 10 → ∀ b, b < 10 → a ≠ b → (TX5 a).2.1 ≠ (TX5 b).2.1 := by decide +kernel
theorem tyX5_ok : ∀ k, k < 10 → parseFieldDescriptor (TX5 k).2.2.1 = some (tyX5 k) := by decide +kernel
abbrev cX5_init : ByteArray := prog_7_method_1_code
def yX5_init : MethodName := ⟨RX5, "<init>", "()V"⟩
abbrev cX5_has : ByteArray := prog_7_method_2_code
def yX5_has : MethodName := ⟨RX5, "has", "(I)Z"⟩
abbrev cX5_append : ByteArray := prog_7_method_3_code
def yX5_append : MethodName := ⟨RX5, "append", "(IIIZ)I"⟩
abbrev cX5_reweigh : ByteArray := prog_7_method_4_code
def yX5_reweigh : MethodName := ⟨RX5, "reweigh", "(II)V"⟩
abbrev cX5_weighAs : ByteArray := prog_7_method_5_code
def yX5_weighAs : MethodName := ⟨RX5, "weighAs", "(LCranePads$Parts;)V"⟩
def RX6 : String := "CranePads$Plan"
def TX6 : u_T := fun k => match k with
  | 0 => ("CranePads$Plan", "dial", "[I", true)
  | 1 => ("CranePads$Plan", "goal", "[I", true)
  | _ => ("CranePads$Plan", "size", "I", false)
def tyX6 : Nat → FieldType := fun k => match k with
  | 0 => .array .int
  | 1 => .array .int
  | _ => .int
abbrev wsX60 : List Cond := u_ws RX6 TX6 3
theorem nmX6 : ∀ a, a < 3 → ∀ b, b < 3 → a ≠ b → (TX6 a).2.1 ≠ (TX6 b).2.1 := by decide +kernel
theorem tyX6_ok : ∀ k, k < 3 → parseFieldDescriptor (TX6 k).2.2.1 = some (tyX6 k) := by decide +kernel
abbrev cX6_init : ByteArray := prog_8_method_1_code
def yX6_init : MethodName := ⟨RX6, "<init>", "()V"⟩
abbrev cX6_append : ByteArray := prog_8_method_2_code
def yX6_append : MethodName := ⟨RX6, "append", "(II)V"⟩
abbrev cX6_become : ByteArray := prog_8_method_3_code
def yX6_become : MethodName := ⟨RX6, "become", "(LCranePads$Plan;)V"⟩
abbrev cX6_onlyMoves : ByteArray := prog_8_method_4_code
def yX6_onlyMoves : MethodName := ⟨RX6, "onlyMoves", "()Z"⟩
abbrev cX6_isMove : ByteArray := prog_8_method_5_code
def yX6_isMove : MethodName := ⟨RX6, "isMove", "(I)Z"⟩
abbrev cX6_turnBack : ByteArray := prog_8_method_6_code
def yX6_turnBack : MethodName := ⟨RX6, "turnBack", "(LCranePads$Plan;LCranePads$Crane;)V"⟩
def RX7 : String := "CranePads$Route"
def TX7 : u_T := fun k => match k with
  | 0 => ("CranePads$Route", "lawful", "[I", true)
  | 1 => ("CranePads$Route", "reached", "[I", true)
  | _ => ("CranePads$Route", "grown", "[I", true)
def tyX7 : Nat → FieldType := fun k => match k with
  | 0 => .array .int
  | 1 => .array .int
  | _ => .array .int
abbrev wsX70 : List Cond := u_ws RX7 TX7 3
theorem nmX7 : ∀ a, a < 3 → ∀ b, b < 3 → a ≠ b → (TX7 a).2.1 ≠ (TX7 b).2.1 := by decide +kernel
theorem tyX7_ok : ∀ k, k < 3 → parseFieldDescriptor (TX7 k).2.2.1 = some (tyX7 k) := by decide +kernel
abbrev cX7_init : ByteArray := prog_9_method_1_code
def yX7_init : MethodName := ⟨RX7, "<init>", "()V"⟩
abbrev cX7_begin : ByteArray := prog_9_method_2_code
def yX7_begin : MethodName := ⟨RX7, "begin", "(II)V"⟩
abbrev cX7_movesTo : ByteArray := prog_9_method_3_code
def yX7_movesTo : MethodName := ⟨RX7, "movesTo", "(II)I"⟩
abbrev cX7_spread : ByteArray := prog_9_method_4_code
def yX7_spread : MethodName := ⟨RX7, "spread", "()Z"⟩
def RX8 : String := "CranePads$Rows"
def TX8 : u_T := fun k => match k with
  | 0 => ("CranePads$Rows", "row", "[[J", true)
  | _ => ("CranePads$Rows", "length", "[I", true)
def tyX8 : Nat → FieldType := fun k => match k with
  | 0 => .array (.array .long)
  | _ => .array .int
abbrev wsX80 : List Cond := u_ws RX8 TX8 2
theorem nmX8 : ∀ a, a < 2 → ∀ b, b < 2 → a ≠ b → (TX8 a).2.1 ≠ (TX8 b).2.1 := by decide +kernel
theorem tyX8_ok : ∀ k, k < 2 → parseFieldDescriptor (TX8 k).2.2.1 = some (tyX8 k) := by decide +kernel
abbrev cX8_init : ByteArray := prog_10_method_1_code
def yX8_init : MethodName := ⟨RX8, "<init>", "()V"⟩
abbrev cX8_holds : ByteArray := prog_10_method_2_code
def yX8_holds : MethodName := ⟨RX8, "holds", "(I)Z"⟩
abbrev cX8_hasPlace : ByteArray := prog_10_method_3_code
def yX8_hasPlace : MethodName := ⟨RX8, "hasPlace", "(II)Z"⟩
abbrev cX8_begin : ByteArray := prog_10_method_4_code
def yX8_begin : MethodName := ⟨RX8, "begin", "(II)V"⟩
def RX9 : String := "CranePads$Tape"
def TX9 : u_T := fun k => match k with
  | 0 => ("CranePads$Tape", "bytes", "[B", true)
  | 1 => ("CranePads$Tape", "size", "I", false)
  | _ => ("CranePads$Tape", "at", "I", false)
def tyX9 : Nat → FieldType := fun k => match k with
  | 0 => .array .byte
  | 1 => .int
  | _ => .int
abbrev wsX90 : List Cond := u_ws RX9 TX9 3
theorem nmX9 : ∀ a, a < 3 → ∀ b, b < 3 → a ≠ b → (TX9 a).2.1 ≠ (TX9 b).2.1 := by decide +kernel
theorem tyX9_ok : ∀ k, k < 3 → parseFieldDescriptor (TX9 k).2.2.1 = some (tyX9 k) := by decide +kernel
abbrev cX9_init : ByteArray := prog_11_method_1_code
def yX9_init : MethodName := ⟨RX9, "<init>", "()V"⟩
abbrev cX9_append : ByteArray := prog_11_method_2_code
def yX9_append : MethodName := ⟨RX9, "append", "(I)I"⟩
abbrev cX9_readInto : ByteArray := prog_11_method_3_code
def yX9_readInto : MethodName := ⟨RX9, "readInto", "(LCranePads$Plan;)I"⟩
abbrev cX9_readStep : ByteArray := prog_11_method_4_code
def yX9_readStep : MethodName := ⟨RX9, "readStep", "(LCranePads$Plan;)I"⟩
abbrev cX9_readNumber : ByteArray := prog_11_method_5_code
def yX9_readNumber : MethodName := ⟨RX9, "readNumber", "(LCranePads$Plan;I)I"⟩
abbrev cX9_dialOfWord : ByteArray := prog_11_method_6_code
def yX9_dialOfWord : MethodName := ⟨RX9, "dialOfWord", "(I)I"⟩
abbrev cX9_spells : ByteArray := prog_11_method_7_code
def yX9_spells : MethodName := ⟨RX9, "spells", "(ILjava/lang/String;)Z"⟩
def RX10 : String := "CranePads$Walk"
def TX10 : u_T := fun k => match k with
  | 0 => ("CranePads$Walk", "moments", "I", false)
  | 1 => ("CranePads$Walk", "firstUnlawful", "I", false)
  | 2 => ("CranePads$Walk", "unlawfulStep", "I", false)
  | 3 => ("CranePads$Walk", "reason", "I", false)
  | _ => ("CranePads$Walk", "leastSpare", "I", false)
def tyX10 : Nat → FieldType := fun k => match k with
  | 0 => .int
  | 1 => .int
  | 2 => .int
  | 3 => .int
  | _ => .int
abbrev wsX100 : List Cond := u_ws RX10 TX10 5
theorem nmX10 : ∀ a, a < 5 → ∀ b, b < 5 → a ≠ b → (TX10 a).2.1 ≠ (TX10 b).2.1 := by decide +kernel
theorem tyX10_ok : ∀ k, k < 5 → parseFieldDescriptor (TX10 k).2.2.1 = some (tyX10 k) := by decide +kernel
abbrev cX10_init : ByteArray := prog_12_method_1_code
def yX10_init : MethodName := ⟨RX10, "<init>", "()V"⟩
abbrev cX10_go : ByteArray := prog_12_method_2_code
def yX10_go : MethodName := ⟨RX10, "go", "(LCranePads$Plan;LCranePads$Crane;LCranePads$Judge;)V"⟩
abbrev cX10_meet : ByteArray := prog_12_method_3_code
def yX10_meet : MethodName := ⟨RX10, "meet", "(ILCranePads$Crane;LCranePads$Judge;)V"⟩
def RX11 : String := "CranePads"
def TX11 : u_T := fun k => match k with
  | 0 => ("CranePads", "now", "LCranePads$Crane;", true)
  | 1 => ("CranePads", "kept", "LCranePads$Crane;", true)
  | 2 => ("CranePads", "draft", "LCranePads$Crane;", true)
  | 3 => ("CranePads", "judge", "LCranePads$Judge;", true)
  | 4 => ("CranePads", "route", "LCranePads$Route;", true)
  | 5 => ("CranePads", "tape", "LCranePads$Tape;", true)
  | 6 => ("CranePads", "thePlan", "LCranePads$Plan;", true)
  | 7 => ("CranePads", "otherPlan", "LCranePads$Plan;", true)
  | 8 => ("CranePads", "walk", "LCranePads$Walk;", true)
  | 9 => ("CranePads", "lifts", "LCranePads$Book;", true)
  | 10 => ("CranePads", "rows", "LCranePads$Rows;", true)
  | _ => ("CranePads", "imageTaken", "Z", false)
def tyX11 : Nat → FieldType := fun k => match k with
  | 0 => .object "CranePads$Crane"
  | 1 => .object "CranePads$Crane"
  | 2 => .object "CranePads$Crane"
  | 3 => .object "CranePads$Judge"
  | 4 => .object "CranePads$Route"
  | 5 => .object "CranePads$Tape"
  | 6 => .object "CranePads$Plan"
  | 7 => .object "CranePads$Plan"
  | 8 => .object "CranePads$Walk"
  | 9 => .object "CranePads$Book"
  | 10 => .object "CranePads$Rows"
  | _ => .boolean
abbrev wsX110 : List Cond := u_ws RX11 TX11 12
theorem nmX11 : ∀ a, a < 12 → ∀ b, b < 12 → a ≠ b → (TX11 a).2.1 ≠ (TX11 b).2.1 := by decide +kernel
theorem tyX11_ok : ∀ k, k < 12 → parseFieldDescriptor (TX11 k).2.2.1 = some (tyX11 k) := by decide +kernel
abbrev cX11_init : ByteArray := prog_1_method_1_code
def yX11_init : MethodName := ⟨RX11, "<init>", "()V"⟩
abbrev cX11_pad : ByteArray := prog_1_method_2_code
def yX11_pad : MethodName := ⟨RX11, "pad", "(IIII)I"⟩
abbrev cX11_part : ByteArray := prog_1_method_3_code
def yX11_part : MethodName := ⟨RX11, "part", "(IIIZ)I"⟩
abbrev cX11_mass : ByteArray := prog_1_method_4_code
def yX11_mass : MethodName := ⟨RX11, "mass", "(II)I"⟩
abbrev cX11_put : ByteArray := prog_1_method_5_code
def yX11_put : MethodName := ⟨RX11, "put", "(II)I"⟩
abbrev cX11_told : ByteArray := prog_1_method_6_code
def yX11_told : MethodName := ⟨RX11, "told", "(I)I"⟩
abbrev cX11_padOf : ByteArray := prog_1_method_7_code
def yX11_padOf : MethodName := ⟨RX11, "padOf", "(II)J"⟩
abbrev cX11_entry : ByteArray := prog_1_method_8_code
def yX11_entry : MethodName := ⟨RX11, "entry", "(III)I"⟩
abbrev cX11_read : ByteArray := prog_1_method_9_code
def yX11_read : MethodName := ⟨RX11, "read", "(II)I"⟩
abbrev cX11_allowed : ByteArray := prog_1_method_10_code
def yX11_allowed : MethodName := ⟨RX11, "allowed", "(II)I"⟩
abbrev cX11_weight : ByteArray := prog_1_method_11_code
def yX11_weight : MethodName := ⟨RX11, "weight", "()I"⟩
abbrev cX11_centre : ByteArray := prog_1_method_12_code
def yX11_centre : MethodName := ⟨RX11, "centre", "(II)J"⟩
abbrev cX11_moment : ByteArray := prog_1_method_13_code
def yX11_moment : MethodName := ⟨RX11, "moment", "(II)J"⟩
abbrev cX11_factor : ByteArray := prog_1_method_14_code
def yX11_factor : MethodName := ⟨RX11, "factor", "(II)J"⟩
abbrev cX11_push : ByteArray := prog_1_method_15_code
def yX11_push : MethodName := ⟨RX11, "push", "(II)J"⟩
abbrev cX11_lifted : ByteArray := prog_1_method_16_code
def yX11_lifted : MethodName := ⟨RX11, "lifted", "()I"⟩
abbrev cX11_mat : ByteArray := prog_1_method_17_code
def yX11_mat : MethodName := ⟨RX11, "mat", "(I)I"⟩
abbrev cX11_why : ByteArray := prog_1_method_18_code
def yX11_why : MethodName := ⟨RX11, "why", "()I"⟩
abbrev cX11_most : ByteArray := prog_1_method_19_code
def yX11_most : MethodName := ⟨RX11, "most", "()I"⟩
abbrev cX11_where : ByteArray := prog_1_method_20_code
def yX11_where : MethodName := ⟨RX11, "where", "(I)I"⟩
abbrev cX11_farthest : ByteArray := prog_1_method_21_code
def yX11_farthest : MethodName := ⟨RX11, "farthest", "(I)I"⟩
abbrev cX11_way : ByteArray := prog_1_method_22_code
def yX11_way : MethodName := ⟨RX11, "way", "(II)I"⟩
abbrev cX11_ballast : ByteArray := prog_1_method_23_code
def yX11_ballast : MethodName := ⟨RX11, "ballast", "(I)I"⟩
abbrev cX11_feed : ByteArray := prog_1_method_24_code
def yX11_feed : MethodName := ⟨RX11, "feed", "(I)I"⟩
abbrev cX11_clear : ByteArray := prog_1_method_25_code
def yX11_clear : MethodName := ⟨RX11, "clear", "()I"⟩
abbrev cX11_plan : ByteArray := prog_1_method_26_code
def yX11_plan : MethodName := ⟨RX11, "plan", "()I"⟩
abbrev cX11_checked : ByteArray := prog_1_method_27_code
def yX11_checked : MethodName := ⟨RX11, "checked", "(I)I"⟩
abbrev cX11_spare : ByteArray := prog_1_method_28_code
def yX11_spare : MethodName := ⟨RX11, "spare", "()J"⟩
abbrev cX11_done : ByteArray := prog_1_method_29_code
def yX11_done : MethodName := ⟨RX11, "done", "()I"⟩
abbrev cX11_backward : ByteArray := prog_1_method_30_code
def yX11_backward : MethodName := ⟨RX11, "backward", "()I"⟩
abbrev cX11_seen : ByteArray := prog_1_method_31_code
def yX11_seen : MethodName := ⟨RX11, "seen", "(III)I"⟩
abbrev cX11_lay : ByteArray := prog_1_method_32_code
def yX11_lay : MethodName := ⟨RX11, "lay", "(II)I"⟩
abbrev cX11_book : ByteArray := prog_1_method_33_code
def yX11_book : MethodName := ⟨RX11, "book", "()I"⟩
abbrev cX11_booked : ByteArray := prog_1_method_34_code
def yX11_booked : MethodName := ⟨RX11, "booked", "(II)I"⟩
abbrev cX11_heaviest : ByteArray := prog_1_method_35_code
def yX11_heaviest : MethodName := ⟨RX11, "heaviest", "()I"⟩
abbrev cX11_list : ByteArray := prog_1_method_36_code
def yX11_list : MethodName := ⟨RX11, "list", "(II)I"⟩
abbrev cX11_set : ByteArray := prog_1_method_37_code
def yX11_set : MethodName := ⟨RX11, "set", "(IIJ)I"⟩
abbrev cX11_get : ByteArray := prog_1_method_38_code
def yX11_get : MethodName := ⟨RX11, "get", "(II)J"⟩
abbrev cX11_count : ByteArray := prog_1_method_39_code
def yX11_count : MethodName := ⟨RX11, "count", "(I)I"⟩
abbrev cX11_image : ByteArray := prog_1_method_40_code
def yX11_image : MethodName := ⟨RX11, "image", "()I"⟩
abbrev cX11_undo : ByteArray := prog_1_method_41_code
def yX11_undo : MethodName := ⟨RX11, "undo", "()I"⟩
abbrev cX11_mayBeAsBooked : ByteArray := prog_1_method_42_code
def yX11_mayBeAsBooked : MethodName := ⟨RX11, "mayBeAsBooked", "(I)Z"⟩
abbrev cX11_within : ByteArray := prog_1_method_43_code
def yX11_within : MethodName := ⟨RX11, "within", "(III)Z"⟩
abbrev cX11_isPad : ByteArray := prog_1_method_44_code
def yX11_isPad : MethodName := ⟨RX11, "isPad", "(I)Z"⟩
abbrev cX11_isChart : ByteArray := prog_1_method_45_code
def yX11_isChart : MethodName := ⟨RX11, "isChart", "(I)Z"⟩
abbrev cX11_isList : ByteArray := prog_1_method_46_code
def yX11_isList : MethodName := ⟨RX11, "isList", "(I)Z"⟩
abbrev cX11_isMass : ByteArray := prog_1_method_47_code
def yX11_isMass : MethodName := ⟨RX11, "isMass", "(I)Z"⟩
abbrev cX11_isDial : ByteArray := prog_1_method_48_code
def yX11_isDial : MethodName := ⟨RX11, "isDial", "(I)Z"⟩
abbrev cX11_fitsDial : ByteArray := prog_1_method_49_code
def yX11_fitsDial : MethodName := ⟨RX11, "fitsDial", "(II)Z"⟩
abbrev cX11_isSide : ByteArray := prog_1_method_50_code
def yX11_isSide : MethodName := ⟨RX11, "isSide", "(I)Z"⟩
abbrev cX11_next : ByteArray := prog_1_method_51_code
def yX11_next : MethodName := ⟨RX11, "next", "(I)I"⟩
abbrev cX11_inLowestTerms : ByteArray := prog_1_method_52_code
def yX11_inLowestTerms : MethodName := ⟨RX11, "inLowestTerms", "(JJI)J"⟩
abbrev cX11_commonDivisor : ByteArray := prog_1_method_53_code
def yX11_commonDivisor : MethodName := ⟨RX11, "commonDivisor", "(JJ)J"⟩
def RX12 : String := "CranePadsModel"
def TX12 : u_T := fun k => match k with
  | 0 => ("CranePadsModel", "pad", "[I", true)
  | 1 => ("CranePadsModel", "parts", "I", false)
  | 2 => ("CranePadsModel", "mass", "[I", true)
  | 3 => ("CranePadsModel", "a", "[I", true)
  | 4 => ("CranePadsModel", "b", "[I", true)
  | 5 => ("CranePadsModel", "turns", "[I", true)
  | 6 => ("CranePadsModel", "entries", "[I", true)
  | 7 => ("CranePadsModel", "at", "[I", true)
  | 8 => ("CranePadsModel", "hangs", "[I", true)
  | 9 => ("CranePadsModel", "is", "[I", true)
  | 10 => ("CranePadsModel", "imaged", "[I", true)
  | 11 => ("CranePadsModel", "hasImage", "Z", false)
  | 12 => ("CranePadsModel", "things", "I", false)
  | 13 => ("CranePadsModel", "weighs", "[I", true)
  | 14 => ("CranePadsModel", "atX", "[J", true)
  | 15 => ("CranePadsModel", "atY", "[J", true)
  | 16 => ("CranePadsModel", "push", "[J", true)
  | 17 => ("CranePadsModel", "below", "J", false)
  | 18 => ("CranePadsModel", "lifted", "I", false)
  | 19 => ("CranePadsModel", "far", "[I", true)
  | 20 => ("CranePadsModel", "queue", "[I", true)
  | 21 => ("CranePadsModel", "queued", "I", false)
  | 22 => ("CranePadsModel", "tape", "[I", true)
  | 23 => ("CranePadsModel", "taped", "I", false)
  | 24 => ("CranePadsModel", "steps", "I", false)
  | 25 => ("CranePadsModel", "step", "[I", true)
  | 26 => ("CranePadsModel", "to", "[I", true)
  | 27 => ("CranePadsModel", "readStep", "[I", true)
  | 28 => ("CranePadsModel", "readTo", "[I", true)
  | 29 => ("CranePadsModel", "place", "I", false)
  | 30 => ("CranePadsModel", "moments", "I", false)
  | 31 => ("CranePadsModel", "firstBad", "I", false)
  | 32 => ("CranePadsModel", "badStep", "I", false)
  | 33 => ("CranePadsModel", "badWhy", "I", false)
  | 34 => ("CranePadsModel", "leastSpare", "I", false)
  | 35 => ("CranePadsModel", "isBefore", "[I", true)
  | 36 => ("CranePadsModel", "begunAt", "[I", true)
  | 37 => ("CranePadsModel", "size", "[I", true)
  | 38 => ("CranePadsModel", "cell", "[J", true)
  | 39 => ("CranePadsModel", "lifts", "I", false)
  | _ => ("CranePadsModel", "lift", "[I", true)
def tyX12 : Nat → FieldType := fun k => match k with
  | 0 => .array .int
  | 1 => .int
  | 2 => .array .int
  | 3 => .array .int
  | 4 => .array .int
  | 5 => .array .int
  | 6 => .array .int
  | 7 => .array .int
  | 8 => .array .int
  | 9 => .array .int
  | 10 => .array .int
  | 11 => .boolean
  | 12 => .int
  | 13 => .array .int
  | 14 => .array .long
  | 15 => .array .long
  | 16 => .array .long
  | 17 => .long
  | 18 => .int
  | 19 => .array .int
  | 20 => .array .int
  | 21 => .int
  | 22 => .array .int
  | 23 => .int
  | 24 => .int
  | 25 => .array .int
  | 26 => .array .int
  | 27 => .array .int
  | 28 => .array .int
  | 29 => .int
  | 30 => .int
  | 31 => .int
  | 32 => .int
  | 33 => .int
  | 34 => .int
  | 35 => .array .int
  | 36 => .array .int
  | 37 => .array .int
  | 38 => .array .long
  | 39 => .int
  | _ => .array .int
abbrev wsX120 : List Cond := u_ws RX12 TX12 41
theorem nmX12 : ∀ a, a < 41 → ∀ b, b < 41 → a ≠ b → (TX12 a).2.1 ≠ (TX12 b).2.1 := by decide +kernel
theorem tyX12_ok : ∀ k, k < 41 → parseFieldDescriptor (TX12 k).2.2.1 = some (tyX12 k) := by decide +kernel
abbrev cX12_init : ByteArray := prog_14_method_1_code
def yX12_init : MethodName := ⟨RX12, "<init>", "()V"⟩
abbrev cX12_in : ByteArray := prog_14_method_2_code
def yX12_in : MethodName := ⟨RX12, "in", "(III)Z"⟩
abbrev cX12_divisor : ByteArray := prog_14_method_3_code
def yX12_divisor : MethodName := ⟨RX12, "divisor", "(JJ)J"⟩
abbrev cX12_part : ByteArray := prog_14_method_4_code
def yX12_part : MethodName := ⟨RX12, "part", "(JJI)J"⟩
abbrev cX12_isPart : ByteArray := prog_14_method_5_code
def yX12_isPart : MethodName := ⟨RX12, "isPart", "(I)Z"⟩
abbrev cX12_isPad : ByteArray := prog_14_method_6_code
def yX12_isPad : MethodName := ⟨RX12, "isPad", "(I)Z"⟩
abbrev cX12_x : ByteArray := prog_14_method_7_code
def yX12_x : MethodName := ⟨RX12, "x", "(I)I"⟩
abbrev cX12_y : ByteArray := prog_14_method_8_code
def yX12_y : MethodName := ⟨RX12, "y", "(I)I"⟩
abbrev cX12_stands : ByteArray := prog_14_method_9_code
def yX12_stands : MethodName := ⟨RX12, "stands", "()Z"⟩
abbrev cX12_pad : ByteArray := prog_14_method_10_code
def yX12_pad : MethodName := ⟨RX12, "pad", "(IIII)I"⟩
abbrev cX12_part_ : ByteArray := prog_14_method_11_code
def yX12_part_ : MethodName := ⟨RX12, "part", "(IIIZ)I"⟩
abbrev cX12_isPartOf : ByteArray := prog_14_method_12_code
def yX12_isPartOf : MethodName := ⟨RX12, "isPartOf", "(I)Z"⟩
abbrev cX12_mass : ByteArray := prog_14_method_13_code
def yX12_mass : MethodName := ⟨RX12, "mass", "(II)I"⟩
abbrev cX12_isWhat : ByteArray := prog_14_method_14_code
def yX12_isWhat : MethodName := ⟨RX12, "isWhat", "(I)Z"⟩
abbrev cX12_most : ByteArray := prog_14_method_15_code
def yX12_most : MethodName := ⟨RX12, "most", "(I)I"⟩
abbrev cX12_isFor : ByteArray := prog_14_method_16_code
def yX12_isFor : MethodName := ⟨RX12, "isFor", "(II)Z"⟩
abbrev cX12_put : ByteArray := prog_14_method_17_code
def yX12_put : MethodName := ⟨RX12, "put", "(II)I"⟩
abbrev cX12_told : ByteArray := prog_14_method_18_code
def yX12_told : MethodName := ⟨RX12, "told", "(I)I"⟩
abbrev cX12_padOf : ByteArray := prog_14_method_19_code
def yX12_padOf : MethodName := ⟨RX12, "padOf", "(II)J"⟩
abbrev cX12_isChart : ByteArray := prog_14_method_20_code
def yX12_isChart : MethodName := ⟨RX12, "isChart", "(I)Z"⟩
abbrev cX12_isReach : ByteArray := prog_14_method_21_code
def yX12_isReach : MethodName := ⟨RX12, "isReach", "(I)Z"⟩
abbrev cX12_placeOf : ByteArray := prog_14_method_22_code
def yX12_placeOf : MethodName := ⟨RX12, "placeOf", "(II)I"⟩
abbrev cX12_isThere : ByteArray := prog_14_method_23_code
def yX12_isThere : MethodName := ⟨RX12, "isThere", "(III)Z"⟩
abbrev cX12_goes : ByteArray := prog_14_method_24_code
def yX12_goes : MethodName := ⟨RX12, "goes", "(II)V"⟩
abbrev cX12_comes : ByteArray := prog_14_method_25_code
def yX12_comes : MethodName := ⟨RX12, "comes", "(III)V"⟩
abbrev cX12_entry : ByteArray := prog_14_method_26_code
def yX12_entry : MethodName := ⟨RX12, "entry", "(III)I"⟩
abbrev cX12_readOf : ByteArray := prog_14_method_27_code
def yX12_readOf : MethodName := ⟨RX12, "readOf", "(II)I"⟩
abbrev cX12_read : ByteArray := prog_14_method_28_code
def yX12_read : MethodName := ⟨RX12, "read", "(II)I"⟩
abbrev cX12_allowedAt : ByteArray := prog_14_method_29_code
def yX12_allowedAt : MethodName := ⟨RX12, "allowedAt", "(II)I"⟩
abbrev cX12_isDirection : ByteArray := prog_14_method_30_code
def yX12_isDirection : MethodName := ⟨RX12, "isDirection", "(I)Z"⟩
abbrev cX12_allowed : ByteArray := prog_14_method_31_code
def yX12_allowed : MethodName := ⟨RX12, "allowed", "(II)I"⟩
abbrev cX12_plainCos : ByteArray := prog_14_method_32_code
def yX12_plainCos : MethodName := ⟨RX12, "plainCos", "(I)I"⟩
abbrev cX12_plainSin : ByteArray := prog_14_method_33_code
def yX12_plainSin : MethodName := ⟨RX12, "plainSin", "(I)I"⟩
abbrev cX12_cos : ByteArray := prog_14_method_34_code
def yX12_cos : MethodName := ⟨RX12, "cos", "(I)I"⟩
abbrev cX12_sin : ByteArray := prog_14_method_35_code
def yX12_sin : MethodName := ⟨RX12, "sin", "(I)I"⟩
abbrev cX12_lays : ByteArray := prog_14_method_36_code
def yX12_lays : MethodName := ⟨RX12, "lays", "(IJJ)V"⟩
abbrev cX12_looks : ByteArray := prog_14_method_37_code
def yX12_looks : MethodName := ⟨RX12, "looks", "()V"⟩
abbrev cX12_sum : ByteArray := prog_14_method_38_code
def yX12_sum : MethodName := ⟨RX12, "sum", "(I)J"⟩
abbrev cX12_momentOf : ByteArray := prog_14_method_39_code
def yX12_momentOf : MethodName := ⟨RX12, "momentOf", "(II)J"⟩
abbrev cX12_moments : ByteArray := prog_14_method_40_code
def yX12_moments : MethodName := ⟨RX12, "moments", "(II)J"⟩
abbrev cX12_weight : ByteArray := prog_14_method_41_code
def yX12_weight : MethodName := ⟨RX12, "weight", "()I"⟩
abbrev cX12_centre : ByteArray := prog_14_method_42_code
def yX12_centre : MethodName := ⟨RX12, "centre", "(II)J"⟩
abbrev cX12_moment : ByteArray := prog_14_method_43_code
def yX12_moment : MethodName := ⟨RX12, "moment", "(II)J"⟩
abbrev cX12_factor : ByteArray := prog_14_method_44_code
def yX12_factor : MethodName := ⟨RX12, "factor", "(II)J"⟩
abbrev cX12_tips : ByteArray := prog_14_method_45_code
def yX12_tips : MethodName := ⟨RX12, "tips", "()Z"⟩
abbrev cX12_determinant : ByteArray := prog_14_method_46_code
def yX12_determinant : MethodName := ⟨RX12, "determinant", "(JJJJJJJJJ)J"⟩
abbrev cX12_plane : ByteArray := prog_14_method_47_code
def yX12_plane : MethodName := ⟨RX12, "plane", "(I)V"⟩
abbrev cX12_least : ByteArray := prog_14_method_48_code
def yX12_least : MethodName := ⟨RX12, "least", "()I"⟩
abbrev cX12_pushes : ByteArray := prog_14_method_49_code
def yX12_pushes : MethodName := ⟨RX12, "pushes", "()I"⟩
abbrev cX12_isAboveLimit : ByteArray := prog_14_method_50_code
def yX12_isAboveLimit : MethodName := ⟨RX12, "isAboveLimit", "()Z"⟩
abbrev cX12_spareNow : ByteArray := prog_14_method_51_code
def yX12_spareNow : MethodName := ⟨RX12, "spareNow", "()I"⟩
abbrev cX12_whyNow : ByteArray := prog_14_method_52_code
def yX12_whyNow : MethodName := ⟨RX12, "whyNow", "()I"⟩
abbrev cX12_may : ByteArray := prog_14_method_53_code
def yX12_may : MethodName := ⟨RX12, "may", "()Z"⟩
abbrev cX12_push : ByteArray := prog_14_method_54_code
def yX12_push : MethodName := ⟨RX12, "push", "(II)J"⟩
abbrev cX12_lifted : ByteArray := prog_14_method_55_code
def yX12_lifted : MethodName := ⟨RX12, "lifted", "()I"⟩
abbrev cX12_mat : ByteArray := prog_14_method_56_code
def yX12_mat : MethodName := ⟨RX12, "mat", "(I)I"⟩
abbrev cX12_why : ByteArray := prog_14_method_57_code
def yX12_why : MethodName := ⟨RX12, "why", "()I"⟩
abbrev cX12_most_ : ByteArray := prog_14_method_58_code
def yX12_most_ : MethodName := ⟨RX12, "most", "()I"⟩
abbrev cX12_mayAt : ByteArray := prog_14_method_59_code
def yX12_mayAt : MethodName := ⟨RX12, "mayAt", "(II)Z"⟩
abbrev cX12_where : ByteArray := prog_14_method_60_code
def yX12_where : MethodName := ⟨RX12, "where", "(I)I"⟩
abbrev cX12_farthest : ByteArray := prog_14_method_61_code
def yX12_farthest : MethodName := ⟨RX12, "farthest", "(I)I"⟩
abbrev cX12_comesTo : ByteArray := prog_14_method_62_code
def yX12_comesTo : MethodName := ⟨RX12, "comesTo", "(III)V"⟩
abbrev cX12_way : ByteArray := prog_14_method_63_code
def yX12_way : MethodName := ⟨RX12, "way", "(II)I"⟩
abbrev cX12_ballast : ByteArray := prog_14_method_64_code
def yX12_ballast : MethodName := ⟨RX12, "ballast", "(I)I"⟩
abbrev cX12_feed : ByteArray := prog_14_method_65_code
def yX12_feed : MethodName := ⟨RX12, "feed", "(I)I"⟩
abbrev cX12_clear : ByteArray := prog_14_method_66_code
def yX12_clear : MethodName := ⟨RX12, "clear", "()I"⟩
abbrev cX12_here : ByteArray := prog_14_method_67_code
def yX12_here : MethodName := ⟨RX12, "here", "()I"⟩
abbrev cX12_word : ByteArray := prog_14_method_68_code
def yX12_word : MethodName := ⟨RX12, "word", "(I)Ljava/lang/String;"⟩
abbrev cX12_isWord : ByteArray := prog_14_method_69_code
def yX12_isWord : MethodName := ⟨RX12, "isWord", "(ILjava/lang/String;)Z"⟩
abbrev cX12_whatOf : ByteArray := prog_14_method_70_code
def yX12_whatOf : MethodName := ⟨RX12, "whatOf", "(I)I"⟩
abbrev cX12_readStep : ByteArray := prog_14_method_71_code
def yX12_readStep : MethodName := ⟨RX12, "readStep", "(I)I"⟩
abbrev cX12_reads : ByteArray := prog_14_method_72_code
def yX12_reads : MethodName := ⟨RX12, "reads", "()I"⟩
abbrev cX12_plan : ByteArray := prog_14_method_73_code
def yX12_plan : MethodName := ⟨RX12, "plan", "()I"⟩
abbrev cX12_begins : ByteArray := prog_14_method_74_code
def yX12_begins : MethodName := ⟨RX12, "begins", "()V"⟩
abbrev cX12_looksAt : ByteArray := prog_14_method_75_code
def yX12_looksAt : MethodName := ⟨RX12, "looksAt", "(I)V"⟩
abbrev cX12_slews : ByteArray := prog_14_method_76_code
def yX12_slews : MethodName := ⟨RX12, "slews", "(II)V"⟩
abbrev cX12_reaches : ByteArray := prog_14_method_77_code
def yX12_reaches : MethodName := ⟨RX12, "reaches", "(II)V"⟩
abbrev cX12_goesStep : ByteArray := prog_14_method_78_code
def yX12_goesStep : MethodName := ⟨RX12, "goesStep", "(I)V"⟩
abbrev cX12_remembers : ByteArray := prog_14_method_79_code
def yX12_remembers : MethodName := ⟨RX12, "remembers", "()V"⟩
abbrev cX12_returns : ByteArray := prog_14_method_80_code
def yX12_returns : MethodName := ⟨RX12, "returns", "()V"⟩
abbrev cX12_goesAll : ByteArray := prog_14_method_81_code
def yX12_goesAll : MethodName := ⟨RX12, "goesAll", "()V"⟩
abbrev cX12_checks : ByteArray := prog_14_method_82_code
def yX12_checks : MethodName := ⟨RX12, "checks", "()V"⟩
abbrev cX12_checked : ByteArray := prog_14_method_83_code
def yX12_checked : MethodName := ⟨RX12, "checked", "(I)I"⟩
abbrev cX12_spare : ByteArray := prog_14_method_84_code
def yX12_spare : MethodName := ⟨RX12, "spare", "()J"⟩
abbrev cX12_done : ByteArray := prog_14_method_85_code
def yX12_done : MethodName := ⟨RX12, "done", "()I"⟩
abbrev cX12_backward : ByteArray := prog_14_method_86_code
def yX12_backward : MethodName := ⟨RX12, "backward", "()I"⟩
abbrev cX12_isList : ByteArray := prog_14_method_87_code
def yX12_isList : MethodName := ⟨RX12, "isList", "(I)Z"⟩
abbrev cX12_isSeen : ByteArray := prog_14_method_88_code
def yX12_isSeen : MethodName := ⟨RX12, "isSeen", "(I)Z"⟩
abbrev cX12_seen : ByteArray := prog_14_method_89_code
def yX12_seen : MethodName := ⟨RX12, "seen", "(III)I"⟩
abbrev cX12_lay : ByteArray := prog_14_method_90_code
def yX12_lay : MethodName := ⟨RX12, "lay", "(II)I"⟩
abbrev cX12_list : ByteArray := prog_14_method_91_code
def yX12_list : MethodName := ⟨RX12, "list", "(II)I"⟩
abbrev cX12_set : ByteArray := prog_14_method_92_code
def yX12_set : MethodName := ⟨RX12, "set", "(IIJ)I"⟩
abbrev cX12_get : ByteArray := prog_14_method_93_code
def yX12_get : MethodName := ⟨RX12, "get", "(II)J"⟩
abbrev cX12_book : ByteArray := prog_14_method_94_code
def yX12_book : MethodName := ⟨RX12, "book", "()I"⟩
abbrev cX12_mayLift : ByteArray := prog_14_method_95_code
def yX12_mayLift : MethodName := ⟨RX12, "mayLift", "(I)Z"⟩
abbrev cX12_booked : ByteArray := prog_14_method_96_code
def yX12_booked : MethodName := ⟨RX12, "booked", "(II)I"⟩
abbrev cX12_heaviest : ByteArray := prog_14_method_97_code
def yX12_heaviest : MethodName := ⟨RX12, "heaviest", "()I"⟩
abbrev cX12_count : ByteArray := prog_14_method_98_code
def yX12_count : MethodName := ⟨RX12, "count", "(I)I"⟩
abbrev cX12_image : ByteArray := prog_14_method_99_code
def yX12_image : MethodName := ⟨RX12, "image", "()I"⟩
abbrev cX12_undo : ByteArray := prog_14_method_100_code
def yX12_undo : MethodName := ⟨RX12, "undo", "()I"⟩
def RJx145de : String := "java/io/Serializable"
def TJx145de : u_T := fun k => match k with
  | _ => ("", "", "", false)
def tyJx145de : Nat → FieldType := fun k => match k with
  | _ => .int
abbrev wsJx145de0 : List Cond := u_ws RJx145de TJx145de 0
theorem nmJx145de : ∀ a, a < 0 → ∀ b, b < 0 → a ≠ b → (TJx145de a).2.1 ≠ (TJx145de b).2.1 := by decide +kernel
theorem tyJx145de_ok : ∀ k, k < 0 → parseFieldDescriptor (TJx145de k).2.2.1 = some (tyJx145de k) := by decide +kernel
def RJx9f9b0 : String := "java/lang/CharSequence"
def TJx9f9b0 : u_T := fun k => match k with
  | _ => ("", "", "", false)
def tyJx9f9b0 : Nat → FieldType := fun k => match k with
  | _ => .int
abbrev wsJx9f9b00 : List Cond := u_ws RJx9f9b0 TJx9f9b0 0
theorem nmJx9f9b0 : ∀ a, a < 0 → ∀ b, b < 0 → a ≠ b → (TJx9f9b0 a).2.1 ≠ (TJx9f9b0 b).2.1 := by decide +kernel
theorem tyJx9f9b0_ok : ∀ k, k < 0 → parseFieldDescriptor (TJx9f9b0 k).2.2.1 = some (tyJx9f9b0 k) := by decide +kernel
def RJx8e188 : String := "java/lang/Cloneable"
def TJx8e188 : u_T := fun k => match k with
  | _ => ("", "", "", false)
def tyJx8e188 : Nat → FieldType := fun k => match k with
  | _ => .int
abbrev wsJx8e1880 : List Cond := u_ws RJx8e188 TJx8e188 0
theorem nmJx8e188 : ∀ a, a < 0 → ∀ b, b < 0 → a ≠ b → (TJx8e188 a).2.1 ≠ (TJx8e188 b).2.1 := by decide +kernel
theorem tyJx8e188_ok : ∀ k, k < 0 → parseFieldDescriptor (TJx8e188 k).2.2.1 = some (tyJx8e188 k) := by decide +kernel
def RJxb160c : String := "java/lang/Comparable"
def TJxb160c : u_T := fun k => match k with
  | _ => ("", "", "", false)
def tyJxb160c : Nat → FieldType := fun k => match k with
  | _ => .int
abbrev wsJxb160c0 : List Cond := u_ws RJxb160c TJxb160c 0
theorem nmJxb160c : ∀ a, a < 0 → ∀ b, b < 0 → a ≠ b → (TJxb160c a).2.1 ≠ (TJxb160c b).2.1 := by decide +kernel
theorem tyJxb160c_ok : ∀ k, k < 0 → parseFieldDescriptor (TJxb160c k).2.2.1 = some (tyJxb160c k) := by decide +kernel
def RJ9 : String := "java/lang/Math"
def TJ9 : u_T := fun k => match k with
  | _ => ("", "", "", false)
def tyJ9 : Nat → FieldType := fun k => match k with
  | _ => .int
abbrev wsJ90 : List Cond := u_ws RJ9 TJ9 0
theorem nmJ9 : ∀ a, a < 0 → ∀ b, b < 0 → a ≠ b → (TJ9 a).2.1 ≠ (TJ9 b).2.1 := by decide +kernel
theorem tyJ9_ok : ∀ k, k < 0 → parseFieldDescriptor (TJ9 k).2.2.1 = some (tyJ9 k) := by decide +kernel
abbrev cJ9_floorMod_7cf53 : ByteArray := prog_16_method_50_code
def yJ9_floorMod_7cf53 : MethodName := ⟨RJ9, "floorMod", "(II)I"⟩
abbrev cJ9_abs_067f4 : ByteArray := prog_16_method_61_code
def yJ9_abs_067f4 : MethodName := ⟨RJ9, "abs", "(J)J"⟩
abbrev cJ9_max_7cf53 : ByteArray := prog_16_method_65_code
def yJ9_max_7cf53 : MethodName := ⟨RJ9, "max", "(II)I"⟩
abbrev cJ9_min_7cf53 : ByteArray := prog_16_method_69_code
def yJ9_min_7cf53 : MethodName := ⟨RJ9, "min", "(II)I"⟩
def RJ0 : String := "java/lang/String"
def TJ0 : u_T := fun k => match k with
  | _ => ("", "", "", false)
def tyJ0 : Nat → FieldType := fun k => match k with
  | _ => .int
abbrev wsJ00 : List Cond := u_ws RJ0 TJ0 0
theorem nmJ0 : ∀ a, a < 0 → ∀ b, b < 0 → a ≠ b → (TJ0 a).2.1 ≠ (TJ0 b).2.1 := by decide +kernel
theorem tyJ0_ok : ∀ k, k < 0 → parseFieldDescriptor (TJ0 k).2.2.1 = some (tyJ0 k) := by decide +kernel
abbrev cJ0_length_8abf5 : ByteArray := prog_17_method_54_code
def yJ0_length_8abf5 : MethodName := ⟨RJ0, "length", "()I"⟩
abbrev cJ0_charAt_5068e : ByteArray := prog_17_method_56_code
def yJ0_charAt_5068e : MethodName := ⟨RJ0, "charAt", "(I)C"⟩
abbrev cJ0_coder_7d493 : ByteArray := prog_17_method_152_code
def yJ0_coder_7d493 : MethodName := ⟨RJ0, "coder", "()B"⟩
abbrev cJ0_isLatin1_aae02 : ByteArray := prog_17_method_154_code
def yJ0_isLatin1_aae02 : MethodName := ⟨RJ0, "isLatin1", "()Z"⟩
abbrev cJ0_checkIndex_df160 : ByteArray := prog_17_method_155_code
def yJ0_checkIndex_df160 : MethodName := ⟨RJ0, "checkIndex", "(II)V"⟩
def RJ1 : String := "java/lang/StringLatin1"
def TJ1 : u_T := fun k => match k with
  | _ => ("", "", "", false)
def tyJ1 : Nat → FieldType := fun k => match k with
  | _ => .int
abbrev wsJ10 : List Cond := u_ws RJ1 TJ1 0
theorem nmJ1 : ∀ a, a < 0 → ∀ b, b < 0 → a ≠ b → (TJ1 a).2.1 ≠ (TJ1 b).2.1 := by decide +kernel
theorem tyJ1_ok : ∀ k, k < 0 → parseFieldDescriptor (TJ1 k).2.2.1 = some (tyJ1 k) := by decide +kernel
abbrev cJ1_charAt_3b067 : ByteArray := prog_18_method_2_code
def yJ1_charAt_3b067 : MethodName := ⟨RJ1, "charAt", "([BI)C"⟩
def RJ2 : String := "java/lang/StringUTF16"
def TJ2 : u_T := fun k => match k with
  | _ => ("", "", "", false)
def tyJ2 : Nat → FieldType := fun k => match k with
  | _ => .int
abbrev wsJ20 : List Cond := u_ws RJ2 TJ2 0
theorem nmJ2 : ∀ a, a < 0 → ∀ b, b < 0 → a ≠ b → (TJ2 a).2.1 ≠ (TJ2 b).2.1 := by decide +kernel
theorem tyJ2_ok : ∀ k, k < 0 → parseFieldDescriptor (TJ2 k).2.2.1 = some (tyJ2 k) := by decide +kernel
abbrev cJ2_getChar_3b067 : ByteArray := prog_19_method_5_code
def yJ2_getChar_3b067 : MethodName := ⟨RJ2, "getChar", "([BI)C"⟩
abbrev cJ2_length_9d52b : ByteArray := prog_19_method_6_code
def yJ2_length_9d52b : MethodName := ⟨RJ2, "length", "([B)I"⟩
abbrev cJ2_charAt_3b067 : ByteArray := prog_19_method_83_code
def yJ2_charAt_3b067 : MethodName := ⟨RJ2, "charAt", "([BI)C"⟩
abbrev cJ2_checkIndex_2214a : ByteArray := prog_19_method_91_code
def yJ2_checkIndex_2214a : MethodName := ⟨RJ2, "checkIndex", "(I[B)V"⟩
def RJ10 : String := "java/lang/System"
def TJ10 : u_T := fun k => match k with
  | _ => ("", "", "", false)
def tyJ10 : Nat → FieldType := fun k => match k with
  | _ => .int
abbrev wsJ100 : List Cond := u_ws RJ10 TJ10 0
theorem nmJ10 : ∀ a, a < 0 → ∀ b, b < 0 → a ≠ b → (TJ10 a).2.1 ≠ (TJ10 b).2.1 := by decide +kernel
theorem tyJ10_ok : ∀ k, k < 0 → parseFieldDescriptor (TJ10 k).2.2.1 = some (tyJ10 k) := by decide +kernel
def RJxfd54e : String := "java/lang/constant/Constable"
def TJxfd54e : u_T := fun k => match k with
  | _ => ("", "", "", false)
def tyJxfd54e : Nat → FieldType := fun k => match k with
  | _ => .int
abbrev wsJxfd54e0 : List Cond := u_ws RJxfd54e TJxfd54e 0
theorem nmJxfd54e : ∀ a, a < 0 → ∀ b, b < 0 → a ≠ b → (TJxfd54e a).2.1 ≠ (TJxfd54e b).2.1 := by decide +kernel
theorem tyJxfd54e_ok : ∀ k, k < 0 → parseFieldDescriptor (TJxfd54e k).2.2.1 = some (tyJxfd54e k) := by decide +kernel
def RJx3cf43 : String := "java/lang/constant/ConstantDesc"
def TJx3cf43 : u_T := fun k => match k with
  | _ => ("", "", "", false)
def tyJx3cf43 : Nat → FieldType := fun k => match k with
  | _ => .int
abbrev wsJx3cf430 : List Cond := u_ws RJx3cf43 TJx3cf43 0
theorem nmJx3cf43 : ∀ a, a < 0 → ∀ b, b < 0 → a ≠ b → (TJx3cf43 a).2.1 ≠ (TJx3cf43 b).2.1 := by decide +kernel
theorem tyJx3cf43_ok : ∀ k, k < 0 → parseFieldDescriptor (TJx3cf43 k).2.2.1 = some (tyJx3cf43 k) := by decide +kernel
def RJ7 : String := "java/util/Arrays"
def TJ7 : u_T := fun k => match k with
  | _ => ("", "", "", false)
def tyJ7 : Nat → FieldType := fun k => match k with
  | _ => .int
abbrev wsJ70 : List Cond := u_ws RJ7 TJ7 0
theorem nmJ7 : ∀ a, a < 0 → ∀ b, b < 0 → a ≠ b → (TJ7 a).2.1 ≠ (TJ7 b).2.1 := by decide +kernel
theorem tyJ7_ok : ∀ k, k < 0 → parseFieldDescriptor (TJ7 k).2.2.1 = some (tyJ7 k) := by decide +kernel
abbrev cJ7_fill_d0a16 : ByteArray := prog_21_method_101_code
def yJ7_fill_d0a16 : MethodName := ⟨RJ7, "fill", "([JJ)V"⟩
abbrev cJ7_fill_53178 : ByteArray := prog_21_method_103_code
def yJ7_fill_53178 : MethodName := ⟨RJ7, "fill", "([II)V"⟩
def RJ3 : String := "jdk/internal/util/Preconditions"
def TJ3 : u_T := fun k => match k with
  | _ => ("", "", "", false)
def tyJ3 : Nat → FieldType := fun k => match k with
  | _ => .int
abbrev wsJ30 : List Cond := u_ws RJ3 TJ3 0
theorem nmJ3 : ∀ a, a < 0 → ∀ b, b < 0 → a ≠ b → (TJ3 a).2.1 ≠ (TJ3 b).2.1 := by decide +kernel
theorem tyJ3_ok : ∀ k, k < 0 → parseFieldDescriptor (TJ3 k).2.2.1 = some (tyJ3 k) := by decide +kernel
abbrev cJ3_checkIndex_8e157 : ByteArray := prog_22_method_11_code
def yJ3_checkIndex_8e157 : MethodName := ⟨RJ3, "checkIndex", "(IILjava/util/function/BiFunction;)I"⟩
def RL : String := "CranePadsLaw"
abbrev cL_law : ByteArray := code
def yL_law : MethodName := ⟨RL, "law", "([I)Z"⟩
abbrev vwCl : List vw_C := [(RX0, TX0, 4), (RX1, TX1, 2), (RX2, TX2, 4), (RX3, TX3, 8), (RX4, TX4, 11), (RX5, TX5, 10), (RX6, TX6, 3), (RX7, TX7, 3), (RX8, TX8, 2), (RX9, TX9, 3), (RX10, TX10, 5), (RX11, TX11, 12), (RX12, TX12, 41)]
end
section
/-! ===== the words that every method carries: all good words of the tables ===== -/
def GG : List Cond := lw_tbl.filter goodWord
theorem gg_mem (i : Nat) {w : Cond} (h : lw_tbl[i]? = some w) (hg : goodWord w = true) : w ∈ GG := List.mem_filter.mpr ⟨List.mem_of_getElem? h, hg⟩
theorem gg_good : ∀ w ∈ GG, (w.onTables && w.keeps) = true ∨ ∃ ty, w = .arrayClass ty := fun w h => good_of_word (List.mem_filter.mp h).2
theorem gg_tbl : ∀ w ∈ GG, w ∈ lw_tbl := fun _ h => (List.mem_filter.mp h).1
theorem gg_call {w : Cond} (hw : w ∈ GG) : GoodIn GG (w :: GG) := fun v hv => (List.mem_cons.mp hv).elim (fun e => by rw [e]; exact ⟨hw, gg_good _ hw⟩) (fun h => ⟨h, gg_good _ h⟩)
theorem gg_ps {ws : List Cond} (ps : List Nat) (hp : ws = ps.filterMap (fun i => lw_tbl[i]?)) (hg : ws.all goodWord = true) : ∀ w ∈ ws, w ∈ GG := by
  intro w hw
  have h1 := List.all_eq_true.mp hg w hw
  rw [hp] at hw
  obtain ⟨i, -, hi⟩ := List.mem_filterMap.mp hw
  exact gg_mem i hi h1
/-! ===== binds ===== -/
theorem bd_some {α β : Type} {x : Option α} {K : α → Option β} {y : β} (h : x.bind K = some y) : ∃ v, x = some v ∧ K v = some y := by
  cases x with
  | none => cases h
  | some v => exact ⟨v, rfl, h⟩
theorem lc_eq {x y : Int64} : lg_cmp x y = 0 ↔ x = y := by
  unfold lg_cmp
  by_cases h1 : x > y
  · rw [if_pos h1]
    exact ⟨fun h => absurd h (by decide), fun h => by subst h; exact absurd h1 Int64.lt_irrefl⟩
  · rw [if_neg h1]
    by_cases h2 : x = y
    · rw [if_pos h2]; exact ⟨fun _ => h2, fun _ => rfl⟩
    · rw [if_neg h2]; exact ⟨fun h => absurd h (by decide), fun h => absurd h h2⟩
theorem lc_tri (x y : Int64) : x < y ∨ x = y ∨ y < x := by
  have h := Int.lt_trichotomy x.toInt y.toInt
  rcases h with h | h | h
  · exact Or.inl (Int64.lt_iff_toInt_lt.mpr h)
  · exact Or.inr (Or.inl (Int64.toInt_inj.mp h))
  · exact Or.inr (Or.inr (Int64.lt_iff_toInt_lt.mpr h))
theorem lc_lt {x y : Int64} : lg_cmp x y < 0 ↔ x < y := by
  unfold lg_cmp
  rcases lc_tri x y with h | h | h
  · have h1 : ¬ x > y := fun z => absurd (Int64.lt_iff_toInt_lt.mp z) (by have := Int64.lt_iff_toInt_lt.mp h; omega)
    have h2 : ¬ x = y := fun z => by subst z; exact absurd h Int64.lt_irrefl
    rw [if_neg h1, if_neg h2]; exact ⟨fun _ => h, fun _ => by decide⟩
  · subst h
    rw [if_neg Int64.lt_irrefl, if_pos rfl]; exact ⟨fun h => absurd h (by decide), fun h => absurd h Int64.lt_irrefl⟩
  · have h1 : x > y := h
    rw [if_pos h1]; exact ⟨fun h => absurd h (by decide), fun z => absurd (Int64.lt_iff_toInt_lt.mp z) (by have := Int64.lt_iff_toInt_lt.mp h; omega)⟩
theorem lc_gt {x y : Int64} : 0 < lg_cmp x y ↔ y < x := by
  unfold lg_cmp
  by_cases h1 : x > y
  · rw [if_pos h1]; exact ⟨fun _ => h1, fun _ => by decide⟩
  · rw [if_neg h1]
    by_cases h2 : x = y
    · rw [if_pos h2]; exact ⟨fun h => absurd h (by decide), fun h => absurd h h1⟩
    · rw [if_neg h2]; exact ⟨fun h => absurd h (by decide), fun h => absurd h h1⟩
theorem lc_nlt {x y : Int64} : ¬ x < y ↔ y ≤ x := Int64.not_lt
theorem lc_ge {x y : Int64} : 0 ≤ lg_cmp x y ↔ y ≤ x := by
  rw [← lc_nlt, ← lc_lt]; exact Int32.not_lt.symm
theorem lc_le {x y : Int64} : lg_cmp x y ≤ 0 ↔ x ≤ y := by
  rw [← lc_nlt, ← lc_gt]; exact Int32.not_lt.symm
def o_idiv (x y : Int32) : Option Int32 := if y = 0 then none else some (x / y)
def o_irem (x y : Int32) : Option Int32 := if y = 0 then none else some (x - x / y * y)
def o_ldiv (x y : Int64) : Option Int64 := if y = 0 then none else some (x / y)
def o_lrem (x y : Int64) : Option Int64 := if y = 0 then none else some (x - x / y * y)
/-! ===== loops: a body over its own continuation, with fuel ===== -/
def lpN {σ ρ : Type} (body : (σ → Option ρ) → σ → Option ρ) : Nat → σ → Option ρ
  | 0, _ => none
  | n + 1, x => body (lpN body n) x
theorem lpN_sound {σ ρ : Type} {body : (σ → Option ρ) → σ → Option ρ} {X : ρ} (P : σ → Prop) (hb : ∀ self, (∀ x, self x = some X → P x) → ∀ x, body self x = some X → P x) : ∀ n x, lpN body n x = some X → P x
  | 0, _, h => by cases h
  | n + 1, x, h => hb (lpN body n) (lpN_sound P hb n) x h
theorem lpN_succ {σ ρ : Type} (body : (σ → Option ρ) → σ → Option ρ) (n : Nat) (x : σ) : lpN body (n + 1) x = body (lpN body n) x := rfl
def fu : Nat := 5000
/-! ===== classes ===== -/
def tyf (ci : Nat) : Nat → FieldType := match ci with
  | 0 => tyX0 | 1 => tyX1 | 2 => tyX2 | 3 => tyX3 | 4 => tyX4 | 5 => tyX5 | 6 => tyX6 | 7 => tyX7 | 8 => tyX8 | 9 => tyX9 | 10 => tyX10 | 11 => tyX11 | _ => tyX12
def nf (ci : Nat) : Nat := match ci with
  | 0 => 4 | 1 => 2 | 2 => 4 | 3 => 8 | 4 => 11 | 5 => 10 | 6 => 3 | 7 => 3 | 8 => 2 | 9 => 3 | 10 => 5 | 11 => 12 | _ => 41
/-- what is known of class ci -/
def CP (ci : Nat) (C : String) (T : u_T) (N : Nat) : Prop := vwCl[ci]? = some (C, T, N) ∧ nf ci = N ∧ (∀ w ∈ u_ws C T N, w ∈ GG) ∧ (∀ k, k < N → parseFieldDescriptor (T k).2.2.1 = some (tyf ci k)) ∧ ∀ a, a < N → ∀ b, b < N → a ≠ b → (T a).2.1 ≠ (T b).2.1
/-- a field's link: own class, pool index, class and field -/
def FL (own : String) (idx ci j : Nat) : Prop := ∃ C T N, CP ci C T N ∧ j < N ∧ Cond.fieldLink own idx C (T j).2.1 (T j).2.2.1 ∈ GG ∧ (T j).1 = C
/-- one that may be written -/
def FW (own : String) (idx ci j : Nat) : Prop := ∃ C T N, CP ci C T N ∧ j < N ∧ Cond.fieldLink own idx C (T j).2.1 (T j).2.2.1 ∈ GG ∧ (T j).1 = C ∧ (T j).2.2.2 = false
theorem FW.l {own : String} {idx ci j : Nat} (h : FW own idx ci j) : FL own idx ci j := by
  obtain ⟨C, T, N, h1, h2, h3, h4, -⟩ := h
  exact ⟨C, T, N, h1, h2, h3, h4⟩
def kI (t : FieldType) : Bool := match t with
  | .int => true | .boolean => true | .byte => true | .short => true | .char => true | _ => false
def kR (t : FieldType) : Bool := match t with
  | .object _ => true | .array _ => true | _ => false
/-! ===== the pure state ===== -/
abbrev Mem : Type := (Nat → Nat → Int32) × (Nat → Nat → Int64)
abbrev Shp : Type := (Nat × (Nat → Option Nat)) ⊕ (FieldType × Nat × (Nat → Option Nat))
abbrev SH : Type := Nat × (Nat → Shp)
/-- classes and slots; array classes; base; static arrays; String constants and their bytes -/
abbrev GE : Type := va_G × (FieldType → ClassId) × Nat × (Nat → Nat) × (Nat → Nat) × (Nat → Nat)
def gD (γ : GE) : va_G := γ.1
def gA (γ : GE) : FieldType → ClassId := γ.2.1
def gb (γ : GE) : Nat := γ.2.2.1
def gs (γ : GE) : Nat → Nat := γ.2.2.2.1
def gK (γ : GE) : Nat → Nat := γ.2.2.2.2.1
def gV (γ : GE) : Nat → Nat := γ.2.2.2.2.2
def AA (γ : GE) : Nat → Prop := fun q => gb γ ≤ q
def upI (μ : Mem) (o j : Nat) (v : Int32) : Mem := (fun k i => if k = o ∧ i = j then v else μ.1 k i, μ.2)
def upL (μ : Mem) (o j : Nat) (v : Int64) : Mem := (μ.1, fun k i => if k = o ∧ i = j then v else μ.2 k i)
def inb (i : Int32) (n : Nat) : Bool := !decide (i < 0) && decide (i.toNatClampNeg < n)
theorem inb_in {i : Int32} {n : Nat} (h : inb i n = true) : vp_in i n := by
  simp only [inb, Bool.and_eq_true, Bool.not_eq_true', decide_eq_false_iff_not, decide_eq_true_eq] at h
  rintro (q | q)
  · exact h.1 q
  · omega
/-- is there an object of class ci at o -/
def isO (S : SH) (ci o : Nat) : Bool := match S.2 o with
  | .inl (c, _) => decide (c = ci) && decide (o < S.1)
  | _ => false
/-- is there an array of ty at o, and its length -/
def isA (S : SH) (ty : FieldType) (o : Nat) : Option Nat := match S.2 o with
  | .inr (t, n, _) => if t = ty ∧ o < S.1 then some n else none
  | _ => none
def gR (S : SH) (ci o j : Nat) : Option Nat := match S.2 o with
  | .inl (c, rs) => if c = ci ∧ o < S.1 then rs j else none
  | _ => none
def gI (S : SH) (ci o j : Nat) (μ : Mem) : Option Int32 := if isO S ci o = true then some (μ.1 o j) else none
def gL (S : SH) (ci o j : Nat) (μ : Mem) : Option Int64 := if isO S ci o = true then some (μ.2 o j) else none
def pI (S : SH) (ci o j : Nat) (v : Int32) (μ : Mem) : Option Mem := if isO S ci o = true then some (upI μ o j v) else none
def pZ (S : SH) (ci o j : Nat) (v : Int32) (μ : Mem) : Option Mem := if isO S ci o = true ∧ (v = 0 ∨ v = 1) then some (upI μ o j v) else none
def pL (S : SH) (ci o j : Nat) (v : Int64) (μ : Mem) : Option Mem := if isO S ci o = true then some (upL μ o j v) else none
def aI (S : SH) (ty : FieldType) (o : Nat) (i : Int32) (μ : Mem) : Option Int32 := (isA S ty o).bind fun n => if inb i n = true then some (μ.1 o i.toNatClampNeg) else none
def aL (S : SH) (o : Nat) (i : Int32) (μ : Mem) : Option Int64 := (isA S .long o).bind fun n => if inb i n = true then some (μ.2 o i.toNatClampNeg) else none
def sI (S : SH) (o : Nat) (i v : Int32) (μ : Mem) : Option Mem := (isA S .int o).bind fun n => if inb i n = true then some (upI μ o i.toNatClampNeg v) else none
def sB (S : SH) (o : Nat) (i v : Int32) (μ : Mem) : Option Mem := (isA S .byte o).bind fun n => if inb i n = true then some (upI μ o i.toNatClampNeg (vp_nar .byte v)) else none
def sZ (S : SH) (o : Nat) (i v : Int32) (μ : Mem) : Option Mem := (isA S .boolean o).bind fun n => if inb i n = true then some (upI μ o i.toNatClampNeg (vp_nar .boolean v)) else none
def sL (S : SH) (o : Nat) (i : Int32) (v : Int64) (μ : Mem) : Option Mem := (isA S .long o).bind fun n => if inb i n = true then some (upL μ o i.toNatClampNeg v) else none
def aR (S : SH) (ty : FieldType) (o : Nat) (i : Int32) : Option Nat := match S.2 o with
  | .inr (t, n, rs) => if t = ty ∧ o < S.1 ∧ inb i n = true then rs i.toNatClampNeg else none
  | _ => none
def aN (S : SH) (ty : FieldType) (o : Nat) : Option Int32 := (isA S ty o).map Int32.ofNat
/-- n ints from place i of o on are laid into o2 from place j on -/
def cpI (S : SH) (ty : FieldType) (o : Nat) (i : Int32) (o2 : Nat) (j n : Int32) (μ : Mem) : Option Mem := (isA S ty o).bind fun n0 => (isA S ty o2).bind fun n1 =>
  if ¬ i < 0 ∧ ¬ j < 0 ∧ ¬ n < 0 ∧ i.toNatClampNeg + n.toNatClampNeg ≤ n0 ∧ j.toNatClampNeg + n.toNatClampNeg ≤ n1 then some (fun k q => if k = o2 then va_cpy (μ.1 o) (μ.1 o2) i.toNatClampNeg j.toNatClampNeg n.toNatClampNeg q else μ.1 k q, μ.2) else none
/-! static arrays -/
def stN (i : Nat) : String := match i with
  | 0 => "FIRST_OF_DIAL" | 1 => "LEAST_OF_DIAL" | 2 => "MOST_OF_DIAL" | 3 => "ALONG_X" | _ => "ALONG_Y"
def stT (i : Nat) : List Int32 := match i with
  | 0 => [0, 5, 0, 0, 50, 0, 0, 0, 0, 0, 100, 100, 100, 100]
  | 1 => [0, 0, 0, 0, 1, 0, 0, 0, 0, 0, 0, 0, 0, 0]
  | 2 => [19, 60, 999, 9999, 999, 2, 9, 2, 0, 0, 100, 100, 100, 100]
  | 3 => [65, 60, 52, 39, 25, 0, -25, -39, -52, -60, -65, -60, -52, -39, -25, 0, 25, 39, 52, 60]
  | _ => [0, 25, 39, 52, 60, 65, 60, 52, 39, 25, 0, -25, -39, -52, -60, -65, -60, -52, -39, -25]
def aT (t : Nat) (i : Int32) : Option Int32 := if inb i (stT t).length = true then some ((stT t).getD i.toNatClampNeg 0) else none
/-! String constants: place i -/
def ksO (i : Nat) : String := if i < 5 then "CranePads$Tape" else "CranePadsModel"
def ksI (i : Nat) : Nat := match i with
  | 0 => 29 | 1 => 57 | 2 => 59 | 3 => 61 | 4 => 63 | 5 => 262 | 6 => 264 | 7 => 266 | 8 => 268 | _ => 270
def ksT (i : Nat) : String := match i with
  | 0 => "set" | 1 => "take" | 2 => "slew" | 3 => "reach" | 4 => "wind" | 5 => "take" | 6 => "slew" | 7 => "reach" | 8 => "set" | _ => "wind"
def ksB (i : Nat) : List Int32 := match i with
  | 0 => [115, 101, 116] | 1 => [116, 97, 107, 101] | 2 => [115, 108, 101, 119] | 3 => [114, 101, 97, 99, 104] | 4 => [119, 105, 110, 100]
  | 5 => [116, 97, 107, 101] | 6 => [115, 108, 101, 119] | 7 => [114, 101, 97, 99, 104] | 8 => [115, 101, 116] | _ => [119, 105, 110, 100]
/-- of a String constant: length and the char at a place -/
def tLen (i : Nat) : Option Int32 := if i < 10 then some (Int32.ofNat (ksB i).length) else none
def tAt (i : Nat) (k : Int32) : Option Int32 := if i < 10 ∧ inb k (ksB i).length = true then some ((ksB i).getD k.toNatClampNeg 0) else none
/-! ===== what is known of the machine's tables and of what nobody writes ===== -/
def tysG (γ : GE) : List (ClassId × FieldType) := [(gA γ .int, .int), (gA γ .long, .long), (gA γ .byte, .byte), (gA γ .boolean, .boolean), (gA γ (.object "CranePads$Chart"), .object "CranePads$Chart"), (gA γ (.array .long), .array .long)]
def nestF : List Cond := [(Jvm.Cond.fieldLinkNest "CranePads$Crane" (32 : Nat) "CranePads" "FIRST_OF_DIAL" "[I" "CranePads"), (Jvm.Cond.fieldLinkNest "CranePads$Judge" (73 : Nat) "CranePads" "ALONG_X" "[I" "CranePads"), (Jvm.Cond.fieldLinkNest "CranePads$Judge" (76 : Nat) "CranePads" "ALONG_Y" "[I" "CranePads")]
def nestM : List Cond := [(Jvm.Cond.methodLinkNest "CranePads$Pads" (56 : Nat) ({ cls := "CranePads", name := "next", desc := "(I)I" } : Jvm.MethodName) "CranePads"), (Jvm.Cond.methodLinkNest "CranePads$Crane" (20 : Nat) ({ cls := "CranePads$Parts", name := "<init>", desc := "()V" } : Jvm.MethodName) "CranePads"), (Jvm.Cond.methodLinkNest "CranePads" (26 : Nat) ({ cls := "CranePads$Judge", name := "<init>", desc := "()V" } : Jvm.MethodName) "CranePads"), (Jvm.Cond.methodLinkNest "CranePads" (33 : Nat) ({ cls := "CranePads$Route", name := "<init>", desc := "()V" } : Jvm.MethodName) "CranePads"), (Jvm.Cond.methodLinkNest "CranePads" (40 : Nat) ({ cls := "CranePads$Tape", name := "<init>", desc := "()V" } : Jvm.MethodName) "CranePads"), (Jvm.Cond.methodLinkNest "CranePads" (47 : Nat) ({ cls := "CranePads$Plan", name := "<init>", desc := "()V" } : Jvm.MethodName) "CranePads"), (Jvm.Cond.methodLinkNest "CranePads" (57 : Nat) ({ cls := "CranePads$Walk", name := "<init>", desc := "()V" } : Jvm.MethodName) "CranePads"), (Jvm.Cond.methodLinkNest "CranePads" (64 : Nat) ({ cls := "CranePads$Book", name := "<init>", desc := "()V" } : Jvm.MethodName) "CranePads"), (Jvm.Cond.methodLinkNest "CranePads" (71 : Nat) ({ cls := "CranePads$Rows", name := "<init>", desc := "()V" } : Jvm.MethodName) "CranePads"), (Jvm.Cond.methodLinkNest "CranePads$Judge" (146 : Nat) ({ cls := "CranePads", name := "next", desc := "(I)I" } : Jvm.MethodName) "CranePads"), (Jvm.Cond.methodLinkNest "CranePads$Tape" (53 : Nat) ({ cls := "CranePads", name := "fitsDial", desc := "(II)Z" } : Jvm.MethodName) "CranePads")]
def strOK (γ : GE) (U : State) (H : Heap) : Prop := (∀ i, i < 10 → va_O "java/lang/String" (gK γ i) (AA γ) U H ∧ va_OF "java/lang/String" "coder" "B" (.int 0) (gK γ i) (AA γ) U H ∧ va_OF "java/lang/String" "value" "[B" (.ref (gV γ i)) (gK γ i) (AA γ) U H ∧ va_T .byte (gV γ i) (ksB i).length (fun j => .int ((ksB i).getD j 0)) (AA γ) U H) ∧ (∀ i, i < 10 → vk_R (ksO i) (ksI i) (ksT i) (gK γ i) U) ∧ va_Z "java/lang/String" "COMPACT_STRINGS" "Z" (.int 1) (AA γ) U H ∧ va_Zq "jdk/internal/util/Preconditions" "SIOOBE_FORMATTER" "Ljava/util/function/BiFunction;" (AA γ) U H
def Ken (γ : GE) (U : State) (H : Heap) : Prop := va_K (gD γ) vwCl (tysG γ) U ∧ (∀ w ∈ nestF, va_Nw w U) ∧ (∀ w ∈ nestM, va_Nw w U) ∧ (∀ i, i < 5 → va_Z "CranePads" (stN i) "[I" (.ref (gs γ i)) (AA γ) U H ∧ va_T .int (gs γ i) (stT i).length (fun j => .int ((stT i).getD j 0)) (AA γ) U H) ∧ strOK γ U H
/-! ===== the world: the cells from the base on ===== -/
def fvl (γ : GE) (μ : Mem) (k ci : Nat) (rs : Nat → Option Nat) (j : Nat) : Value := match tyf ci j with
  | .long => .long (μ.2 k j)
  | .array _ => va_rf ((rs j).map (gb γ + ·))
  | .object _ => va_rf ((rs j).map (gb γ + ·))
  | _ => .int (μ.1 k j)
def celA (γ : GE) (μ : Mem) (k : Nat) (ty : FieldType) (n : Nat) (rs : Nat → Option Nat) : vp_A := match ty with
  | .long => (n, .inr (.inl (μ.2 k)))
  | .array _ => (n, .inr (.inr (.inr (.inr (fun j => (rs j).map (gb γ + ·))))))
  | .object _ => (n, .inr (.inr (.inr (.inr (fun j => (rs j).map (gb γ + ·))))))
  | _ => (n, .inl (μ.1 k))
def celE (γ : GE) (μ : Mem) (k : Nat) (sh : Shp) : va_E := match sh with
  | .inl (ci, rs) => .inr (ci, (List.range (nf ci)).map (fvl γ μ k ci rs))
  | .inr (ty, n, rs) => .inl (gA γ ty, celA γ μ k ty n rs)
def Wd (γ : GE) (S : SH) (μ : Mem) (H : Heap) : Prop := H.size = gb γ + S.1 ∧ ∀ k, k < S.1 → va_at (gD γ) vwCl (gb γ + k, celE γ μ k (S.2 k)) H
theorem fvl_len {γ : GE} {μ : Mem} {k ci : Nat} {rs : Nat → Option Nat} : ((List.range (nf ci)).map (fvl γ μ k ci rs)).length = nf ci := by simp
theorem fvl_get {γ : GE} {μ : Mem} {k ci : Nat} {rs : Nat → Option Nat} {j : Nat} (hj : j < nf ci) : ((List.range (nf ci)).map (fvl γ μ k ci rs))[j]? = some (fvl γ μ k ci rs j) := by
  rw [List.getElem?_map, List.getElem?_range hj]; rfl
theorem celE_congr {γ : GE} {μ μ' : Mem} {k : Nat} {sh : Shp} (h1 : μ'.1 k = μ.1 k) (h2 : μ'.2 k = μ.2 k) : celE γ μ' k sh = celE γ μ k sh := by
  obtain ⟨ci, rs⟩ | ⟨ty, n, rs⟩ := sh
  · show Sum.inr (ci, _) = Sum.inr (ci, _)
    have : fvl γ μ' k ci rs = fvl γ μ k ci rs := by funext j; unfold fvl; rw [h1, h2]
    rw [this]
  · show Sum.inl (_, _) = Sum.inl (_, _)
    have : celA γ μ' k ty n rs = celA γ μ k ty n rs := by unfold celA; rw [h1, h2]
    rw [this]
/-- one cell is written -/
theorem Wd.set {γ : GE} {S : SH} {μ μ' : Mem} {H H1 : Heap} {o : Nat} (h : Wd γ S μ H) (hz : H1.size = H.size) (hq : ∀ q : Nat, q ≠ gb γ + o → H1[q]? = H[q]?) (ho : va_at (gD γ) vwCl (gb γ + o, celE γ μ' o (S.2 o)) H1) (hm : ∀ k, k ≠ o → μ'.1 k = μ.1 k ∧ μ'.2 k = μ.2 k) : Wd γ S μ' H1 := by
  refine ⟨hz.trans h.1, fun k hk => ?_⟩
  by_cases hko : k = o
  · subst hko; exact ho
  · rw [celE_congr (hm k hko).1 (hm k hko).2]
    exact (h.2 k hk).kept (hq _ (by show gb γ + k ≠ gb γ + o; omega))
theorem isO_spec {S : SH} {ci o : Nat} (h : isO S ci o = true) : o < S.1 ∧ ∃ rs, S.2 o = .inl (ci, rs) := by
  unfold isO at h
  split at h
  · rename_i c rs he
    simp only [Bool.and_eq_true, decide_eq_true_eq] at h
    obtain ⟨h1, h2⟩ := h
    subst h1
    exact ⟨h2, rs, he⟩
  · cases h
theorem isA_spec {S : SH} {ty : FieldType} {o n : Nat} (h : isA S ty o = some n) : o < S.1 ∧ ∃ rs, S.2 o = .inr (ty, n, rs) := by
  unfold isA at h
  split at h
  · rename_i t n' rs he
    split at h
    · rename_i hh
      cases h
      obtain ⟨h1, h2⟩ := hh
      subst h1
      exact ⟨h2, rs, he⟩
    · cases h
  · cases h
theorem gR_spec {S : SH} {ci o j k : Nat} (h : gR S ci o j = some k) : o < S.1 ∧ ∃ rs, S.2 o = .inl (ci, rs) ∧ rs j = some k := by
  unfold gR at h
  split at h
  · rename_i c rs he
    split at h
    · rename_i hh
      obtain ⟨h1, h2⟩ := hh
      subst h1
      exact ⟨h2, rs, he, h⟩
    · cases h
  · cases h
theorem aR_spec {S : SH} {ty : FieldType} {o k : Nat} {i : Int32} (h : aR S ty o i = some k) : o < S.1 ∧ ∃ n rs, S.2 o = .inr (ty, n, rs) ∧ inb i n = true ∧ rs i.toNatClampNeg = some k := by
  unfold aR at h
  split at h
  · rename_i t n rs he
    split at h
    · rename_i hh
      obtain ⟨h1, h2, h3⟩ := hh
      subst h1
      exact ⟨h2, n, rs, he, h3, h⟩
    · cases h
  · cases h
theorem Wd.ob {γ : GE} {S : SH} {μ : Mem} {H : Heap} {ci o : Nat} {rs : Nat → Option Nat} (h : Wd γ S μ H) (ho : o < S.1) (hs : S.2 o = .inl (ci, rs)) : va_P (gD γ) vwCl [(gb γ + o, .inr (ci, (List.range (nf ci)).map (fvl γ μ o ci rs)))] H := by
  intro k q hk
  have hz : k < 1 := (List.getElem?_eq_some_iff.mp hk).1
  rw [show k = 0 by omega] at hk
  cases hk
  have h1 := h.2 o ho
  rw [hs] at h1
  exact h1
theorem Wd.ar {γ : GE} {S : SH} {μ : Mem} {H : Heap} {ty : FieldType} {o n : Nat} {rs : Nat → Option Nat} (h : Wd γ S μ H) (ho : o < S.1) (hs : S.2 o = .inr (ty, n, rs)) : va_P (gD γ) vwCl [(gb γ + o, .inl (gA γ ty, celA γ μ o ty n rs))] H := by
  intro k q hk
  have hz : k < 1 := (List.getElem?_eq_some_iff.mp hk).1
  rw [show k = 0 by omega] at hk
  cases hk
  have h1 := h.2 o ho
  rw [hs] at h1
  exact h1
theorem fvl_I {γ : GE} {μ : Mem} {k ci : Nat} {rs : Nat → Option Nat} {j : Nat} (h : kI (tyf ci j) = true) : fvl γ μ k ci rs j = .int (μ.1 k j) := by
  unfold fvl; revert h; cases tyf ci j <;> intro h <;> first | rfl | cases h
theorem fvl_L {γ : GE} {μ : Mem} {k ci : Nat} {rs : Nat → Option Nat} {j : Nat} (h : tyf ci j = .long) : fvl γ μ k ci rs j = .long (μ.2 k j) := by
  unfold fvl; rw [h]
theorem fvl_R {γ : GE} {μ : Mem} {k ci : Nat} {rs : Nat → Option Nat} {j : Nat} (h : kR (tyf ci j) = true) : fvl γ μ k ci rs j = va_rf ((rs j).map (gb γ + ·)) := by
  unfold fvl; revert h; cases tyf ci j <;> intro h <;> first | rfl | cases h
theorem celA_I {γ : GE} {μ : Mem} {k : Nat} {ty : FieldType} {n : Nat} {rs : Nat → Option Nat} (h : kI ty = true) : celA γ μ k ty n rs = (n, .inl (μ.1 k)) := by
  unfold celA; revert h; cases ty <;> intro h <;> first | rfl | cases h
theorem celA_R {γ : GE} {μ : Mem} {k : Nat} {ty : FieldType} {n : Nat} {rs : Nat → Option Nat} (h : kR ty = true) : celA γ μ k ty n rs = (n, .inr (.inr (.inr (.inr (fun j => (rs j).map (gb γ + ·)))))) := by
  unfold celA; revert h; cases ty <;> intro h <;> first | rfl | cases h
/-! ===== the context of a method, and the judgement ===== -/
def FX (γ : GE) (p : Program) (s : State) (m : MethodId) (args : Array Value) (meth : Method) (c : Code) (cc : ByteArray) (own : String) (nL : Nat) : Prop :=
  p.tables.exec = Jvm.exec ∧ c.code = cc ∧ c.maxLocals = nL ∧ s.vm.findClass own = some m.cls ∧ (∀ w ∈ GG, w.before args s = true) ∧ Ken γ s s.heap ∧ meth.locks = false
def JJ (γ : GE) (p : Program) (l : Launch) (e : Env) (R : Room) (s : State) (m : MethodId) (args : Array Value) (below : List Frame) (meth : Method) (c : Code) (nL : Nat) (cells slots : Nat) (Q : State → Prop) (S : SH) (μ : Mem) (pc : Nat) (lv : List (Nat × Value)) (st : List Value) : Prop :=
  ∀ (H : Heap) (locs : List Loc) (ls : Array Slot), Wd γ S μ H → va_S (AA γ) s.heap H locs → lv_has ls nL lv → W p l e R s m args below meth c H locs cells slots Q (F0 m pc ls st)

section Rows
variable {γ : GE} {p : Program} {l : Launch} {e : Env} {R : Room} {s : State} {m : MethodId} {args : Array Value} {below : List Frame} {meth : Method} {c : Code} {cc : ByteArray} {own : String} {nL : Nat} {cells slots : Nat} {Q : State → Prop} {S : SH} {μ : Mem} {pc : Nat} {lv : List (Nat × Value)} {st : List Value} {ρ : Type} {X : ρ}
theorem j_iadd (F : FX γ p s m args meth c cc own nL) {x y : Int32} (hd : decode cc pc = .ok (.iadd, 1))  (k : JJ γ p l e R s m args below meth c nL cells slots Q S μ (pc + 1) (lv) (.int (x + y) :: st)) : JJ γ p l e R s m args below meth c nL cells slots Q S μ (pc) (lv) (.int y :: .int x :: st) :=
  fun H locs ls hW hS hl => lv_iadd F.1 F.2.1 hd (k H locs ls hW hS hl)
theorem j_isub (F : FX γ p s m args meth c cc own nL) {x y : Int32} (hd : decode cc pc = .ok (.isub, 1))  (k : JJ γ p l e R s m args below meth c nL cells slots Q S μ (pc + 1) (lv) (.int (x - y) :: st)) : JJ γ p l e R s m args below meth c nL cells slots Q S μ (pc) (lv) (.int y :: .int x :: st) :=
  fun H locs ls hW hS hl => lv_isub F.1 F.2.1 hd (k H locs ls hW hS hl)
theorem j_imul (F : FX γ p s m args meth c cc own nL) {x y : Int32} (hd : decode cc pc = .ok (.imul, 1))  (k : JJ γ p l e R s m args below meth c nL cells slots Q S μ (pc + 1) (lv) (.int (x * y) :: st)) : JJ γ p l e R s m args below meth c nL cells slots Q S μ (pc) (lv) (.int y :: .int x :: st) :=
  fun H locs ls hW hS hl => lv_imul F.1 F.2.1 hd (k H locs ls hW hS hl)
theorem j_iand (F : FX γ p s m args meth c cc own nL) {x y : Int32} (hd : decode cc pc = .ok (.iand, 1))  (k : JJ γ p l e R s m args below meth c nL cells slots Q S μ (pc + 1) (lv) (.int (x &&& y) :: st)) : JJ γ p l e R s m args below meth c nL cells slots Q S μ (pc) (lv) (.int y :: .int x :: st) :=
  fun H locs ls hW hS hl => lv_iand F.1 F.2.1 hd (k H locs ls hW hS hl)
theorem j_ior (F : FX γ p s m args meth c cc own nL) {x y : Int32} (hd : decode cc pc = .ok (.ior, 1))  (k : JJ γ p l e R s m args below meth c nL cells slots Q S μ (pc + 1) (lv) (.int (x ||| y) :: st)) : JJ γ p l e R s m args below meth c nL cells slots Q S μ (pc) (lv) (.int y :: .int x :: st) :=
  fun H locs ls hW hS hl => lv_ior F.1 F.2.1 hd (k H locs ls hW hS hl)
theorem j_ladd (F : FX γ p s m args meth c cc own nL) {x y : Int64} (hd : decode cc pc = .ok (.ladd, 1))  (k : JJ γ p l e R s m args below meth c nL cells slots Q S μ (pc + 1) (lv) (.long (x + y) :: st)) : JJ γ p l e R s m args below meth c nL cells slots Q S μ (pc) (lv) (.long y :: .long x :: st) :=
  fun H locs ls hW hS hl => lv_ladd F.1 F.2.1 hd (k H locs ls hW hS hl)
theorem j_lsub (F : FX γ p s m args meth c cc own nL) {x y : Int64} (hd : decode cc pc = .ok (.lsub, 1))  (k : JJ γ p l e R s m args below meth c nL cells slots Q S μ (pc + 1) (lv) (.long (x - y) :: st)) : JJ γ p l e R s m args below meth c nL cells slots Q S μ (pc) (lv) (.long y :: .long x :: st) :=
  fun H locs ls hW hS hl => lv_lsub F.1 F.2.1 hd (k H locs ls hW hS hl)
theorem j_lmul (F : FX γ p s m args meth c cc own nL) {x y : Int64} (hd : decode cc pc = .ok (.lmul, 1))  (k : JJ γ p l e R s m args below meth c nL cells slots Q S μ (pc + 1) (lv) (.long (x * y) :: st)) : JJ γ p l e R s m args below meth c nL cells slots Q S μ (pc) (lv) (.long y :: .long x :: st) :=
  fun H locs ls hW hS hl => lv_lmul F.1 F.2.1 hd (k H locs ls hW hS hl)
theorem j_land (F : FX γ p s m args meth c cc own nL) {x y : Int64} (hd : decode cc pc = .ok (.land, 1))  (k : JJ γ p l e R s m args below meth c nL cells slots Q S μ (pc + 1) (lv) (.long (x &&& y) :: st)) : JJ γ p l e R s m args below meth c nL cells slots Q S μ (pc) (lv) (.long y :: .long x :: st) :=
  fun H locs ls hW hS hl => lv_land F.1 F.2.1 hd (k H locs ls hW hS hl)
theorem j_lor (F : FX γ p s m args meth c cc own nL) {x y : Int64} (hd : decode cc pc = .ok (.lor, 1))  (k : JJ γ p l e R s m args below meth c nL cells slots Q S μ (pc + 1) (lv) (.long (x ||| y) :: st)) : JJ γ p l e R s m args below meth c nL cells slots Q S μ (pc) (lv) (.long y :: .long x :: st) :=
  fun H locs ls hW hS hl => lv_lor F.1 F.2.1 hd (k H locs ls hW hS hl)
theorem j_ineg (F : FX γ p s m args meth c cc own nL) {x : Int32} (hd : decode cc pc = .ok (.ineg, 1))  (k : JJ γ p l e R s m args below meth c nL cells slots Q S μ (pc + 1) (lv) (.int (-x) :: st)) : JJ γ p l e R s m args below meth c nL cells slots Q S μ (pc) (lv) (.int x :: st) :=
  fun H locs ls hW hS hl => lv_ineg F.1 F.2.1 hd (k H locs ls hW hS hl)
theorem j_lneg (F : FX γ p s m args meth c cc own nL) {x : Int64} (hd : decode cc pc = .ok (.lneg, 1))  (k : JJ γ p l e R s m args below meth c nL cells slots Q S μ (pc + 1) (lv) (.long (-x) :: st)) : JJ γ p l e R s m args below meth c nL cells slots Q S μ (pc) (lv) (.long x :: st) :=
  fun H locs ls hW hS hl => lv_lneg F.1 F.2.1 hd (k H locs ls hW hS hl)
theorem j_ishl (F : FX γ p s m args meth c cc own nL) {x y : Int32} (hd : decode cc pc = .ok (.ishl, 1))  (k : JJ γ p l e R s m args below meth c nL cells slots Q S μ (pc + 1) (lv) (.int (x <<< (y &&& 31)) :: st)) : JJ γ p l e R s m args below meth c nL cells slots Q S μ (pc) (lv) (.int y :: .int x :: st) :=
  fun H locs ls hW hS hl => lv_ishl F.1 F.2.1 hd (k H locs ls hW hS hl)
theorem j_ishr (F : FX γ p s m args meth c cc own nL) {x y : Int32} (hd : decode cc pc = .ok (.ishr, 1))  (k : JJ γ p l e R s m args below meth c nL cells slots Q S μ (pc + 1) (lv) (.int (x >>> (y &&& 31)) :: st)) : JJ γ p l e R s m args below meth c nL cells slots Q S μ (pc) (lv) (.int y :: .int x :: st) :=
  fun H locs ls hW hS hl => lv_ishr F.1 F.2.1 hd (k H locs ls hW hS hl)
theorem j_lshl (F : FX γ p s m args meth c cc own nL) {x : Int64} {y : Int32} (hd : decode cc pc = .ok (.lshl, 1))  (k : JJ γ p l e R s m args below meth c nL cells slots Q S μ (pc + 1) (lv) (.long (x <<< (y.toInt64 &&& 63)) :: st)) : JJ γ p l e R s m args below meth c nL cells slots Q S μ (pc) (lv) (.int y :: .long x :: st) :=
  fun H locs ls hW hS hl => lv_lshl F.1 F.2.1 hd rfl (k H locs ls hW hS hl)
theorem j_i2l (F : FX γ p s m args meth c cc own nL) {x : Int32} (hd : decode cc pc = .ok (.i2l, 1))  (k : JJ γ p l e R s m args below meth c nL cells slots Q S μ (pc + 1) (lv) (.long x.toInt64 :: st)) : JJ γ p l e R s m args below meth c nL cells slots Q S μ (pc) (lv) (.int x :: st) :=
  fun H locs ls hW hS hl => lv_i2l F.1 F.2.1 hd rfl (k H locs ls hW hS hl)
theorem j_l2i (F : FX γ p s m args meth c cc own nL) {x : Int64} (hd : decode cc pc = .ok (.l2i, 1))  (k : JJ γ p l e R s m args below meth c nL cells slots Q S μ (pc + 1) (lv) (.int x.toInt32 :: st)) : JJ γ p l e R s m args below meth c nL cells slots Q S μ (pc) (lv) (.long x :: st) :=
  fun H locs ls hW hS hl => lv_l2i F.1 F.2.1 hd rfl (k H locs ls hW hS hl)
theorem j_i2b (F : FX γ p s m args meth c cc own nL) {x : Int32} (hd : decode cc pc = .ok (.i2b, 1))  (k : JJ γ p l e R s m args below meth c nL cells slots Q S μ (pc + 1) (lv) (.int x.toInt8.toInt32 :: st)) : JJ γ p l e R s m args below meth c nL cells slots Q S μ (pc) (lv) (.int x :: st) :=
  fun H locs ls hW hS hl => lv_i2b F.1 F.2.1 hd rfl (k H locs ls hW hS hl)
theorem j_iconst (F : FX γ p s m args meth c cc own nL) {n : Int} (v : Int32) (hd : decode cc pc = .ok (.iconst n, 1)) (hv : Int32.ofInt n = v) (k : JJ γ p l e R s m args below meth c nL cells slots Q S μ (pc + 1) (lv) (.int v :: st)) : JJ γ p l e R s m args below meth c nL cells slots Q S μ (pc) (lv) (st) :=
  fun H locs ls hW hS hl => lv_iconst F.1 F.2.1 hd hv (k H locs ls hW hS hl)
theorem j_bipush (F : FX γ p s m args meth c cc own nL) {n : Int} (v : Int32) (hd : decode cc pc = .ok (.bipush n, 2)) (hv : (Int8.ofInt n).toInt32 = v) (k : JJ γ p l e R s m args below meth c nL cells slots Q S μ (pc + 2) (lv) (.int v :: st)) : JJ γ p l e R s m args below meth c nL cells slots Q S μ (pc) (lv) (st) :=
  fun H locs ls hW hS hl => lv_bipush F.1 F.2.1 hd hv (k H locs ls hW hS hl)
theorem j_sipush (F : FX γ p s m args meth c cc own nL) {n : Int} (v : Int32) (hd : decode cc pc = .ok (.sipush n, 3)) (hv : (Int16.ofInt n).toInt32 = v) (k : JJ γ p l e R s m args below meth c nL cells slots Q S μ (pc + 3) (lv) (.int v :: st)) : JJ γ p l e R s m args below meth c nL cells slots Q S μ (pc) (lv) (st) :=
  fun H locs ls hW hS hl => lv_sipush F.1 F.2.1 hd hv (k H locs ls hW hS hl)
theorem j_lconst (F : FX γ p s m args meth c cc own nL) {n : Fin 2} (v : Int64) (hd : decode cc pc = .ok (.lconst n, 1)) (hv : Int64.ofNat (n : Nat) = v) (k : JJ γ p l e R s m args below meth c nL cells slots Q S μ (pc + 1) (lv) (.long v :: st)) : JJ γ p l e R s m args below meth c nL cells slots Q S μ (pc) (lv) (st) :=
  fun H locs ls hW hS hl => lv_lconst F.1 F.2.1 hd hv (k H locs ls hW hS hl)
theorem j_dup (F : FX γ p s m args meth c cc own nL) {x : Value} (hd : decode cc pc = .ok (.dup, 1)) (hc : x.category = 1) (k : JJ γ p l e R s m args below meth c nL cells slots Q S μ (pc + 1) (lv) (x :: x :: st)) : JJ γ p l e R s m args below meth c nL cells slots Q S μ (pc) (lv) (x :: st) :=
  fun H locs ls hW hS hl => lv_dup F.1 F.2.1 hd hc (k H locs ls hW hS hl)
theorem j_dup2 (F : FX γ p s m args meth c cc own nL) {x y : Value} (hd : decode cc pc = .ok (.dup2, 1)) (hc : x.category = 1) (hc2 : y.category = 1) (k : JJ γ p l e R s m args below meth c nL cells slots Q S μ (pc + 1) (lv) (x :: y :: x :: y :: st)) : JJ γ p l e R s m args below meth c nL cells slots Q S μ (pc) (lv) (x :: y :: st) :=
  fun H locs ls hW hS hl => lv_dup2_11 F.1 F.2.1 hd hc hc2 (k H locs ls hW hS hl)
theorem j_ldc2 (F : FX γ p s m args meth c cc own nL) {idx : Nat} (v : Int64) (hd : decode cc pc = .ok (.ldc2_w idx, 3)) (hw : Cond.constantLong own idx v ∈ GG) (k : JJ γ p l e R s m args below meth c nL cells slots Q S μ (pc + 3) (lv) (.long v :: st)) : JJ γ p l e R s m args below meth c nL cells slots Q S μ (pc) (lv) (st) :=
  fun H locs ls hW hS hl => lv_ldc2 F.1 F.2.1 F.2.2.2.1 (F.2.2.2.2.1 _ hw) hd (k H locs ls hW hS hl)
theorem j_ldci (F : FX γ p s m args meth c cc own nL) {idx : Nat} (v : Int32) (hd : decode cc pc = .ok (.ldc idx, 2)) (hw : Cond.constant own idx v ∈ GG) (k : JJ γ p l e R s m args below meth c nL cells slots Q S μ (pc + 2) (lv) (.int v :: st)) : JJ γ p l e R s m args below meth c nL cells slots Q S μ (pc) (lv) (st) :=
  fun H locs ls hW hS hl => lv_ldc F.1 F.2.1 F.2.2.2.1 (F.2.2.2.2.1 _ hw) hd (k H locs ls hW hS hl)
theorem j_iload_n (F : FX γ p s m args meth c cc own nL) {k : Fin 4} {x : Int32} (q : Nat) (hd : decode cc pc = .ok (.iload_n k, 1)) (hq : lv[q]? = some ((k : Nat), .int x)) (kk : JJ γ p l e R s m args below meth c nL cells slots Q S μ (pc + 1) (lv) (.int x :: st)) : JJ γ p l e R s m args below meth c nL cells slots Q S μ (pc) (lv) (st) :=
  fun H locs ls hW hS hl => lv_iload_n F.1 F.2.1 hd rfl (lv_at hl q hq) (kk H locs ls hW hS hl)
theorem j_iload (F : FX γ p s m args meth c cc own nL) {i : Nat} {x : Int32} (q : Nat) (hd : decode cc pc = .ok (.iload i, 2)) (hq : lv[q]? = some (i, .int x)) (kk : JJ γ p l e R s m args below meth c nL cells slots Q S μ (pc + 2) (lv) (.int x :: st)) : JJ γ p l e R s m args below meth c nL cells slots Q S μ (pc) (lv) (st) :=
  fun H locs ls hW hS hl => lv_iload F.1 F.2.1 hd (lv_at hl q hq) (kk H locs ls hW hS hl)
theorem j_istore_n (F : FX γ p s m args meth c cc own nL) {k : Fin 4} {i : Nat} {x : Int32} (lv' : List (Nat × Value)) (hd : decode cc pc = .ok (.istore_n k, 1)) (hi : (k : Nat) = i) (hn : i < nL) (hl' : (i, Value.int x) :: lv.filter (fun q => !(q.1 == i) && !(q.1 + 1 == i && q.2.category == 2)) = lv') (kk : JJ γ p l e R s m args below meth c nL cells slots Q S μ (pc + 1) (lv') (st)) : JJ γ p l e R s m args below meth c nL cells slots Q S μ (pc) (lv) (.int x :: st) :=
  fun H locs ls hW hS hl => lv_istore_n F.1 F.2.1 hd hi hl hn hl' (fun ls' hl2 => kk H locs ls' hW hS hl2)
theorem j_istore (F : FX γ p s m args meth c cc own nL) {i : Nat} {x : Int32} (lv' : List (Nat × Value)) (hd : decode cc pc = .ok (.istore i, 2)) (hn : i < nL) (hl' : (i, Value.int x) :: lv.filter (fun q => !(q.1 == i) && !(q.1 + 1 == i && q.2.category == 2)) = lv') (kk : JJ γ p l e R s m args below meth c nL cells slots Q S μ (pc + 2) (lv') (st)) : JJ γ p l e R s m args below meth c nL cells slots Q S μ (pc) (lv) (.int x :: st) :=
  fun H locs ls hW hS hl => lv_istore F.1 F.2.1 hd hl hn hl' (fun ls' hl2 => kk H locs ls' hW hS hl2)
theorem j_lload_n (F : FX γ p s m args meth c cc own nL) {k : Fin 4} {x : Int64} (q : Nat) (hd : decode cc pc = .ok (.lload_n k, 1)) (hq : lv[q]? = some ((k : Nat), .long x)) (kk : JJ γ p l e R s m args below meth c nL cells slots Q S μ (pc + 1) (lv) (.long x :: st)) : JJ γ p l e R s m args below meth c nL cells slots Q S μ (pc) (lv) (st) :=
  fun H locs ls hW hS hl => lv_lload_n F.1 F.2.1 hd rfl (lv_at hl q hq) (kk H locs ls hW hS hl)
theorem j_lload (F : FX γ p s m args meth c cc own nL) {i : Nat} {x : Int64} (q : Nat) (hd : decode cc pc = .ok (.lload i, 2)) (hq : lv[q]? = some (i, .long x)) (kk : JJ γ p l e R s m args below meth c nL cells slots Q S μ (pc + 2) (lv) (.long x :: st)) : JJ γ p l e R s m args below meth c nL cells slots Q S μ (pc) (lv) (st) :=
  fun H locs ls hW hS hl => lv_lload F.1 F.2.1 hd (lv_at hl q hq) (kk H locs ls hW hS hl)
theorem j_lstore_n (F : FX γ p s m args meth c cc own nL) {k : Fin 4} {i : Nat} {x : Int64} (lv' : List (Nat × Value)) (hd : decode cc pc = .ok (.lstore_n k, 1)) (hi : (k : Nat) = i) (hn : i + 1 < nL) (hl' : (i, Value.long x) :: lv.filter (fun q => !(q.1 == i) && (!(q.1 == i + 1) && !(q.1 + 1 == i && q.2.category == 2))) = lv') (kk : JJ γ p l e R s m args below meth c nL cells slots Q S μ (pc + 1) (lv') (st)) : JJ γ p l e R s m args below meth c nL cells slots Q S μ (pc) (lv) (.long x :: st) :=
  fun H locs ls hW hS hl => lv_lstore_n F.1 F.2.1 hd hi hl hn hl' (fun ls' hl2 => kk H locs ls' hW hS hl2)
theorem j_lstore (F : FX γ p s m args meth c cc own nL) {i : Nat} {x : Int64} (lv' : List (Nat × Value)) (hd : decode cc pc = .ok (.lstore i, 2)) (hn : i + 1 < nL) (hl' : (i, Value.long x) :: lv.filter (fun q => !(q.1 == i) && (!(q.1 == i + 1) && !(q.1 + 1 == i && q.2.category == 2))) = lv') (kk : JJ γ p l e R s m args below meth c nL cells slots Q S μ (pc + 2) (lv') (st)) : JJ γ p l e R s m args below meth c nL cells slots Q S μ (pc) (lv) (.long x :: st) :=
  fun H locs ls hW hS hl => lv_lstore F.1 F.2.1 hd hl hn hl' (fun ls' hl2 => kk H locs ls' hW hS hl2)
theorem j_aload_n (F : FX γ p s m args meth c cc own nL) {k : Fin 4} {x : Nat} (q : Nat) (hd : decode cc pc = .ok (.aload_n k, 1)) (hq : lv[q]? = some ((k : Nat), .ref x)) (kk : JJ γ p l e R s m args below meth c nL cells slots Q S μ (pc + 1) (lv) (.ref x :: st)) : JJ γ p l e R s m args below meth c nL cells slots Q S μ (pc) (lv) (st) :=
  fun H locs ls hW hS hl => lv_aload_n F.1 F.2.1 hd rfl (lv_at hl q hq) (kk H locs ls hW hS hl)
theorem j_aload (F : FX γ p s m args meth c cc own nL) {i : Nat} {x : Nat} (q : Nat) (hd : decode cc pc = .ok (.aload i, 2)) (hq : lv[q]? = some (i, .ref x)) (kk : JJ γ p l e R s m args below meth c nL cells slots Q S μ (pc + 2) (lv) (.ref x :: st)) : JJ γ p l e R s m args below meth c nL cells slots Q S μ (pc) (lv) (st) :=
  fun H locs ls hW hS hl => lv_aload F.1 F.2.1 hd (lv_at hl q hq) (kk H locs ls hW hS hl)
theorem j_astore_n (F : FX γ p s m args meth c cc own nL) {k : Fin 4} {i : Nat} {x : Nat} (lv' : List (Nat × Value)) (hd : decode cc pc = .ok (.astore_n k, 1)) (hi : (k : Nat) = i) (hn : i < nL) (hl' : (i, Value.ref x) :: lv.filter (fun q => !(q.1 == i) && !(q.1 + 1 == i && q.2.category == 2)) = lv') (kk : JJ γ p l e R s m args below meth c nL cells slots Q S μ (pc + 1) (lv') (st)) : JJ γ p l e R s m args below meth c nL cells slots Q S μ (pc) (lv) (.ref x :: st) :=
  fun H locs ls hW hS hl => lv_astore_n F.1 F.2.1 hd hi hl hn hl' (fun ls' hl2 => kk H locs ls' hW hS hl2)
theorem j_astore (F : FX γ p s m args meth c cc own nL) {i : Nat} {x : Nat} (lv' : List (Nat × Value)) (hd : decode cc pc = .ok (.astore i, 2)) (hn : i < nL) (hl' : (i, Value.ref x) :: lv.filter (fun q => !(q.1 == i) && !(q.1 + 1 == i && q.2.category == 2)) = lv') (kk : JJ γ p l e R s m args below meth c nL cells slots Q S μ (pc + 2) (lv') (st)) : JJ γ p l e R s m args below meth c nL cells slots Q S μ (pc) (lv) (.ref x :: st) :=
  fun H locs ls hW hS hl => lv_astore F.1 F.2.1 hd hl hn hl' (fun ls' hl2 => kk H locs ls' hW hS hl2)
theorem j_iinc (F : FX γ p s m args meth c cc own nL) {i : Nat} {n : Int} {x : Int32} (v : Int32) (q : Nat) (lv' : List (Nat × Value)) (hd : decode cc pc = .ok (.iinc i n, 3)) (hq : lv[q]? = some (i, .int x)) (hv : Int32.ofInt n = v) (hn : i < nL) (hl' : (i, Value.int (x + v)) :: lv.filter (fun q => !(q.1 == i) && !(q.1 + 1 == i && q.2.category == 2)) = lv') (kk : JJ γ p l e R s m args below meth c nL cells slots Q S μ (pc + 3) (lv') (st)) : JJ γ p l e R s m args below meth c nL cells slots Q S μ (pc) (lv) (st) :=
  fun H locs ls hW hS hl => lv_iinc F.1 F.2.1 hd hl hq (by rw [hv]) hn hl' (fun ls' hl2 => kk H locs ls' hW hS hl2)
theorem j_ifeq (F : FX γ p s m args meth c cc own nL) {x : Int32} {off : Int} (tgt : Nat) {a b : Option ρ} (hd : decode cc pc = .ok (.ifCond .eq off, 3)) (ht : (pc : Int) + off = (tgt : Int)) (h : (if x = 0 then a else b) = some X) (kt : x = 0 → a = some X → JJ γ p l e R s m args below meth c nL cells slots Q S μ (tgt) (lv) (st)) (kf : ¬ (x = 0) → b = some X → JJ γ p l e R s m args below meth c nL cells slots Q S μ (pc + 3) (lv) (st)) : JJ γ p l e R s m args below meth c nL cells slots Q S μ (pc) (lv) (.int x :: st) :=
  fun H locs ls hW hS hl => lv_if_eq F.1 F.2.1 hd ht (fun q => kt q (by rw [if_pos q] at h; exact h) H locs ls hW hS hl) (fun q => kf q (by rw [if_neg q] at h; exact h) H locs ls hW hS hl)
theorem j_icmpeq (F : FX γ p s m args meth c cc own nL) {x y : Int32} {off : Int} (tgt : Nat) {a b : Option ρ} (hd : decode cc pc = .ok (.if_icmp .eq off, 3)) (ht : (pc : Int) + off = (tgt : Int)) (h : (if x = y then a else b) = some X) (kt : x = y → a = some X → JJ γ p l e R s m args below meth c nL cells slots Q S μ (tgt) (lv) (st)) (kf : ¬ (x = y) → b = some X → JJ γ p l e R s m args below meth c nL cells slots Q S μ (pc + 3) (lv) (st)) : JJ γ p l e R s m args below meth c nL cells slots Q S μ (pc) (lv) (.int y :: .int x :: st) :=
  fun H locs ls hW hS hl => lv_icmp_eq F.1 F.2.1 hd ht (fun q => kt q (by rw [if_pos q] at h; exact h) H locs ls hW hS hl) (fun q => kf q (by rw [if_neg q] at h; exact h) H locs ls hW hS hl)
theorem j_iflt (F : FX γ p s m args meth c cc own nL) {x : Int32} {off : Int} (tgt : Nat) {a b : Option ρ} (hd : decode cc pc = .ok (.ifCond .lt off, 3)) (ht : (pc : Int) + off = (tgt : Int)) (h : (if x < 0 then a else b) = some X) (kt : x < 0 → a = some X → JJ γ p l e R s m args below meth c nL cells slots Q S μ (tgt) (lv) (st)) (kf : ¬ (x < 0) → b = some X → JJ γ p l e R s m args below meth c nL cells slots Q S μ (pc + 3) (lv) (st)) : JJ γ p l e R s m args below meth c nL cells slots Q S μ (pc) (lv) (.int x :: st) :=
  fun H locs ls hW hS hl => lv_if_lt F.1 F.2.1 hd ht (fun q => kt q (by rw [if_pos q] at h; exact h) H locs ls hW hS hl) (fun q => kf q (by rw [if_neg q] at h; exact h) H locs ls hW hS hl)
theorem j_icmplt (F : FX γ p s m args meth c cc own nL) {x y : Int32} {off : Int} (tgt : Nat) {a b : Option ρ} (hd : decode cc pc = .ok (.if_icmp .lt off, 3)) (ht : (pc : Int) + off = (tgt : Int)) (h : (if x < y then a else b) = some X) (kt : x < y → a = some X → JJ γ p l e R s m args below meth c nL cells slots Q S μ (tgt) (lv) (st)) (kf : ¬ (x < y) → b = some X → JJ γ p l e R s m args below meth c nL cells slots Q S μ (pc + 3) (lv) (st)) : JJ γ p l e R s m args below meth c nL cells slots Q S μ (pc) (lv) (.int y :: .int x :: st) :=
  fun H locs ls hW hS hl => lv_icmp_lt F.1 F.2.1 hd ht (fun q => kt q (by rw [if_pos q] at h; exact h) H locs ls hW hS hl) (fun q => kf q (by rw [if_neg q] at h; exact h) H locs ls hW hS hl)
theorem j_ifge (F : FX γ p s m args meth c cc own nL) {x : Int32} {off : Int} (tgt : Nat) {a b : Option ρ} (hd : decode cc pc = .ok (.ifCond .ge off, 3)) (ht : (pc : Int) + off = (tgt : Int)) (h : (if 0 ≤ x then a else b) = some X) (kt : 0 ≤ x → a = some X → JJ γ p l e R s m args below meth c nL cells slots Q S μ (tgt) (lv) (st)) (kf : ¬ (0 ≤ x) → b = some X → JJ γ p l e R s m args below meth c nL cells slots Q S μ (pc + 3) (lv) (st)) : JJ γ p l e R s m args below meth c nL cells slots Q S μ (pc) (lv) (.int x :: st) :=
  fun H locs ls hW hS hl => lv_if_ge F.1 F.2.1 hd ht (fun q => kt q (by rw [if_pos q] at h; exact h) H locs ls hW hS hl) (fun q => kf q (by rw [if_neg q] at h; exact h) H locs ls hW hS hl)
theorem j_icmpge (F : FX γ p s m args meth c cc own nL) {x y : Int32} {off : Int} (tgt : Nat) {a b : Option ρ} (hd : decode cc pc = .ok (.if_icmp .ge off, 3)) (ht : (pc : Int) + off = (tgt : Int)) (h : (if y ≤ x then a else b) = some X) (kt : y ≤ x → a = some X → JJ γ p l e R s m args below meth c nL cells slots Q S μ (tgt) (lv) (st)) (kf : ¬ (y ≤ x) → b = some X → JJ γ p l e R s m args below meth c nL cells slots Q S μ (pc + 3) (lv) (st)) : JJ γ p l e R s m args below meth c nL cells slots Q S μ (pc) (lv) (.int y :: .int x :: st) :=
  fun H locs ls hW hS hl => lv_icmp_ge F.1 F.2.1 hd ht (fun q => kt q (by rw [if_pos q] at h; exact h) H locs ls hW hS hl) (fun q => kf q (by rw [if_neg q] at h; exact h) H locs ls hW hS hl)
theorem j_ifgt (F : FX γ p s m args meth c cc own nL) {x : Int32} {off : Int} (tgt : Nat) {a b : Option ρ} (hd : decode cc pc = .ok (.ifCond .gt off, 3)) (ht : (pc : Int) + off = (tgt : Int)) (h : (if 0 < x then a else b) = some X) (kt : 0 < x → a = some X → JJ γ p l e R s m args below meth c nL cells slots Q S μ (tgt) (lv) (st)) (kf : ¬ (0 < x) → b = some X → JJ γ p l e R s m args below meth c nL cells slots Q S μ (pc + 3) (lv) (st)) : JJ γ p l e R s m args below meth c nL cells slots Q S μ (pc) (lv) (.int x :: st) :=
  fun H locs ls hW hS hl => lv_if_gt F.1 F.2.1 hd ht (fun q => kt q (by rw [if_pos q] at h; exact h) H locs ls hW hS hl) (fun q => kf q (by rw [if_neg q] at h; exact h) H locs ls hW hS hl)
theorem j_icmpgt (F : FX γ p s m args meth c cc own nL) {x y : Int32} {off : Int} (tgt : Nat) {a b : Option ρ} (hd : decode cc pc = .ok (.if_icmp .gt off, 3)) (ht : (pc : Int) + off = (tgt : Int)) (h : (if y < x then a else b) = some X) (kt : y < x → a = some X → JJ γ p l e R s m args below meth c nL cells slots Q S μ (tgt) (lv) (st)) (kf : ¬ (y < x) → b = some X → JJ γ p l e R s m args below meth c nL cells slots Q S μ (pc + 3) (lv) (st)) : JJ γ p l e R s m args below meth c nL cells slots Q S μ (pc) (lv) (.int y :: .int x :: st) :=
  fun H locs ls hW hS hl => lv_icmp_gt F.1 F.2.1 hd ht (fun q => kt q (by rw [if_pos q] at h; exact h) H locs ls hW hS hl) (fun q => kf q (by rw [if_neg q] at h; exact h) H locs ls hW hS hl)
theorem j_ifle (F : FX γ p s m args meth c cc own nL) {x : Int32} {off : Int} (tgt : Nat) {a b : Option ρ} (hd : decode cc pc = .ok (.ifCond .le off, 3)) (ht : (pc : Int) + off = (tgt : Int)) (h : (if x ≤ 0 then a else b) = some X) (kt : x ≤ 0 → a = some X → JJ γ p l e R s m args below meth c nL cells slots Q S μ (tgt) (lv) (st)) (kf : ¬ (x ≤ 0) → b = some X → JJ γ p l e R s m args below meth c nL cells slots Q S μ (pc + 3) (lv) (st)) : JJ γ p l e R s m args below meth c nL cells slots Q S μ (pc) (lv) (.int x :: st) :=
  fun H locs ls hW hS hl => lv_if_le F.1 F.2.1 hd ht (fun q => kt q (by rw [if_pos q] at h; exact h) H locs ls hW hS hl) (fun q => kf q (by rw [if_neg q] at h; exact h) H locs ls hW hS hl)
theorem j_icmple (F : FX γ p s m args meth c cc own nL) {x y : Int32} {off : Int} (tgt : Nat) {a b : Option ρ} (hd : decode cc pc = .ok (.if_icmp .le off, 3)) (ht : (pc : Int) + off = (tgt : Int)) (h : (if x ≤ y then a else b) = some X) (kt : x ≤ y → a = some X → JJ γ p l e R s m args below meth c nL cells slots Q S μ (tgt) (lv) (st)) (kf : ¬ (x ≤ y) → b = some X → JJ γ p l e R s m args below meth c nL cells slots Q S μ (pc + 3) (lv) (st)) : JJ γ p l e R s m args below meth c nL cells slots Q S μ (pc) (lv) (.int y :: .int x :: st) :=
  fun H locs ls hW hS hl => lv_icmp_le F.1 F.2.1 hd ht (fun q => kt q (by rw [if_pos q] at h; exact h) H locs ls hW hS hl) (fun q => kf q (by rw [if_neg q] at h; exact h) H locs ls hW hS hl)
theorem j_ifne (F : FX γ p s m args meth c cc own nL) {x : Int32} {off : Int} (tgt : Nat) {a b : Option ρ} (hd : decode cc pc = .ok (.ifCond .ne off, 3)) (ht : (pc : Int) + off = (tgt : Int)) (h : (if x = 0 then a else b) = some X) (kt : ¬ (x = 0) → b = some X → JJ γ p l e R s m args below meth c nL cells slots Q S μ (tgt) (lv) (st)) (kf : x = 0 → a = some X → JJ γ p l e R s m args below meth c nL cells slots Q S μ (pc + 3) (lv) (st)) : JJ γ p l e R s m args below meth c nL cells slots Q S μ (pc) (lv) (.int x :: st) :=
  fun H locs ls hW hS hl => lv_if_ne F.1 F.2.1 hd ht (fun q => kt q (by rw [if_neg q] at h; exact h) H locs ls hW hS hl) (fun q => kf q (by rw [if_pos q] at h; exact h) H locs ls hW hS hl)
theorem j_icmpne (F : FX γ p s m args meth c cc own nL) {x y : Int32} {off : Int} (tgt : Nat) {a b : Option ρ} (hd : decode cc pc = .ok (.if_icmp .ne off, 3)) (ht : (pc : Int) + off = (tgt : Int)) (h : (if x = y then a else b) = some X) (kt : ¬ (x = y) → b = some X → JJ γ p l e R s m args below meth c nL cells slots Q S μ (tgt) (lv) (st)) (kf : x = y → a = some X → JJ γ p l e R s m args below meth c nL cells slots Q S μ (pc + 3) (lv) (st)) : JJ γ p l e R s m args below meth c nL cells slots Q S μ (pc) (lv) (.int y :: .int x :: st) :=
  fun H locs ls hW hS hl => lv_icmp_ne F.1 F.2.1 hd ht (fun q => kt q (by rw [if_neg q] at h; exact h) H locs ls hW hS hl) (fun q => kf q (by rw [if_pos q] at h; exact h) H locs ls hW hS hl)
theorem j_lcmpeq (F : FX γ p s m args meth c cc own nL) {x y : Int64} {off : Int} (tgt : Nat) {a b : Option ρ} (hd : decode cc pc = .ok (.lcmp, 1)) (hd2 : decode cc (pc + 1) = .ok (.ifCond .eq off, 3)) (ht : ((pc + 1 : Nat) : Int) + off = (tgt : Int)) (h : (if x = y then a else b) = some X) (kt : x = y → a = some X → JJ γ p l e R s m args below meth c nL cells slots Q S μ (tgt) (lv) (st)) (kf : ¬ (x = y) → b = some X → JJ γ p l e R s m args below meth c nL cells slots Q S μ (pc + 1 + 3) (lv) (st)) : JJ γ p l e R s m args below meth c nL cells slots Q S μ (pc) (lv) (.long y :: .long x :: st) :=
  fun H locs ls hW hS hl => W.lcmp F.1 F.2.1 hd (lv_if_eq F.1 F.2.1 hd2 ht (fun q => kt (lc_eq.mp q) (by rw [if_pos (lc_eq.mp q)] at h; exact h) H locs ls hW hS hl) (fun q => kf (fun z => q (lc_eq.mpr z)) (by rw [if_neg (fun z => q (lc_eq.mpr z))] at h; exact h) H locs ls hW hS hl))
theorem j_lcmplt (F : FX γ p s m args meth c cc own nL) {x y : Int64} {off : Int} (tgt : Nat) {a b : Option ρ} (hd : decode cc pc = .ok (.lcmp, 1)) (hd2 : decode cc (pc + 1) = .ok (.ifCond .lt off, 3)) (ht : ((pc + 1 : Nat) : Int) + off = (tgt : Int)) (h : (if x < y then a else b) = some X) (kt : x < y → a = some X → JJ γ p l e R s m args below meth c nL cells slots Q S μ (tgt) (lv) (st)) (kf : ¬ (x < y) → b = some X → JJ γ p l e R s m args below meth c nL cells slots Q S μ (pc + 1 + 3) (lv) (st)) : JJ γ p l e R s m args below meth c nL cells slots Q S μ (pc) (lv) (.long y :: .long x :: st) :=
  fun H locs ls hW hS hl => W.lcmp F.1 F.2.1 hd (lv_if_lt F.1 F.2.1 hd2 ht (fun q => kt (lc_lt.mp q) (by rw [if_pos (lc_lt.mp q)] at h; exact h) H locs ls hW hS hl) (fun q => kf (fun z => q (lc_lt.mpr z)) (by rw [if_neg (fun z => q (lc_lt.mpr z))] at h; exact h) H locs ls hW hS hl))
theorem j_lcmpge (F : FX γ p s m args meth c cc own nL) {x y : Int64} {off : Int} (tgt : Nat) {a b : Option ρ} (hd : decode cc pc = .ok (.lcmp, 1)) (hd2 : decode cc (pc + 1) = .ok (.ifCond .ge off, 3)) (ht : ((pc + 1 : Nat) : Int) + off = (tgt : Int)) (h : (if y ≤ x then a else b) = some X) (kt : y ≤ x → a = some X → JJ γ p l e R s m args below meth c nL cells slots Q S μ (tgt) (lv) (st)) (kf : ¬ (y ≤ x) → b = some X → JJ γ p l e R s m args below meth c nL cells slots Q S μ (pc + 1 + 3) (lv) (st)) : JJ γ p l e R s m args below meth c nL cells slots Q S μ (pc) (lv) (.long y :: .long x :: st) :=
  fun H locs ls hW hS hl => W.lcmp F.1 F.2.1 hd (lv_if_ge F.1 F.2.1 hd2 ht (fun q => kt (lc_ge.mp q) (by rw [if_pos (lc_ge.mp q)] at h; exact h) H locs ls hW hS hl) (fun q => kf (fun z => q (lc_ge.mpr z)) (by rw [if_neg (fun z => q (lc_ge.mpr z))] at h; exact h) H locs ls hW hS hl))
theorem j_lcmpgt (F : FX γ p s m args meth c cc own nL) {x y : Int64} {off : Int} (tgt : Nat) {a b : Option ρ} (hd : decode cc pc = .ok (.lcmp, 1)) (hd2 : decode cc (pc + 1) = .ok (.ifCond .gt off, 3)) (ht : ((pc + 1 : Nat) : Int) + off = (tgt : Int)) (h : (if y < x then a else b) = some X) (kt : y < x → a = some X → JJ γ p l e R s m args below meth c nL cells slots Q S μ (tgt) (lv) (st)) (kf : ¬ (y < x) → b = some X → JJ γ p l e R s m args below meth c nL cells slots Q S μ (pc + 1 + 3) (lv) (st)) : JJ γ p l e R s m args below meth c nL cells slots Q S μ (pc) (lv) (.long y :: .long x :: st) :=
  fun H locs ls hW hS hl => W.lcmp F.1 F.2.1 hd (lv_if_gt F.1 F.2.1 hd2 ht (fun q => kt (lc_gt.mp q) (by rw [if_pos (lc_gt.mp q)] at h; exact h) H locs ls hW hS hl) (fun q => kf (fun z => q (lc_gt.mpr z)) (by rw [if_neg (fun z => q (lc_gt.mpr z))] at h; exact h) H locs ls hW hS hl))
theorem j_lcmple (F : FX γ p s m args meth c cc own nL) {x y : Int64} {off : Int} (tgt : Nat) {a b : Option ρ} (hd : decode cc pc = .ok (.lcmp, 1)) (hd2 : decode cc (pc + 1) = .ok (.ifCond .le off, 3)) (ht : ((pc + 1 : Nat) : Int) + off = (tgt : Int)) (h : (if x ≤ y then a else b) = some X) (kt : x ≤ y → a = some X → JJ γ p l e R s m args below meth c nL cells slots Q S μ (tgt) (lv) (st)) (kf : ¬ (x ≤ y) → b = some X → JJ γ p l e R s m args below meth c nL cells slots Q S μ (pc + 1 + 3) (lv) (st)) : JJ γ p l e R s m args below meth c nL cells slots Q S μ (pc) (lv) (.long y :: .long x :: st) :=
  fun H locs ls hW hS hl => W.lcmp F.1 F.2.1 hd (lv_if_le F.1 F.2.1 hd2 ht (fun q => kt (lc_le.mp q) (by rw [if_pos (lc_le.mp q)] at h; exact h) H locs ls hW hS hl) (fun q => kf (fun z => q (lc_le.mpr z)) (by rw [if_neg (fun z => q (lc_le.mpr z))] at h; exact h) H locs ls hW hS hl))
theorem j_lcmpne (F : FX γ p s m args meth c cc own nL) {x y : Int64} {off : Int} (tgt : Nat) {a b : Option ρ} (hd : decode cc pc = .ok (.lcmp, 1)) (hd2 : decode cc (pc + 1) = .ok (.ifCond .ne off, 3)) (ht : ((pc + 1 : Nat) : Int) + off = (tgt : Int)) (h : (if x = y then a else b) = some X) (kt : ¬ (x = y) → b = some X → JJ γ p l e R s m args below meth c nL cells slots Q S μ (tgt) (lv) (st)) (kf : x = y → a = some X → JJ γ p l e R s m args below meth c nL cells slots Q S μ (pc + 1 + 3) (lv) (st)) : JJ γ p l e R s m args below meth c nL cells slots Q S μ (pc) (lv) (.long y :: .long x :: st) :=
  fun H locs ls hW hS hl => W.lcmp F.1 F.2.1 hd (lv_if_ne F.1 F.2.1 hd2 ht (fun q => kt (fun z => q (lc_eq.mpr z)) (by rw [if_neg (fun z => q (lc_eq.mpr z))] at h; exact h) H locs ls hW hS hl) (fun q => kf (lc_eq.mp q) (by rw [if_pos (lc_eq.mp q)] at h; exact h) H locs ls hW hS hl))
theorem j_goto (F : FX γ p s m args meth c cc own nL) {off : Int} (tgt : Nat) (hd : decode cc pc = .ok (.goto off, 3)) (ht : (pc : Int) + off = (tgt : Int)) (k : JJ γ p l e R s m args below meth c nL cells slots Q S μ (tgt) (lv) (st)) : JJ γ p l e R s m args below meth c nL cells slots Q S μ (pc) (lv) (st) :=
  fun H locs ls hW hS hl => lv_goto F.1 F.2.1 hd ht (k H locs ls hW hS hl)
theorem j_idiv (F : FX γ p s m args meth c cc own nL) {x y : Int32} {K : Int32 → Option ρ} (hd : decode cc pc = .ok (.idiv, 1)) (h : (o_idiv x y).bind K = some X) (k : ∀ v, K v = some X → JJ γ p l e R s m args below meth c nL cells slots Q S μ (pc + 1) (lv) (.int v :: st)) : JJ γ p l e R s m args below meth c nL cells slots Q S μ (pc) (lv) (.int y :: .int x :: st) := by
  obtain ⟨v, hv, h⟩ := bd_some h
  unfold o_idiv at hv
  split at hv
  · cases hv
  · cases hv
    exact fun H locs ls hW hS hl => lv_idiv F.1 F.2.1 hd (by assumption) (k _ h H locs ls hW hS hl)
theorem j_idivc (F : FX γ p s m args meth c cc own nL) {x y : Int32} (hd : decode cc pc = .ok (.idiv, 1)) (hy : ¬ y = 0) (k : JJ γ p l e R s m args below meth c nL cells slots Q S μ (pc + 1) (lv) (.int (x / y) :: st)) : JJ γ p l e R s m args below meth c nL cells slots Q S μ (pc) (lv) (.int y :: .int x :: st) :=
  fun H locs ls hW hS hl => lv_idiv F.1 F.2.1 hd hy (k H locs ls hW hS hl)
theorem j_irem (F : FX γ p s m args meth c cc own nL) {x y : Int32} {K : Int32 → Option ρ} (hd : decode cc pc = .ok (.irem, 1)) (h : (o_irem x y).bind K = some X) (k : ∀ v, K v = some X → JJ γ p l e R s m args below meth c nL cells slots Q S μ (pc + 1) (lv) (.int v :: st)) : JJ γ p l e R s m args below meth c nL cells slots Q S μ (pc) (lv) (.int y :: .int x :: st) := by
  obtain ⟨v, hv, h⟩ := bd_some h
  unfold o_irem at hv
  split at hv
  · cases hv
  · cases hv
    exact fun H locs ls hW hS hl => lv_irem F.1 F.2.1 hd (by assumption) (k _ h H locs ls hW hS hl)
theorem j_iremc (F : FX γ p s m args meth c cc own nL) {x y : Int32} (hd : decode cc pc = .ok (.irem, 1)) (hy : ¬ y = 0) (k : JJ γ p l e R s m args below meth c nL cells slots Q S μ (pc + 1) (lv) (.int (x - x / y * y) :: st)) : JJ γ p l e R s m args below meth c nL cells slots Q S μ (pc) (lv) (.int y :: .int x :: st) :=
  fun H locs ls hW hS hl => lv_irem F.1 F.2.1 hd hy (k H locs ls hW hS hl)
theorem j_ldiv (F : FX γ p s m args meth c cc own nL) {x y : Int64} {K : Int64 → Option ρ} (hd : decode cc pc = .ok (.ldiv, 1)) (h : (o_ldiv x y).bind K = some X) (k : ∀ v, K v = some X → JJ γ p l e R s m args below meth c nL cells slots Q S μ (pc + 1) (lv) (.long v :: st)) : JJ γ p l e R s m args below meth c nL cells slots Q S μ (pc) (lv) (.long y :: .long x :: st) := by
  obtain ⟨v, hv, h⟩ := bd_some h
  unfold o_ldiv at hv
  split at hv
  · cases hv
  · cases hv
    exact fun H locs ls hW hS hl => lv_ldiv F.1 F.2.1 hd (by assumption) (k _ h H locs ls hW hS hl)
theorem j_ldivc (F : FX γ p s m args meth c cc own nL) {x y : Int64} (hd : decode cc pc = .ok (.ldiv, 1)) (hy : ¬ y = 0) (k : JJ γ p l e R s m args below meth c nL cells slots Q S μ (pc + 1) (lv) (.long (x / y) :: st)) : JJ γ p l e R s m args below meth c nL cells slots Q S μ (pc) (lv) (.long y :: .long x :: st) :=
  fun H locs ls hW hS hl => lv_ldiv F.1 F.2.1 hd hy (k H locs ls hW hS hl)
theorem j_lrem (F : FX γ p s m args meth c cc own nL) {x y : Int64} {K : Int64 → Option ρ} (hd : decode cc pc = .ok (.lrem, 1)) (h : (o_lrem x y).bind K = some X) (k : ∀ v, K v = some X → JJ γ p l e R s m args below meth c nL cells slots Q S μ (pc + 1) (lv) (.long v :: st)) : JJ γ p l e R s m args below meth c nL cells slots Q S μ (pc) (lv) (.long y :: .long x :: st) := by
  obtain ⟨v, hv, h⟩ := bd_some h
  unfold o_lrem at hv
  split at hv
  · cases hv
  · cases hv
    exact fun H locs ls hW hS hl => lv_lrem F.1 F.2.1 hd (by assumption) (k _ h H locs ls hW hS hl)
theorem j_lremc (F : FX γ p s m args meth c cc own nL) {x y : Int64} (hd : decode cc pc = .ok (.lrem, 1)) (hy : ¬ y = 0) (k : JJ γ p l e R s m args below meth c nL cells slots Q S μ (pc + 1) (lv) (.long (x - x / y * y) :: st)) : JJ γ p l e R s m args below meth c nL cells slots Q S μ (pc) (lv) (.long y :: .long x :: st) :=
  fun H locs ls hW hS hl => lv_lrem F.1 F.2.1 hd hy (k H locs ls hW hS hl)
theorem ofB {x : Int32} {n : Nat} {ρ : Type} {a : ρ} {X : ρ} (h : (if inb x n = true then some a else none) = some X) : inb x n = true ∧ a = X := by
  by_cases hi : inb x n = true
  · rw [if_pos hi] at h; exact ⟨hi, Option.some.inj h⟩
  · rw [if_neg hi] at h; cases h
theorem j_gI (F : FX γ p s m args meth c cc own nL) {idx ci o j : Nat} {K : Int32 → Option ρ} (hf : FL own idx ci j) (ht : kI (tyf ci j) = true) (hd : decode cc pc = .ok (.getfield idx, 3)) (h : (gI S ci o j μ).bind K = some X) (k : ∀ v, K v = some X → JJ γ p l e R s m args below meth c nL cells slots Q S μ (pc + 3) lv (.int v :: st)) : JJ γ p l e R s m args below meth c nL cells slots Q S μ pc lv (.ref (gb γ + o) :: st) := by
  obtain ⟨v, hv, h⟩ := bd_some h
  unfold gI at hv
  by_cases hi : isO S ci o = true
  · rw [if_pos hi] at hv
    cases hv
    obtain ⟨ho, rs, hs⟩ := isO_spec hi
    obtain ⟨C, T, N, ⟨c1, c2, c3, c4, c5⟩, hj, hw, hC⟩ := hf
    intro H locs ls hW hS hl
    refine va_get (D := gD γ) (ci := ci) (v := .int (μ.1 o j)) (C := C) (T := T) (N := N) F.1 F.2.1 F.2.2.2.2.1 c3 F.2.2.2.1 F.2.2.2.2.2.1.1 (hW.ob ho hs) 0 rfl c1 j hj (F.2.2.2.2.1 _ hw) (by rw [hC]; exact fun _ h9 => h9) ?_ hd (k _ h H locs ls hW hS hl)
    rw [fvl_get (by rw [c2]; exact hj), fvl_I ht]
  · rw [if_neg hi] at hv; cases hv
theorem j_gL (F : FX γ p s m args meth c cc own nL) {idx ci o j : Nat} {K : Int64 → Option ρ} (hf : FL own idx ci j) (ht : tyf ci j = .long) (hd : decode cc pc = .ok (.getfield idx, 3)) (h : (gL S ci o j μ).bind K = some X) (k : ∀ v, K v = some X → JJ γ p l e R s m args below meth c nL cells slots Q S μ (pc + 3) lv (.long v :: st)) : JJ γ p l e R s m args below meth c nL cells slots Q S μ pc lv (.ref (gb γ + o) :: st) := by
  obtain ⟨v, hv, h⟩ := bd_some h
  unfold gL at hv
  by_cases hi : isO S ci o = true
  · rw [if_pos hi] at hv
    cases hv
    obtain ⟨ho, rs, hs⟩ := isO_spec hi
    obtain ⟨C, T, N, ⟨c1, c2, c3, c4, c5⟩, hj, hw, hC⟩ := hf
    intro H locs ls hW hS hl
    refine va_get (D := gD γ) (ci := ci) (v := .long (μ.2 o j)) (C := C) (T := T) (N := N) F.1 F.2.1 F.2.2.2.2.1 c3 F.2.2.2.1 F.2.2.2.2.2.1.1 (hW.ob ho hs) 0 rfl c1 j hj (F.2.2.2.2.1 _ hw) (by rw [hC]; exact fun _ h9 => h9) ?_ hd (k _ h H locs ls hW hS hl)
    rw [fvl_get (by rw [c2]; exact hj), fvl_L ht]
  · rw [if_neg hi] at hv; cases hv
theorem j_gR (F : FX γ p s m args meth c cc own nL) {idx ci o j : Nat} {K : Nat → Option ρ} (hf : FL own idx ci j) (ht : kR (tyf ci j) = true) (hd : decode cc pc = .ok (.getfield idx, 3)) (h : (gR S ci o j).bind K = some X) (k : ∀ v, K v = some X → JJ γ p l e R s m args below meth c nL cells slots Q S μ (pc + 3) lv (.ref (gb γ + v) :: st)) : JJ γ p l e R s m args below meth c nL cells slots Q S μ pc lv (.ref (gb γ + o) :: st) := by
  obtain ⟨v, hv, h⟩ := bd_some h
  obtain ⟨ho, rs, hs, hr⟩ := gR_spec hv
  obtain ⟨C, T, N, ⟨c1, c2, c3, c4, c5⟩, hj, hw, hC⟩ := hf
  intro H locs ls hW hS hl
  refine va_get (D := gD γ) (ci := ci) (v := .ref (gb γ + v)) (C := C) (T := T) (N := N) F.1 F.2.1 F.2.2.2.2.1 c3 F.2.2.2.1 F.2.2.2.2.2.1.1 (hW.ob ho hs) 0 rfl c1 j hj (F.2.2.2.2.1 _ hw) (by rw [hC]; exact fun _ h9 => h9) ?_ hd (k _ h H locs ls hW hS hl)
  rw [fvl_get (by rw [c2]; exact hj), fvl_R ht, hr]
  rfl
/-- a field is written: any value that fits, the memory changes at o alone -/
theorem j_put (F : FX γ p s m args meth c cc own nL) {idx ci o j : Nat} {v : Value} {μ' : Mem} {ty : FieldType} (hf : FW own idx ci j) (hty : tyf ci j = ty) (hn : narrow ty v = v) (hfit : fits ty v = true) (hi : isO S ci o = true) (hd : decode cc pc = .ok (.putfield idx, 3)) (hm : ∀ k, k ≠ o → μ'.1 k = μ.1 k ∧ μ'.2 k = μ.2 k) (hv : ∀ rs i, fvl γ μ' o ci rs i = if i = j then v else fvl γ μ o ci rs i)
    (k : JJ γ p l e R s m args below meth c nL cells slots Q S μ' (pc + 3) lv st) : JJ γ p l e R s m args below meth c nL cells slots Q S μ pc lv (v :: .ref (gb γ + o) :: st) := by
  obtain ⟨ho, rs, hs⟩ := isO_spec hi
  obtain ⟨C, T, N, ⟨c1, c2, c3, c4, c5⟩, hj, hw, hC, hfin⟩ := hf
  intro H locs ls hW hS hl
  have hK := F.2.2.2.2.2.1.1
  have hts := F.2.2.2.2.1
  have hap := va_apart (own := own) hts c3 (tyf ci) c4 c5 hK c1
  obtain ⟨r, h1, cell, q1, q2, q3, q4⟩ := hW.ob ho hs 0 _ rfl
  have hr : r = (C, T, N) := Option.some.inj (h1.symm.trans c1)
  subst hr
  obtain ⟨hSl, hfc, kC, hkC, hkind⟩ := hK.1 ci _ c1
  obtain ⟨cf, kf, fi, f, hif, hsl⟩ := hSl j hj
  have hlay := hts _ (c3 _ (u_in_lay hj))
  unfold u_lay at hlay
  rw [if_neg (by rw [hfin]; decide)] at hlay
  have hst := (u_facts hfc hkC (u_lays hts c3 hj) hif).1
  have h6 := u_store hfc hkC hkind hlay hif (by rw [c4 j hj, hty]) hn hfit
  refine W.putK F.1 F.2.1 (f := f) ⟨F.2.2.2.1, hts _ hw, ⟨_, _, _, by rw [hC] at hif; exact hif⟩, hst⟩ (by rw [q2]; exact h6) q1 q3 (by rw [hsl]; exact k2_hasslot (q4 j hj)) rfl rfl hd fun H' e1 e2 e3 => ?_
  rw [hsl] at e1 ⊢
  refine k H' _ ls (hW.set e2 e3 ?_ hm) (hS.put e2 e3 (Nat.le_add_right _ _)) hl
  rw [hs]
  refine ⟨_, c1, t_OB.to (V := updV (vp_V ((List.range (nf ci)).map (fvl γ μ o ci rs))) j v) ⟨_, e1, q2, q3, t_set q4 hap hj v⟩ (fun i hi => ?_)⟩
  have hi' : i < nf ci := by rw [c2]; exact hi
  show updV (vp_V ((List.range (nf ci)).map (fvl γ μ o ci rs))) j v i = vp_V ((List.range (nf ci)).map (fvl γ μ' o ci rs)) i
  have e : ∀ ν : Mem, vp_V ((List.range (nf ci)).map (fvl γ ν o ci rs)) i = fvl γ ν o ci rs i := fun ν => by
    unfold vp_V
    rw [List.getD_eq_getElem?_getD, fvl_get hi']; rfl
  rw [e μ', hv rs i]
  unfold updV
  by_cases q : i = j
  · rw [if_pos q, if_pos q]
  · rw [if_neg q, if_neg q, e μ]
theorem upI_off {μ : Mem} {o j : Nat} {v : Int32} : ∀ k, k ≠ o → (upI μ o j v).1 k = μ.1 k ∧ (upI μ o j v).2 k = μ.2 k := fun k hk => ⟨by funext i; simp [upI, hk], rfl⟩
theorem upL_off {μ : Mem} {o j : Nat} {v : Int64} : ∀ k, k ≠ o → (upL μ o j v).1 k = μ.1 k ∧ (upL μ o j v).2 k = μ.2 k := fun k hk => ⟨rfl, by funext i; simp [upL, hk]⟩
theorem fvl_upI {μ : Mem} {o j ci : Nat} {v : Int32} (ht : kI (tyf ci j) = true) (rs : Nat → Option Nat) (i : Nat) : fvl γ (upI μ o j v) o ci rs i = if i = j then .int v else fvl γ μ o ci rs i := by
  by_cases q : i = j
  · subst q
    rw [if_pos rfl, fvl_I ht]
    simp [upI]
  · rw [if_neg q]
    unfold fvl
    have e : (upI μ o j v).1 o i = μ.1 o i := by simp [upI, q]
    rw [e]
    rfl
theorem fvl_upL {μ : Mem} {o j ci : Nat} {v : Int64} (ht : tyf ci j = .long) (rs : Nat → Option Nat) (i : Nat) : fvl γ (upL μ o j v) o ci rs i = if i = j then .long v else fvl γ μ o ci rs i := by
  by_cases q : i = j
  · subst q
    rw [if_pos rfl, fvl_L ht]
    simp [upL]
  · rw [if_neg q]
    unfold fvl
    have e : (upL μ o j v).2 o i = μ.2 o i := by simp [upL, q]
    rw [e]
    rfl
theorem j_pI (F : FX γ p s m args meth c cc own nL) {idx ci o j : Nat} {v : Int32} {K : Mem → Option ρ} (hf : FW own idx ci j) (ht : tyf ci j = .int) (hd : decode cc pc = .ok (.putfield idx, 3)) (h : (pI S ci o j v μ).bind K = some X) (k : ∀ ν, K ν = some X → JJ γ p l e R s m args below meth c nL cells slots Q S ν (pc + 3) lv st) : JJ γ p l e R s m args below meth c nL cells slots Q S μ pc lv (.int v :: .ref (gb γ + o) :: st) := by
  obtain ⟨ν, hv, h⟩ := bd_some h
  unfold pI at hv
  by_cases hi : isO S ci o = true
  · rw [if_pos hi] at hv
    cases hv
    exact j_put F hf ht rfl rfl hi hd upI_off (fun rs i => fvl_upI (by rw [ht]; rfl) rs i) (k _ h)
  · rw [if_neg hi] at hv; cases hv
theorem j_pZ (F : FX γ p s m args meth c cc own nL) {idx ci o j : Nat} {v : Int32} {K : Mem → Option ρ} (hf : FW own idx ci j) (ht : tyf ci j = .boolean) (hd : decode cc pc = .ok (.putfield idx, 3)) (h : (pZ S ci o j v μ).bind K = some X) (k : ∀ ν, K ν = some X → JJ γ p l e R s m args below meth c nL cells slots Q S ν (pc + 3) lv st) : JJ γ p l e R s m args below meth c nL cells slots Q S μ pc lv (.int v :: .ref (gb γ + o) :: st) := by
  obtain ⟨ν, hv, h⟩ := bd_some h
  unfold pZ at hv
  by_cases hi : isO S ci o = true ∧ (v = 0 ∨ v = 1)
  · rw [if_pos hi] at hv
    cases hv
    refine j_put F hf ht ?_ ?_ hi.1 hd upI_off (fun rs i => fvl_upI (by rw [ht]; rfl) rs i) (k _ h)
    · rcases hi.2 with q | q <;> subst q <;> rfl
    · rcases hi.2 with q | q <;> subst q <;> rfl
  · rw [if_neg hi] at hv; cases hv
theorem j_pL (F : FX γ p s m args meth c cc own nL) {idx ci o j : Nat} {v : Int64} {K : Mem → Option ρ} (hf : FW own idx ci j) (ht : tyf ci j = .long) (hd : decode cc pc = .ok (.putfield idx, 3)) (h : (pL S ci o j v μ).bind K = some X) (k : ∀ ν, K ν = some X → JJ γ p l e R s m args below meth c nL cells slots Q S ν (pc + 3) lv st) : JJ γ p l e R s m args below meth c nL cells slots Q S μ pc lv (.long v :: .ref (gb γ + o) :: st) := by
  obtain ⟨ν, hv, h⟩ := bd_some h
  unfold pL at hv
  by_cases hi : isO S ci o = true
  · rw [if_pos hi] at hv
    cases hv
    exact j_put F hf ht rfl rfl hi hd upL_off (fun rs i => fvl_upL ht rs i) (k _ h)
  · rw [if_neg hi] at hv; cases hv
/-! arrays -/
theorem j_iald (F : FX γ p s m args meth c cc own nL) {o : Nat} {i : Int32} {K : Int32 → Option ρ} (hd : decode cc pc = .ok (.iaload, 1)) (h : (aI S .int o i μ).bind K = some X) (k : ∀ v, K v = some X → JJ γ p l e R s m args below meth c nL cells slots Q S μ (pc + 1) lv (.int v :: st)) : JJ γ p l e R s m args below meth c nL cells slots Q S μ pc lv (.int i :: .ref (gb γ + o) :: st) := by
  obtain ⟨v, hv, h⟩ := bd_some h
  obtain ⟨n, hn, hv⟩ := bd_some hv
  obtain ⟨hi, rfl⟩ := ofB hv
  obtain ⟨ho, rs, hs⟩ := isA_spec hn
  intro H locs ls hW hS hl
  have hP := hW.ar ho hs
  rw [celA_I rfl] at hP
  exact va_iald F.1 F.2.1 F.2.2.2.2.2.1.1 hP 0 0 rfl rfl (inb_in hi) hd (k _ h H locs ls hW hS hl)
theorem j_bald (F : FX γ p s m args meth c cc own nL) {o : Nat} {i : Int32} {K : Int32 → Option ρ} (hd : decode cc pc = .ok (.baload, 1)) (h : (aI S .byte o i μ).bind K = some X) (k : ∀ v, K v = some X → JJ γ p l e R s m args below meth c nL cells slots Q S μ (pc + 1) lv (.int v :: st)) : JJ γ p l e R s m args below meth c nL cells slots Q S μ pc lv (.int i :: .ref (gb γ + o) :: st) := by
  obtain ⟨v, hv, h⟩ := bd_some h
  obtain ⟨n, hn, hv⟩ := bd_some hv
  obtain ⟨hi, rfl⟩ := ofB hv
  obtain ⟨ho, rs, hs⟩ := isA_spec hn
  intro H locs ls hW hS hl
  have hP := hW.ar ho hs
  rw [celA_I rfl] at hP
  exact va_bald F.1 F.2.1 F.2.2.2.2.2.1.1 hP 0 2 rfl rfl (inb_in hi) hd (k _ h H locs ls hW hS hl)
theorem j_zald (F : FX γ p s m args meth c cc own nL) {o : Nat} {i : Int32} {K : Int32 → Option ρ} (hd : decode cc pc = .ok (.baload, 1)) (h : (aI S .boolean o i μ).bind K = some X) (k : ∀ v, K v = some X → JJ γ p l e R s m args below meth c nL cells slots Q S μ (pc + 1) lv (.int v :: st)) : JJ γ p l e R s m args below meth c nL cells slots Q S μ pc lv (.int i :: .ref (gb γ + o) :: st) := by
  obtain ⟨v, hv, h⟩ := bd_some h
  obtain ⟨n, hn, hv⟩ := bd_some hv
  obtain ⟨hi, rfl⟩ := ofB hv
  obtain ⟨ho, rs, hs⟩ := isA_spec hn
  intro H locs ls hW hS hl
  have hP := hW.ar ho hs
  rw [celA_I rfl] at hP
  exact va_zald F.1 F.2.1 F.2.2.2.2.2.1.1 hP 0 3 rfl rfl (inb_in hi) hd (k _ h H locs ls hW hS hl)
theorem j_lald (F : FX γ p s m args meth c cc own nL) {o : Nat} {i : Int32} {K : Int64 → Option ρ} (hd : decode cc pc = .ok (.laload, 1)) (h : (aL S o i μ).bind K = some X) (k : ∀ v, K v = some X → JJ γ p l e R s m args below meth c nL cells slots Q S μ (pc + 1) lv (.long v :: st)) : JJ γ p l e R s m args below meth c nL cells slots Q S μ pc lv (.int i :: .ref (gb γ + o) :: st) := by
  obtain ⟨v, hv, h⟩ := bd_some h
  obtain ⟨n, hn, hv⟩ := bd_some hv
  obtain ⟨hi, rfl⟩ := ofB hv
  obtain ⟨ho, rs, hs⟩ := isA_spec hn
  intro H locs ls hW hS hl
  have hP := hW.ar ho hs
  exact va_lald F.1 F.2.1 F.2.2.2.2.2.1.1 hP 0 1 rfl rfl (inb_in hi) hd (k _ h H locs ls hW hS hl)
theorem j_aald (F : FX γ p s m args meth c cc own nL) {o : Nat} {i : Int32} {ty : FieldType} (t0 : Nat) {K : Nat → Option ρ} (hty : kR ty = true) (hr : ty.isReference = true) (ht : (tysG γ)[t0]? = some (gA γ ty, ty)) (hd : decode cc pc = .ok (.aaload, 1)) (h : (aR S ty o i).bind K = some X) (k : ∀ v, K v = some X → JJ γ p l e R s m args below meth c nL cells slots Q S μ (pc + 1) lv (.ref (gb γ + v) :: st)) : JJ γ p l e R s m args below meth c nL cells slots Q S μ pc lv (.int i :: .ref (gb γ + o) :: st) := by
  obtain ⟨v, hv, h⟩ := bd_some h
  obtain ⟨ho, n, rs, hs, hi, hrs⟩ := aR_spec hv
  intro H locs ls hW hS hl
  have hP := hW.ar ho hs
  rw [celA_R hty] at hP
  have hin := inb_in hi
  have hlt : i.toNatClampNeg < n := Nat.not_le.mp fun q => hin (Or.inr q)
  have hK := F.2.2.2.2.2.1.1
  exact W.aald (v := .ref (gb γ + v)) (ty := ty) F.1 F.2.1 (hP 0 _ rfl) ((hK.2 t0 _ ht).1 n (fun j => va_rf ((rs j).map (gb γ + ·)))) hr (fun q => by cases q) (by show ¬ (i < 0 ∨ (arrV _ _ _).slots.size ≤ _); rw [arrV_size]; exact hin) (by show (arrV _ _ _).slots[_]? = _; rw [arrV_read _ _ hlt]; show some (va_rf ((rs i.toNatClampNeg).map (gb γ + ·))) = _; rw [hrs]; rfl) rfl rfl hd (k _ h H locs ls hW hS hl)
theorem j_alen (F : FX γ p s m args meth c cc own nL) {o : Nat} {ty : FieldType} (t0 : Nat) {K : Int32 → Option ρ} (ht : (tysG γ)[t0]? = some (gA γ ty, ty)) (hd : decode cc pc = .ok (.arraylength, 1)) (h : (aN S ty o).bind K = some X) (k : ∀ v, K v = some X → JJ γ p l e R s m args below meth c nL cells slots Q S μ (pc + 1) lv (.int v :: st)) : JJ γ p l e R s m args below meth c nL cells slots Q S μ pc lv (.ref (gb γ + o) :: st) := by
  obtain ⟨v, hv, h⟩ := bd_some h
  unfold aN at hv
  cases hA : isA S ty o with
  | none => rw [hA] at hv; cases hv
  | some n =>
    rw [hA] at hv
    cases hv
    obtain ⟨ho, rs, hs⟩ := isA_spec hA
    intro H locs ls hW hS hl
    have hP := hW.ar ho hs
    refine va_alen F.1 F.2.1 F.2.2.2.2.2.1.1 hP 0 t0 rfl ht (v := Int32.ofNat n) ?_ hd (k _ h H locs ls hW hS hl)
    unfold celA; cases ty <;> rfl
/-- an int-like array's place is written -/
theorem j_ast {o n : Nat} {ty : FieldType} {rs : Nat → Option Nat} {i v : Int32} (hty : kI ty = true) (ho : o < S.1) (hs : S.2 o = .inr (ty, n, rs)) {H H1 : Heap} (hW : Wd γ S μ H) (e : H1[gb γ + o]? = some ((vp_cell (gA γ ty) (n, .inl (μ.1 o))).setSlot i.toNatClampNeg (.int v))) (z : H1.size = H.size) (oq : ∀ q, q ≠ gb γ + o → H1[q]? = H[q]?) : Wd γ S (upI μ o i.toNatClampNeg v) H1 := by
  refine hW.set z oq ?_ upI_off
  rw [hs]
  show H1[gb γ + o]? = some (vp_cell (gA γ ty) (celA γ (upI μ o i.toNatClampNeg v) o ty n rs))
  rw [celA_I hty, e, vp_cell_i, vp_cell_i, arrV_store]
  congr 2
  funext q
  by_cases hq : q = i.toNatClampNeg
  · simp [updV, upI, hq]
  · simp [updV, upI, hq]
theorem j_iast (F : FX γ p s m args meth c cc own nL) {o : Nat} {i v : Int32} {K : Mem → Option ρ} (hd : decode cc pc = .ok (.iastore, 1)) (h : (sI S o i v μ).bind K = some X) (k : ∀ ν, K ν = some X → JJ γ p l e R s m args below meth c nL cells slots Q S ν (pc + 1) lv st) : JJ γ p l e R s m args below meth c nL cells slots Q S μ pc lv (.int v :: .int i :: .ref (gb γ + o) :: st) := by
  obtain ⟨ν, hv, h⟩ := bd_some h
  obtain ⟨n, hn, hv⟩ := bd_some hv
  obtain ⟨hi, rfl⟩ := ofB hv
  obtain ⟨ho, rs, hs⟩ := isA_spec hn
  intro H locs ls hW hS hl
  have hP := hW.ar ho hs
  refine W.iast F.1 F.2.1 (hP 0 _ rfl) ((F.2.2.2.2.2.1.1.2 0 _ rfl).1 n (fun j => .int (μ.1 o j))) (fun q => by cases q) (by show ¬ (i < 0 ∨ (arrV _ _ _).slots.size ≤ _); rw [arrV_size]; exact inb_in hi) rfl rfl hd fun H1 e z oq => ?_
  exact k _ h H1 _ ls (j_ast rfl ho hs hW e z oq) (hS.put z oq (Nat.le_add_right _ _)) hl
theorem j_bast (F : FX γ p s m args meth c cc own nL) {o : Nat} {i v : Int32} {K : Mem → Option ρ} (hd : decode cc pc = .ok (.bastore, 1)) (h : (sB S o i v μ).bind K = some X) (k : ∀ ν, K ν = some X → JJ γ p l e R s m args below meth c nL cells slots Q S ν (pc + 1) lv st) : JJ γ p l e R s m args below meth c nL cells slots Q S μ pc lv (.int v :: .int i :: .ref (gb γ + o) :: st) := by
  obtain ⟨ν, hv, h⟩ := bd_some h
  obtain ⟨n, hn, hv⟩ := bd_some hv
  obtain ⟨hi, rfl⟩ := ofB hv
  obtain ⟨ho, rs, hs⟩ := isA_spec hn
  intro H locs ls hW hS hl
  have hP := hW.ar ho hs
  refine W.bast F.1 F.2.1 (hP 0 _ rfl) ((F.2.2.2.2.2.1.1.2 2 _ rfl).1 n (fun j => .int (μ.1 o j))) (fun q => by cases q) (by show ¬ (i < 0 ∨ (arrV _ _ _).slots.size ≤ _); rw [arrV_size]; exact inb_in hi) rfl rfl hd fun H1 e z oq => ?_
  exact k _ h H1 _ ls (j_ast rfl ho hs hW e z oq) (hS.put z oq (Nat.le_add_right _ _)) hl
theorem j_zast (F : FX γ p s m args meth c cc own nL) {o : Nat} {i v : Int32} {K : Mem → Option ρ} (hd : decode cc pc = .ok (.bastore, 1)) (h : (sZ S o i v μ).bind K = some X) (k : ∀ ν, K ν = some X → JJ γ p l e R s m args below meth c nL cells slots Q S ν (pc + 1) lv st) : JJ γ p l e R s m args below meth c nL cells slots Q S μ pc lv (.int v :: .int i :: .ref (gb γ + o) :: st) := by
  obtain ⟨ν, hv, h⟩ := bd_some h
  obtain ⟨n, hn, hv⟩ := bd_some hv
  obtain ⟨hi, rfl⟩ := ofB hv
  obtain ⟨ho, rs, hs⟩ := isA_spec hn
  intro H locs ls hW hS hl
  have hP := hW.ar ho hs
  refine W.zast F.1 F.2.1 (hP 0 _ rfl) ((F.2.2.2.2.2.1.1.2 3 _ rfl).1 n (fun j => .int (μ.1 o j))) (fun q => by cases q) (by show ¬ (i < 0 ∨ (arrV _ _ _).slots.size ≤ _); rw [arrV_size]; exact inb_in hi) rfl rfl hd fun H1 e z oq => ?_
  exact k _ h H1 _ ls (j_ast rfl ho hs hW e z oq) (hS.put z oq (Nat.le_add_right _ _)) hl
theorem j_last (F : FX γ p s m args meth c cc own nL) {o : Nat} {i : Int32} {v : Int64} {K : Mem → Option ρ} (hd : decode cc pc = .ok (.lastore, 1)) (h : (sL S o i v μ).bind K = some X) (k : ∀ ν, K ν = some X → JJ γ p l e R s m args below meth c nL cells slots Q S ν (pc + 1) lv st) : JJ γ p l e R s m args below meth c nL cells slots Q S μ pc lv (.long v :: .int i :: .ref (gb γ + o) :: st) := by
  obtain ⟨ν, hv, h⟩ := bd_some h
  obtain ⟨n, hn, hv⟩ := bd_some hv
  obtain ⟨hi, rfl⟩ := ofB hv
  obtain ⟨ho, rs, hs⟩ := isA_spec hn
  intro H locs ls hW hS hl
  have hP := hW.ar ho hs
  refine W.last F.1 F.2.1 (hP 0 _ rfl) ((F.2.2.2.2.2.1.1.2 1 _ rfl).1 n (fun j => .long (μ.2 o j))) (fun q => by cases q) (by show ¬ (i < 0 ∨ (arrV _ _ _).slots.size ≤ _); rw [arrV_size]; exact inb_in hi) rfl rfl hd fun H1 e z oq => ?_
  refine k _ h H1 _ ls (hW.set z oq ?_ upL_off) (hS.put z oq (Nat.le_add_right _ _)) hl
  rw [hs]
  show H1[gb γ + o]? = some (vp_cell (gA γ .long) (celA γ (upL μ o i.toNatClampNeg v) o .long n rs))
  rw [e]
  show some ((vp_cell (gA γ .long) (n, .inr (.inl (μ.2 o)))).setSlot i.toNatClampNeg (.long v)) = some (vp_cell (gA γ .long) (n, .inr (.inl ((upL μ o i.toNatClampNeg v).2 o))))
  rw [vp_cell_l, vp_cell_l, arrV_store]
  congr 2
  funext q
  by_cases hq : q = i.toNatClampNeg
  · simp [updV, upL, hq]
  · simp [updV, upL, hq]
/-! static arrays, String constants -/
theorem j_gets (F : FX γ p s m args meth c cc own nL) {idx : Nat} (t : Nat) (ht : t < 5) (hw : Cond.fieldLink own idx "CranePads" (stN t) "[I" ∈ GG) (hd : decode cc pc = .ok (.getstatic idx, 3)) (k : JJ γ p l e R s m args below meth c nL cells slots Q S μ (pc + 3) lv (.ref (gs γ t) :: st)) : JJ γ p l e R s m args below meth c nL cells slots Q S μ pc lv st :=
  fun H locs ls hW hS hl => va_gets F.1 F.2.1 (F.2.2.2.2.2.1.2.2.2.1 t ht).1 hS F.2.2.2.1 (F.2.2.2.2.1 _ hw) (fun _ h9 => h9) hd (k H locs ls hW hS hl)
theorem j_getsN (F : FX γ p s m args meth c cc own nL) {idx : Nat} (t : Nat) (ht : t < 5) (hw : Cond.fieldLinkNest own idx "CranePads" (stN t) "[I" "CranePads" ∈ nestF) (hd : decode cc pc = .ok (.getstatic idx, 3)) (k : JJ γ p l e R s m args below meth c nL cells slots Q S μ (pc + 3) lv (.ref (gs γ t) :: st)) : JJ γ p l e R s m args below meth c nL cells slots Q S μ pc lv st :=
  fun H locs ls hW hS hl => va_getsN F.1 F.2.1 (F.2.2.2.2.2.1.2.2.2.1 t ht).1 hS F.2.2.2.1 (va_Nw.use rfl (F.2.2.2.2.2.1.2.1 _ hw)) (fun _ h9 => h9) hd (k H locs ls hW hS hl)
theorem j_tald (F : FX γ p s m args meth c cc own nL) {t : Nat} {i : Int32} {K : Int32 → Option ρ} (ht : t < 5) (hd : decode cc pc = .ok (.iaload, 1)) (h : (aT t i).bind K = some X) (k : ∀ v, K v = some X → JJ γ p l e R s m args below meth c nL cells slots Q S μ (pc + 1) lv (.int v :: st)) : JJ γ p l e R s m args below meth c nL cells slots Q S μ pc lv (.int i :: .ref (gs γ t) :: st) := by
  obtain ⟨v, hv, h⟩ := bd_some h
  obtain ⟨hi, rfl⟩ := ofB hv
  exact fun H locs ls hW hS hl => va_ti F.1 F.2.1 (F.2.2.2.2.2.1.2.2.2.1 t ht).2 hS (inb_in hi) rfl hd (k _ h H locs ls hW hS hl)
theorem j_ldcS (F : FX γ p s m args meth c cc own nL) {idx : Nat} (t : Nat) (ht : t < 10) (h1 : ksO t = own) (h2 : ksI t = idx) (hd : decode cc pc = .ok (.ldc idx, 2)) (k : JJ γ p l e R s m args below meth c nL cells slots Q S μ (pc + 2) lv (.ref (gK γ t) :: st)) : JJ γ p l e R s m args below meth c nL cells slots Q S μ pc lv st := by
  subst h1; subst h2
  exact fun H locs ls hW hS hl => va_ldcS F.1 F.2.1 F.2.2.2.1 (F.2.2.2.2.2.1.2.2.2.2.2.1 t ht) hd (k H locs ls hW hS hl)
theorem j_ldcSw (F : FX γ p s m args meth c cc own nL) {idx : Nat} (t : Nat) (ht : t < 10) (h1 : ksO t = own) (h2 : ksI t = idx) (hd : decode cc pc = .ok (.ldc_w idx, 3)) (k : JJ γ p l e R s m args below meth c nL cells slots Q S μ (pc + 3) lv (.ref (gK γ t) :: st)) : JJ γ p l e R s m args below meth c nL cells slots Q S μ pc lv st := by
  subst h1; subst h2
  intro H locs ls hW hS hl T hT XX
  obtain ⟨t9, a1, b1⟩ := k H locs ls hW hS hl T hT XX
  have hZ := F.2.2.2.2.2.1.2.2.2.2.2.1 t ht
  exact ⟨t9, XX.ldcStringW F.1 F.2.2.2.1 (text := ksT t) (a := gK γ t) hZ.1 hZ.2 (g := F0 m pc ls st) rfl (by rw [F.2.1]; exact hd) t9 a1, b1⟩
/-! Math -/
theorem j_mmax (F : FX γ p s m args meth c cc own nL) {idx : Nat} {x y : Int32} (hl : Cond.methodLink own idx Lib.Math.max.name ∈ GG) (hR : 1 ≤ R.frames ∧ (st.map fun v => v.category).sum + 13 ≤ R.locals ∧ cells ≤ R.cells ∧ slots ≤ R.slots) (hd : decode cc pc = .ok (.invokestatic idx, 3)) (hg : Cond.static Lib.Math.max.name ∈ GG ∧ Cond.initialized "java/lang/Math" ∈ GG ∧ Cond.code Lib.Math.max.name Lib.Math.max.code 2 (some .int) ∈ GG) (k : JJ γ p l e R s m args below meth c nL cells slots Q S μ (pc + 3) lv (.int (if x < y then y else x) :: st)) : JJ γ p l e R s m args below meth c nL cells slots Q S μ pc lv (.int y :: .int x :: st) :=
  fun H locs ls hW hS hlv => va_mmax F.1 F.2.1 (F.2.2.1.trans hlv.1.symm) F.2.2.2.1 (F.2.2.2.2.1 _ hl) (F.2.2.2.2.1 _ hg.1) (F.2.2.2.2.1 _ hg.2.1) (F.2.2.2.2.1 _ hg.2.2) hR.1 hR.2.1 hR.2.2.1 hR.2.2.2 hd (k H locs ls hW hS hlv)
theorem j_mmin (F : FX γ p s m args meth c cc own nL) {idx : Nat} {x y : Int32} (hl : Cond.methodLink own idx Lib.Math.min.name ∈ GG) (hR : 1 ≤ R.frames ∧ (st.map fun v => v.category).sum + 13 ≤ R.locals ∧ cells ≤ R.cells ∧ slots ≤ R.slots) (hd : decode cc pc = .ok (.invokestatic idx, 3)) (hg : Cond.static Lib.Math.min.name ∈ GG ∧ Cond.initialized "java/lang/Math" ∈ GG ∧ Cond.code Lib.Math.min.name Lib.Math.min.code 2 (some .int) ∈ GG) (k : JJ γ p l e R s m args below meth c nL cells slots Q S μ (pc + 3) lv (.int (if y < x then y else x) :: st)) : JJ γ p l e R s m args below meth c nL cells slots Q S μ pc lv (.int y :: .int x :: st) :=
  fun H locs ls hW hS hlv => va_mmin F.1 F.2.1 (F.2.2.1.trans hlv.1.symm) F.2.2.2.1 (F.2.2.2.2.1 _ hl) (F.2.2.2.2.1 _ hg.1) (F.2.2.2.2.1 _ hg.2.1) (F.2.2.2.2.1 _ hg.2.2) hR.1 hR.2.1 hR.2.2.1 hR.2.2.2 hd (k H locs ls hW hS hlv)
theorem j_mabs (F : FX γ p s m args meth c cc own nL) {idx : Nat} {x : Int64} (hl : Cond.methodLink own idx Lib.MathLoose.abs_long.x ∈ GG) (hR : 1 ≤ R.frames ∧ (st.map fun v => v.category).sum + 13 ≤ R.locals ∧ cells ≤ R.cells ∧ slots ≤ R.slots) (hd : decode cc pc = .ok (.invokestatic idx, 3)) (hg : Cond.static Lib.MathLoose.abs_long.x ∈ GG ∧ Cond.initialized "java/lang/Math" ∈ GG ∧ Cond.code Lib.MathLoose.abs_long.x Lib.MathLoose.abs_long.code 2 (some .long) ∈ GG) (k : JJ γ p l e R s m args below meth c nL cells slots Q S μ (pc + 3) lv (.long (if 0 < x then x else -x) :: st)) : JJ γ p l e R s m args below meth c nL cells slots Q S μ pc lv (.long x :: st) :=
  fun H locs ls hW hS hlv => va_mabs_long F.1 F.2.1 (F.2.2.1.trans hlv.1.symm) F.2.2.2.1 (F.2.2.2.2.1 _ hl) (F.2.2.2.2.1 _ hg.1) (F.2.2.2.2.1 _ hg.2.1) (F.2.2.2.2.1 _ hg.2.2) hR.1 hR.2.1 hR.2.2.1 hR.2.2.2 hd (k H locs ls hW hS hlv)
/-! locals -/
theorem j_lv (lv' : List (Nat × Value)) (ks : List Nat) (hl : lv_pick lv ks = lv') (k : JJ γ p l e R s m args below meth c nL cells slots Q S μ pc lv' st) : JJ γ p l e R s m args below meth c nL cells slots Q S μ pc lv st :=
  fun H locs ls hW hS h => k H locs ls hW hS (lv_sub h ks hl)

end Rows
/-! ===== contracts ===== -/
def Qm (γ : GE) (S : SH) (μ : Mem) (r : Option Value) : Array Value → State → Outcome → State → Prop := fun _ st o t => o = .returned r ∧ Wd γ S μ t.heap ∧ va_F (AA γ) st t
def Pm (γ : GE) (S : SH) (μ : Mem) (av : List Value) : Array Value → State → Prop := fun v U => v = av.toArray ∧ Ken γ U U.heap ∧ Wd γ S μ U.heap
def Ct (l : Launch) (γ : GE) (y : MethodName) (cc : ByteArray) (nL : Nat) (ret : Option FieldType) (rm : Room) (av : List Value) (S : SH) (μ : Mem) (S' : SH) (μ' : Mem) (r : Option Value) : Prop :=
  Met l y (Cond.code y cc nL ret :: GG) rm (Pm γ S μ av) (Qm γ S' μ' r) rm.cells rm.slots (AA γ)
def QI (below : List Frame) (γ : GE) (S : SH) (X : Int32 × Mem) (args : Array Value) (s : State) (mc ms : Nat) : State → Prop := MQ below (Qm γ S X.2 (some (.int X.1))) args s mc ms (AA γ)
def QL (below : List Frame) (γ : GE) (S : SH) (X : Int64 × Mem) (args : Array Value) (s : State) (mc ms : Nat) : State → Prop := MQ below (Qm γ S X.2 (some (.long X.1))) args s mc ms (AA γ)
def QV (below : List Frame) (γ : GE) (S : SH) (X : Unit × Mem) (args : Array Value) (s : State) (mc ms : Nat) : State → Prop := MQ below (Qm γ S X.2 none) args s mc ms (AA γ)
def QT (below : List Frame) (γ : GE) (S : SH) (X : Nat × Mem) (args : Array Value) (s : State) (mc ms : Nat) : State → Prop := MQ below (Qm γ S X.2 (some (.ref (gK γ X.1)))) args s mc ms (AA γ)
section Ret
variable {γ : GE} {p : Program} {l : Launch} {e : Env} {R : Room} {s : State} {m : MethodId} {args : Array Value} {below : List Frame} {meth : Method} {c : Code} {cc : ByteArray} {own : String} {nL : Nat} {cells slots : Nat} {Q : State → Prop} {S S' : SH} {μ μ' : Mem} {pc : Nat} {lv : List (Nat × Value)} {st : List Value}
theorem j_iret (F : FX γ p s m args meth c cc own nL) {v : Int32} {X : Int32 × Mem} (hr : meth.sig.returnType = some .int) (hd : decode cc pc = .ok (.ireturn, 1)) (h : some (v, μ) = some X) : JJ γ p l e R s m args below meth c nL cells slots (QI below γ S X args s cells slots) S μ pc lv [.int v] := by
  cases h
  exact fun H locs ls hW hS hl => W.iret F.1 F.2.1 hr (fun t ht hw => ⟨rfl, by rw [ht]; exact hW, hS.F ht⟩) hS.2.2 hd F.2.2.2.2.2.2
theorem j_zret (F : FX γ p s m args meth c cc own nL) {v : Int32} {X : Int32 × Mem} (hr : meth.sig.returnType = some .boolean) (hz : v = 0 ∨ v = 1) (hd : decode cc pc = .ok (.ireturn, 1)) (h : some (v, μ) = some X) : JJ γ p l e R s m args below meth c nL cells slots (QI below γ S X args s cells slots) S μ pc lv [.int v] := by
  cases h
  exact fun H locs ls hW hS hl => W.zret (ty := .boolean) F.1 F.2.1 hr (by rcases hz with q | q <;> subst q <;> rfl) (fun t ht hw => ⟨rfl, by rw [ht]; exact hW, hS.F ht⟩) hS.2.2 hd F.2.2.2.2.2.2
/-- a boolean that was made elsewhere -/
def oz (v : Int32) : Option Int32 := if v = 0 ∨ v = 1 then some v else none
theorem j_zretG (F : FX γ p s m args meth c cc own nL) {v : Int32} {X : Int32 × Mem} (hr : meth.sig.returnType = some .boolean) (hd : decode cc pc = .ok (.ireturn, 1)) (h : ((oz v).bind fun q => some (q, μ)) = some X) : JJ γ p l e R s m args below meth c nL cells slots (QI below γ S X args s cells slots) S μ pc lv [.int v] := by
  obtain ⟨q, hq, h⟩ := bd_some h
  unfold oz at hq
  by_cases hz : v = 0 ∨ v = 1
  · rw [if_pos hz] at hq
    cases hq
    exact j_zret F hr hz hd h
  · rw [if_neg hz] at hq; cases hq
theorem j_lret (F : FX γ p s m args meth c cc own nL) {v : Int64} {X : Int64 × Mem} (hr : meth.sig.returnType = some .long) (hd : decode cc pc = .ok (.lreturn, 1)) (h : some (v, μ) = some X) : JJ γ p l e R s m args below meth c nL cells slots (QL below γ S X args s cells slots) S μ pc lv [.long v] := by
  cases h
  exact fun H locs ls hW hS hl => W.lret F.1 F.2.1 hr (fun t ht hw => ⟨rfl, by rw [ht]; exact hW, hS.F ht⟩) hS.2.2 hd F.2.2.2.2.2.2
theorem j_vret (F : FX γ p s m args meth c cc own nL) {X : Unit × Mem} (hr : meth.sig.returnType = none) (hd : decode cc pc = .ok (.return_, 1)) (h : some ((), μ) = some X) : JJ γ p l e R s m args below meth c nL cells slots (QV below γ S X args s cells slots) S μ pc lv [] := by
  cases h
  exact fun H locs ls hW hS hl => W.vret F.1 F.2.1 hr (fun t ht hw => ⟨rfl, by rw [ht]; exact hW, hS.F ht⟩) hS.2.2 hd F.2.2.2.2.2.2
theorem j_tret (F : FX γ p s m args meth c cc own nL) {v : Nat} {X : Nat × Mem} {n : String} (hr : meth.sig.returnType = some (.object n)) (hd : decode cc pc = .ok (.areturn, 1)) (h : some (v, μ) = some X) : JJ γ p l e R s m args below meth c nL cells slots (QT below γ S X args s cells slots) S μ pc lv [.ref (gK γ v)] := by
  cases h
  exact fun H locs ls hW hS hl => W.aret (rt := .object n) F.1 F.2.1 hr (Or.inl ⟨n, rfl⟩) (Or.inr ⟨_, rfl⟩) (fun t ht hw => ⟨rfl, by rw [ht]; exact hW, hS.F ht⟩) hS.2.2 hd F.2.2.2.2.2.2
/-! what is known, moved to a callee's start -/
theorem Ken.moved {U V : State} {H H1 : Heap} (h : Ken γ U H) (hW : U.WarmedH V.vm) (hq : ∀ a : Nat, a < H.size → ¬ AA γ a → H1[a]? = H[a]?) : Ken γ V H1 := by
  obtain ⟨h1, h2, h3, h4, h5, h6, h7, h8⟩ := h
  refine ⟨va_K.moved hW.alike h1, fun w hw => ?_, fun w hw => ?_, fun i hi => ⟨(va_Z.moved hW.alike (h4 i hi).1).kept hq, (va_T.moved hW.alike (h4 i hi).2).kept hq⟩, fun i hi => ⟨(va_O.moved hW.alike (h5 i hi).1).kept hq, (va_OF.moved hW.alike (h5 i hi).2.1).kept hq, (va_OF.moved hW.alike (h5 i hi).2.2.1).kept hq, (va_T.moved hW.alike (h5 i hi).2.2.2).kept hq⟩, fun i hi => (h6 i hi).warm hW, (va_Z.moved hW.alike h7).kept hq, (va_Zq.moved hW.alike h8).kept hq⟩
  · have := h2 w hw
    revert this
    revert w
    simp only [nestF, List.forall_mem_cons, List.not_mem_nil, false_implies, implies_true, and_true]
    refine ⟨?_, ?_, ?_⟩ <;> exact fun h => va_Nw.warmF hW h
  · have := h3 w hw
    revert this
    revert w
    simp only [nestM, List.forall_mem_cons, List.not_mem_nil, false_implies, implies_true, and_true]
    refine ⟨?_, ?_, ?_, ?_, ?_, ?_, ?_, ?_, ?_, ?_, ?_⟩ <;> exact fun h => va_Nw.warmM hW h
theorem vk_R.sameVm {own tx : String} {k a : Nat} {u U : State} (hv : U.vm = u.vm) (h : vk_R own k tx a u) : vk_R own k tx a U := vk_R.same hv h
theorem Ken.call {U : State} {g : JFrame} {mk : MethodId} {a : Array Value} (h : Ken γ U U.heap) : Ken γ (U.calling g mk a) (U.calling g mk a).heap := by
  obtain ⟨h1, h2, h3, h4, h5, h6, h7, h8⟩ := h
  have e : (U.calling g mk a).vm = U.vm := rfl
  have hA : U.vm.Alike (U.calling g mk a).vm := Vm.Alike.refl U.vm
  exact ⟨va_K.moved (u := U) hA h1, fun w hw => va_Nw.same (by revert w; decide +kernel) e.symm (h2 w hw), fun w hw => va_Nw.same (by revert w; decide +kernel) e.symm (h3 w hw), fun i hi => ⟨va_Z.moved (u := U) hA (h4 i hi).1, va_T.moved (u := U) hA (h4 i hi).2⟩, fun i hi => ⟨va_O.moved (u := U) hA (h5 i hi).1, va_OF.moved (u := U) hA (h5 i hi).2.1, va_OF.moved (u := U) hA (h5 i hi).2.2.1, va_T.moved (u := U) hA (h5 i hi).2.2.2⟩, fun i hi => vk_R.same e (h6 i hi), va_Z.moved (u := U) hA h7, va_Zq.moved (u := U) hA h8⟩
theorem Pm.blind {av : List Value} : FrameBlind (Pm γ S μ av) := fun _ _ _ _ h => ⟨h.1, h.2.1.call, h.2.2⟩
/-- behind a call -/
theorem j_cont {mc ms : Nat} {r : Option Value} {st0 rest : List Value} {a : Array Value} (hr : ∀ (H : Heap) (locs : List Loc) (ls : Array Slot), Wd γ S μ H → va_S (AA γ) s.heap H locs → lv_has ls nL lv → va_Run p l e R s m args below meth c H locs cells slots mc ms (F0 m pc ls st0) rest (Qm γ S' μ' r a) (AA γ)) (k : JJ γ p l e R s m args below meth c nL (cells + mc) (slots + ms) Q S' μ' (pc + 3) lv (r.toList ++ rest)) : JJ γ p l e R s m args below meth c nL cells slots Q S μ pc lv st0 := by
  intro H locs ls hW hS hl T hT X
  obtain ⟨v, st₀, t, T', L, h0, X', hL, e1, e2, ⟨ho, hw, hz, hk⟩, st⟩ := hr H locs ls hW hS hl T hT X
  cases ho
  rw [h0] at hz hk
  obtain ⟨t2, a1, b1⟩ := k T'.heap (locs ++ L) ls (by rw [e1]; exact hw) ⟨Nat.le_trans hS.1 (by rw [e1]; exact hz), fun q h1 h2 => by rw [e1, hk q (Nat.lt_of_lt_of_le h1 hS.1) h2]; exact hS.2.1 q h1 h2, fun q hq => by
      rcases List.mem_append.mp hq with h | h
      · exact hS.2.2 q h
      · exact hL q h⟩ hl T' rfl X'
  exact ⟨t2, st t2 a1, b1⟩
/-- a method of an object: what the tables say -/
def MI (y : MethodName) (cc : ByteArray) (nL : Nat) (ret : Option FieldType) (n ci : Nat) : Prop := (∃ T N, CP ci y.cls T N) ∧ Cond.instanceMethod y ∈ GG ∧ Cond.selects y.cls y y ∈ GG ∧ Cond.initialized y.cls ∈ GG ∧ Cond.code y cc nL ret ∈ GG ∧ y.cls ≠ "java/lang/invoke/MethodHandle" ∧ y.cls ≠ "java/lang/invoke/VarHandle" ∧ (parseMethodDescriptor y.desc).map (fun d => d.parameters.length) = some n
/-- a static method -/
def MS (y : MethodName) (cc : ByteArray) (nL : Nat) (ret : Option FieldType) (n : Nat) : Prop := Cond.static y ∈ GG ∧ Cond.initialized y.cls ∈ GG ∧ Cond.code y cc nL ret ∈ GG ∧ y.cls ≠ "java/lang/invoke/MethodHandle" ∧ y.cls ≠ "java/lang/invoke/VarHandle" ∧ (parseMethodDescriptor y.desc).map (fun d => d.parameters.length) = some n
variable {y : MethodName} {cc' : ByteArray} {nL' : Nat} {ret : Option FieldType} {rm : Room} {n ci o idx : Nat} {As rest : List Value} {r : Option Value}
theorem j_pre (F : FX γ p s m args meth c cc own nL) {H : Heap} {locs : List Loc} (hW : Wd γ S μ H) (hS : va_S (AA γ) s.heap H locs) {U : State} (hU : U.heap = H) (hw : s.WarmedH U.vm) {av : List Value} : Pm γ S μ av av.toArray U := ⟨rfl, F.2.2.2.2.2.1.moved hw (fun a h1 h2 => by rw [hU]; exact hS.2.1 a h1 h2), by rw [hU]; exact hW⟩
theorem j_callV (F : FX γ p s m args meth c cc own nL) (hM : MI y cc' nL' ret n ci) (hlk : Cond.methodLink own idx y ∈ GG) (hct : isO S ci o = true ∧ Ct l γ y cc' nL' ret rm (.ref (gb γ + o) :: As) S μ S' μ' r) (st0 : List Value) (hst : st0 = As.reverse ++ .ref (gb γ + o) :: rest) (hn : As.length = n) (hr : (rest.map fun v => v.category).sum ≤ 8) (hR : rm.frames + 1 ≤ R.frames ∧ 8 + (nL' + 11) + rm.locals ≤ R.locals) (hc : cells + rm.cells ≤ R.cells ∧ slots + rm.slots ≤ R.slots) (hd : decode cc pc = .ok (.invokevirtual idx, 3)) (k : JJ γ p l e R s m args below meth c nL (cells + rm.cells) (slots + rm.slots) Q S' μ' (pc + 3) lv (r.toList ++ rest)) : JJ γ p l e R s m args below meth c nL cells slots Q S μ pc lv st0 := by
  obtain ⟨⟨T, N, hcp⟩, m1, m2, m3, m4, m5⟩ := hM
  obtain ⟨ho, rs, hs⟩ := isO_spec hct.1
  have hts := F.2.2.2.2.1
  refine j_cont (a := (Value.ref (gb γ + o) :: As).toArray) (fun H locs ls hW hS hl => ?_) k
  exact va_runV (As := As) (rest := rest) ⟨F.1, F.2.1, F.2.2.1, F.2.2.2.1, hts⟩ hct.2 ⟨callB_of n hts (gg_call m4) rfl rfl rfl (hts _ m3) (hts _ hlk) m5 hR, hts _ m1, hts _ m2⟩ ⟨Pm.blind, va_recv F.2.2.2.2.2.1.1 (hW.ob ho hs) hcp.1 (q0 := 0) rfl, fun U hU hw => j_pre F hW hS hU hw⟩ rfl hn hl.1 hst (lv_room hr) hd hc
theorem j_callS (F : FX γ p s m args meth c cc own nL) (hM : MS y cc' nL' ret n) (hlk : Cond.methodLink own idx y ∈ GG) (hct : Ct l γ y cc' nL' ret rm As S μ S' μ' r) (st0 : List Value) (hst : st0 = As.reverse ++ rest) (hn : As.length = n) (hr : (rest.map fun v => v.category).sum ≤ 8) (hR : rm.frames + 1 ≤ R.frames ∧ 8 + (nL' + 11) + rm.locals ≤ R.locals) (hc : cells + rm.cells ≤ R.cells ∧ slots + rm.slots ≤ R.slots) (hd : decode cc pc = .ok (.invokestatic idx, 3)) (k : JJ γ p l e R s m args below meth c nL (cells + rm.cells) (slots + rm.slots) Q S' μ' (pc + 3) lv (r.toList ++ rest)) : JJ γ p l e R s m args below meth c nL cells slots Q S μ pc lv st0 := by
  obtain ⟨m1, m3, m4, m5⟩ := hM
  have hts := F.2.2.2.2.1
  refine j_cont (a := As.toArray) (fun H locs ls hW hS hl => ?_) k
  exact va_runS (As := As) (rest := rest) ⟨F.1, F.2.1, F.2.2.1, F.2.2.2.1, hts⟩ hct ⟨callB_of n hts (gg_call m4) rfl rfl rfl (hts _ m3) (hts _ hlk) m5 hR, hts _ m1⟩ ⟨Pm.blind, fun U hU hw => j_pre F hW hS hU hw⟩ rfl hn hl.1 hst (lv_room hr) hd hc
theorem j_callSN (F : FX γ p s m args meth c cc own nL) (hM : MS y cc' nL' ret n) (hlk : Cond.methodLinkNest own idx y "CranePads" ∈ nestM) (hct : Ct l γ y cc' nL' ret rm As S μ S' μ' r) (st0 : List Value) (hst : st0 = As.reverse ++ rest) (hn : As.length = n) (hr : (rest.map fun v => v.category).sum ≤ 8) (hR : rm.frames + 1 ≤ R.frames ∧ 8 + (nL' + 11) + rm.locals ≤ R.locals) (hc : cells + rm.cells ≤ R.cells ∧ slots + rm.slots ≤ R.slots) (hd : decode cc pc = .ok (.invokestatic idx, 3)) (k : JJ γ p l e R s m args below meth c nL (cells + rm.cells) (slots + rm.slots) Q S' μ' (pc + 3) lv (r.toList ++ rest)) : JJ γ p l e R s m args below meth c nL cells slots Q S μ pc lv st0 := by
  obtain ⟨m1, m3, m4, m5⟩ := hM
  have hts := F.2.2.2.2.1
  refine j_cont (a := As.toArray) (fun H locs ls hW hS hl => ?_) k
  exact va_runSN (As := As) (rest := rest) ⟨F.1, F.2.1, F.2.2.1, F.2.2.2.1, hts⟩ hct ⟨va_cnB n hts (gg_call m4) rfl rfl rfl (F.2.2.2.2.2.1.2.2.1 _ hlk) (hts _ m3) m5 hR, hts _ m1, trivial⟩ ⟨Pm.blind, fun U hU hw => j_pre F hW hS hU hw⟩ rfl hn hl.1 hst (lv_room hr) hd hc
end Ret
/-- a contract out of the judgement at the entry -/
theorem ct_of {l : Launch} {γ : GE} {y : MethodName} {cc : ByteArray} {nL : Nat} {ret : Option FieldType} {rm : Room} {av : List Value} {S : SH} {μ : Mem} {S' : SH} {μ' : Mem} {r : Option Value} (hy : plainName y.cls = true) (hlen : (lg_sl av).length ≤ nL)
    (body : ∀ (p : Program) (e : Env) (s : State) (m : MethodId) (args : Array Value) (below : List Frame) (meth : Method) (c : Code), FX γ p s m args meth c cc y.cls nL → meth.sig.returnType = ret → meth.name = y.name → JJ γ p l e rm s m args below meth c nL 0 0 (MQ below (Qm γ S' μ' r) args s rm.cells rm.slots (AA γ)) S μ 0 (lv_args 0 av) []) : Ct l γ y cc nL ret rm av S μ S' μ' r := by
  refine Met.ofW (cc := cc) (maxL := nL) (ret := ret) hy rfl ?_
  intro p e s m args below meth c s₁ B hml hv
  obtain ⟨rfl, hK, hW⟩ := hv
  have hts := atoms_spec (ws := Cond.code y cc nL ret :: GG) B.pre
  have hin : meth.name = y.name := (name_of_methodNamed B.named B.method).1
  have hl := lv_entry av (n := nL) hlen
  rw [lg_entry_eq]
  exact body p e s m av.toArray below meth c ⟨B.exec, B.bytes, hml, findClass_of_methodNamed B.named, fun w hw => hts w (List.mem_cons_of_mem _ hw), hK, B.notSynchronized⟩ B.returns hin s.heap [] _ hW va_S.rf hl
end
section
theorem if_some {c : Prop} {ρ : Type} {a : Option ρ} {X : ρ} {dc : Decidable c} (h : (if c then a else none) = some X) : c ∧ a = some X := by
  by_cases hc : c
  · rw [if_pos hc] at h; exact ⟨hc, h⟩
  · rw [if_neg hc] at h; cases h
section Rows2
variable {γ : GE} {p : Program} {l : Launch} {e : Env} {R : Room} {s : State} {m : MethodId} {args : Array Value} {below : List Frame} {meth : Method} {c : Code} {cc : ByteArray} {own : String} {nL : Nat} {cells slots : Nat} {Q : State → Prop} {S : SH} {μ : Mem} {pc : Nat} {lv : List (Nat × Value)} {st : List Value} {ρ : Type} {X : ρ}
theorem j_nmI {e0 : Int32} {K : Int32 → Option ρ} (h : (some e0).bind K = some X) (k : ∀ v, K v = some X → JJ γ p l e R s m args below meth c nL cells slots Q S μ (pc) (lv) (.int v :: st)) : JJ γ p l e R s m args below meth c nL cells slots Q S μ (pc) (lv) (.int e0 :: st) := k e0 h
theorem j_nmL {e0 : Int64} {K : Int64 → Option ρ} (h : (some e0).bind K = some X) (k : ∀ v, K v = some X → JJ γ p l e R s m args below meth c nL cells slots Q S μ (pc) (lv) (.long v :: st)) : JJ γ p l e R s m args below meth c nL cells slots Q S μ (pc) (lv) (.long e0 :: st) := k e0 h
theorem j_ixor (F : FX γ p s m args meth c cc own nL) {x y : Int32} (hd : decode cc pc = .ok (.ixor, 1)) (k : JJ γ p l e R s m args below meth c nL cells slots Q S μ (pc + 1) (lv) (.int (x ^^^ y) :: st)) : JJ γ p l e R s m args below meth c nL cells slots Q S μ (pc) (lv) (.int y :: .int x :: st) :=
  fun H locs ls hW hS hl => lv_ixor F.1 F.2.1 hd (k H locs ls hW hS hl)
theorem j_tin (F : FX γ p s m args meth c cc own nL) {dflt lo hi off : Int} {offs : Array Int} {len : Nat} {x : Int32} (tgt : Nat) (hd : decode cc pc = .ok (.tableswitch dflt lo hi offs, len)) (h1 : ¬ x.toInt < lo) (h2 : ¬ hi < x.toInt) (ho : offs[(x.toInt - lo).toNat]? = some off) (ht : (pc : Int) + off = (tgt : Int)) (k : JJ γ p l e R s m args below meth c nL cells slots Q S μ (tgt) (lv) (st)) : JJ γ p l e R s m args below meth c nL cells slots Q S μ (pc) (lv) (.int x :: st) :=
  fun H locs ls hW hS hl => lv_tableIn F.1 F.2.1 hd h1 h2 ho ht (k H locs ls hW hS hl)
theorem j_tout (F : FX γ p s m args meth c cc own nL) {dflt lo hi : Int} {offs : Array Int} {len : Nat} {x : Int32} (tgt : Nat) (hd : decode cc pc = .ok (.tableswitch dflt lo hi offs, len)) (h1 : x.toInt < lo ∨ hi < x.toInt) (ht : (pc : Int) + dflt = (tgt : Int)) (k : JJ γ p l e R s m args below meth c nL cells slots Q S μ (tgt) (lv) (st)) : JJ γ p l e R s m args below meth c nL cells slots Q S μ (pc) (lv) (.int x :: st) :=
  fun H locs ls hW hS hl => lv_tableOut F.1 F.2.1 hd h1 ht (k H locs ls hW hS hl)
variable {y : MethodName} {cc' : ByteArray} {nL' : Nat} {ret : Option FieldType} {f0 l0 : Nat} {n ci o idx : Nat} {As rest : List Value}
theorem j_cVI (F : FX γ p s m args meth c cc own nL) {rm : Room} {K : Int32 × Mem → Option ρ} {t : Option (Int32 × Mem)} (hM : MI y cc' nL' ret n ci) (hlk : Cond.methodLink own idx y ∈ GG) (h : t.bind K = some X) (hct : ∀ q, t = some q → isO S ci o = true ∧ Ct l γ y cc' nL' ret rm (.ref (gb γ + o) :: As) S μ S q.2 (some (.int q.1))) (hst : st = As.reverse ++ .ref (gb γ + o) :: rest) (hn : As.length = n) (hr : (rest.map fun v => v.category).sum ≤ 8) (hR : rm.frames + 1 ≤ R.frames ∧ 8 + (nL' + 11) + rm.locals ≤ R.locals) (hc : cells ≤ R.cells ∧ slots ≤ R.slots) (hd : decode cc pc = .ok (.invokevirtual idx, 3)) (k : ∀ q, K q = some X → JJ γ p l e R s m args below meth c nL cells slots Q S q.2 (pc + 3) (lv) (.int q.1 :: rest)) (hz : rm.cells = 0 ∧ rm.slots = 0 := by exact ⟨rfl, rfl⟩) : JJ γ p l e R s m args below meth c nL cells slots Q S μ (pc) (lv) (st) := by
  obtain ⟨q, g, h⟩ := bd_some h
  have hct := hct q g
  obtain ⟨z1, z2⟩ := hz
  have k := k q h
  have hc' : cells + rm.cells ≤ R.cells ∧ slots + rm.slots ≤ R.slots := by rw [z1, z2]; exact hc
  exact j_callV F hM hlk hct st hst hn hr hR hc' hd (by rw [z1, z2]; exact k)
theorem j_cSI (F : FX γ p s m args meth c cc own nL) {rm : Room} {K : Int32 × Mem → Option ρ} {t : Option (Int32 × Mem)} (hM : MS y cc' nL' ret n) (hlk : Cond.methodLink own idx y ∈ GG) (h : t.bind K = some X) (hct : ∀ q, t = some q → Ct l γ y cc' nL' ret rm As S μ S q.2 (some (.int q.1))) (hst : st = As.reverse ++ rest) (hn : As.length = n) (hr : (rest.map fun v => v.category).sum ≤ 8) (hR : rm.frames + 1 ≤ R.frames ∧ 8 + (nL' + 11) + rm.locals ≤ R.locals) (hc : cells ≤ R.cells ∧ slots ≤ R.slots) (hd : decode cc pc = .ok (.invokestatic idx, 3)) (k : ∀ q, K q = some X → JJ γ p l e R s m args below meth c nL cells slots Q S q.2 (pc + 3) (lv) (.int q.1 :: rest)) (hz : rm.cells = 0 ∧ rm.slots = 0 := by exact ⟨rfl, rfl⟩) : JJ γ p l e R s m args below meth c nL cells slots Q S μ (pc) (lv) (st) := by
  obtain ⟨q, g, h⟩ := bd_some h
  have hct := hct q g
  obtain ⟨z1, z2⟩ := hz
  have k := k q h
  have hc' : cells + rm.cells ≤ R.cells ∧ slots + rm.slots ≤ R.slots := by rw [z1, z2]; exact hc
  exact j_callS F hM hlk hct st hst hn hr hR hc' hd (by rw [z1, z2]; exact k)
theorem j_cNI (F : FX γ p s m args meth c cc own nL) {rm : Room} {K : Int32 × Mem → Option ρ} {t : Option (Int32 × Mem)} (hM : MS y cc' nL' ret n) (hlk : Cond.methodLinkNest own idx y "CranePads" ∈ nestM) (h : t.bind K = some X) (hct : ∀ q, t = some q → Ct l γ y cc' nL' ret rm As S μ S q.2 (some (.int q.1))) (hst : st = As.reverse ++ rest) (hn : As.length = n) (hr : (rest.map fun v => v.category).sum ≤ 8) (hR : rm.frames + 1 ≤ R.frames ∧ 8 + (nL' + 11) + rm.locals ≤ R.locals) (hc : cells ≤ R.cells ∧ slots ≤ R.slots) (hd : decode cc pc = .ok (.invokestatic idx, 3)) (k : ∀ q, K q = some X → JJ γ p l e R s m args below meth c nL cells slots Q S q.2 (pc + 3) (lv) (.int q.1 :: rest)) (hz : rm.cells = 0 ∧ rm.slots = 0 := by exact ⟨rfl, rfl⟩) : JJ γ p l e R s m args below meth c nL cells slots Q S μ (pc) (lv) (st) := by
  obtain ⟨q, g, h⟩ := bd_some h
  have hct := hct q g
  obtain ⟨z1, z2⟩ := hz
  have k := k q h
  have hc' : cells + rm.cells ≤ R.cells ∧ slots + rm.slots ≤ R.slots := by rw [z1, z2]; exact hc
  exact j_callSN F hM hlk hct st hst hn hr hR hc' hd (by rw [z1, z2]; exact k)
theorem j_cVJ (F : FX γ p s m args meth c cc own nL) {rm : Room} {K : Int64 × Mem → Option ρ} {t : Option (Int64 × Mem)} (hM : MI y cc' nL' ret n ci) (hlk : Cond.methodLink own idx y ∈ GG) (h : t.bind K = some X) (hct : ∀ q, t = some q → isO S ci o = true ∧ Ct l γ y cc' nL' ret rm (.ref (gb γ + o) :: As) S μ S q.2 (some (.long q.1))) (hst : st = As.reverse ++ .ref (gb γ + o) :: rest) (hn : As.length = n) (hr : (rest.map fun v => v.category).sum ≤ 8) (hR : rm.frames + 1 ≤ R.frames ∧ 8 + (nL' + 11) + rm.locals ≤ R.locals) (hc : cells ≤ R.cells ∧ slots ≤ R.slots) (hd : decode cc pc = .ok (.invokevirtual idx, 3)) (k : ∀ q, K q = some X → JJ γ p l e R s m args below meth c nL cells slots Q S q.2 (pc + 3) (lv) (.long q.1 :: rest)) (hz : rm.cells = 0 ∧ rm.slots = 0 := by exact ⟨rfl, rfl⟩) : JJ γ p l e R s m args below meth c nL cells slots Q S μ (pc) (lv) (st) := by
  obtain ⟨q, g, h⟩ := bd_some h
  have hct := hct q g
  obtain ⟨z1, z2⟩ := hz
  have k := k q h
  have hc' : cells + rm.cells ≤ R.cells ∧ slots + rm.slots ≤ R.slots := by rw [z1, z2]; exact hc
  exact j_callV F hM hlk hct st hst hn hr hR hc' hd (by rw [z1, z2]; exact k)
theorem j_cSJ (F : FX γ p s m args meth c cc own nL) {rm : Room} {K : Int64 × Mem → Option ρ} {t : Option (Int64 × Mem)} (hM : MS y cc' nL' ret n) (hlk : Cond.methodLink own idx y ∈ GG) (h : t.bind K = some X) (hct : ∀ q, t = some q → Ct l γ y cc' nL' ret rm As S μ S q.2 (some (.long q.1))) (hst : st = As.reverse ++ rest) (hn : As.length = n) (hr : (rest.map fun v => v.category).sum ≤ 8) (hR : rm.frames + 1 ≤ R.frames ∧ 8 + (nL' + 11) + rm.locals ≤ R.locals) (hc : cells ≤ R.cells ∧ slots ≤ R.slots) (hd : decode cc pc = .ok (.invokestatic idx, 3)) (k : ∀ q, K q = some X → JJ γ p l e R s m args below meth c nL cells slots Q S q.2 (pc + 3) (lv) (.long q.1 :: rest)) (hz : rm.cells = 0 ∧ rm.slots = 0 := by exact ⟨rfl, rfl⟩) : JJ γ p l e R s m args below meth c nL cells slots Q S μ (pc) (lv) (st) := by
  obtain ⟨q, g, h⟩ := bd_some h
  have hct := hct q g
  obtain ⟨z1, z2⟩ := hz
  have k := k q h
  have hc' : cells + rm.cells ≤ R.cells ∧ slots + rm.slots ≤ R.slots := by rw [z1, z2]; exact hc
  exact j_callS F hM hlk hct st hst hn hr hR hc' hd (by rw [z1, z2]; exact k)
theorem j_cNJ (F : FX γ p s m args meth c cc own nL) {rm : Room} {K : Int64 × Mem → Option ρ} {t : Option (Int64 × Mem)} (hM : MS y cc' nL' ret n) (hlk : Cond.methodLinkNest own idx y "CranePads" ∈ nestM) (h : t.bind K = some X) (hct : ∀ q, t = some q → Ct l γ y cc' nL' ret rm As S μ S q.2 (some (.long q.1))) (hst : st = As.reverse ++ rest) (hn : As.length = n) (hr : (rest.map fun v => v.category).sum ≤ 8) (hR : rm.frames + 1 ≤ R.frames ∧ 8 + (nL' + 11) + rm.locals ≤ R.locals) (hc : cells ≤ R.cells ∧ slots ≤ R.slots) (hd : decode cc pc = .ok (.invokestatic idx, 3)) (k : ∀ q, K q = some X → JJ γ p l e R s m args below meth c nL cells slots Q S q.2 (pc + 3) (lv) (.long q.1 :: rest)) (hz : rm.cells = 0 ∧ rm.slots = 0 := by exact ⟨rfl, rfl⟩) : JJ γ p l e R s m args below meth c nL cells slots Q S μ (pc) (lv) (st) := by
  obtain ⟨q, g, h⟩ := bd_some h
  have hct := hct q g
  obtain ⟨z1, z2⟩ := hz
  have k := k q h
  have hc' : cells + rm.cells ≤ R.cells ∧ slots + rm.slots ≤ R.slots := by rw [z1, z2]; exact hc
  exact j_callSN F hM hlk hct st hst hn hr hR hc' hd (by rw [z1, z2]; exact k)
theorem j_cVV (F : FX γ p s m args meth c cc own nL) {rm : Room} {K : Unit × Mem → Option ρ} {t : Option (Unit × Mem)} (hM : MI y cc' nL' ret n ci) (hlk : Cond.methodLink own idx y ∈ GG) (h : t.bind K = some X) (hct : ∀ q, t = some q → isO S ci o = true ∧ Ct l γ y cc' nL' ret rm (.ref (gb γ + o) :: As) S μ S q.2 none) (hst : st = As.reverse ++ .ref (gb γ + o) :: rest) (hn : As.length = n) (hr : (rest.map fun v => v.category).sum ≤ 8) (hR : rm.frames + 1 ≤ R.frames ∧ 8 + (nL' + 11) + rm.locals ≤ R.locals) (hc : cells ≤ R.cells ∧ slots ≤ R.slots) (hd : decode cc pc = .ok (.invokevirtual idx, 3)) (k : ∀ q, K q = some X → JJ γ p l e R s m args below meth c nL cells slots Q S q.2 (pc + 3) (lv) (rest)) (hz : rm.cells = 0 ∧ rm.slots = 0 := by exact ⟨rfl, rfl⟩) : JJ γ p l e R s m args below meth c nL cells slots Q S μ (pc) (lv) (st) := by
  obtain ⟨q, g, h⟩ := bd_some h
  have hct := hct q g
  obtain ⟨z1, z2⟩ := hz
  have k := k q h
  have hc' : cells + rm.cells ≤ R.cells ∧ slots + rm.slots ≤ R.slots := by rw [z1, z2]; exact hc
  exact j_callV F hM hlk hct st hst hn hr hR hc' hd (by rw [z1, z2]; exact k)
theorem j_cSV (F : FX γ p s m args meth c cc own nL) {rm : Room} {K : Unit × Mem → Option ρ} {t : Option (Unit × Mem)} (hM : MS y cc' nL' ret n) (hlk : Cond.methodLink own idx y ∈ GG) (h : t.bind K = some X) (hct : ∀ q, t = some q → Ct l γ y cc' nL' ret rm As S μ S q.2 none) (hst : st = As.reverse ++ rest) (hn : As.length = n) (hr : (rest.map fun v => v.category).sum ≤ 8) (hR : rm.frames + 1 ≤ R.frames ∧ 8 + (nL' + 11) + rm.locals ≤ R.locals) (hc : cells ≤ R.cells ∧ slots ≤ R.slots) (hd : decode cc pc = .ok (.invokestatic idx, 3)) (k : ∀ q, K q = some X → JJ γ p l e R s m args below meth c nL cells slots Q S q.2 (pc + 3) (lv) (rest)) (hz : rm.cells = 0 ∧ rm.slots = 0 := by exact ⟨rfl, rfl⟩) : JJ γ p l e R s m args below meth c nL cells slots Q S μ (pc) (lv) (st) := by
  obtain ⟨q, g, h⟩ := bd_some h
  have hct := hct q g
  obtain ⟨z1, z2⟩ := hz
  have k := k q h
  have hc' : cells + rm.cells ≤ R.cells ∧ slots + rm.slots ≤ R.slots := by rw [z1, z2]; exact hc
  exact j_callS F hM hlk hct st hst hn hr hR hc' hd (by rw [z1, z2]; exact k)
theorem j_cNV (F : FX γ p s m args meth c cc own nL) {rm : Room} {K : Unit × Mem → Option ρ} {t : Option (Unit × Mem)} (hM : MS y cc' nL' ret n) (hlk : Cond.methodLinkNest own idx y "CranePads" ∈ nestM) (h : t.bind K = some X) (hct : ∀ q, t = some q → Ct l γ y cc' nL' ret rm As S μ S q.2 none) (hst : st = As.reverse ++ rest) (hn : As.length = n) (hr : (rest.map fun v => v.category).sum ≤ 8) (hR : rm.frames + 1 ≤ R.frames ∧ 8 + (nL' + 11) + rm.locals ≤ R.locals) (hc : cells ≤ R.cells ∧ slots ≤ R.slots) (hd : decode cc pc = .ok (.invokestatic idx, 3)) (k : ∀ q, K q = some X → JJ γ p l e R s m args below meth c nL cells slots Q S q.2 (pc + 3) (lv) (rest)) (hz : rm.cells = 0 ∧ rm.slots = 0 := by exact ⟨rfl, rfl⟩) : JJ γ p l e R s m args below meth c nL cells slots Q S μ (pc) (lv) (st) := by
  obtain ⟨q, g, h⟩ := bd_some h
  have hct := hct q g
  obtain ⟨z1, z2⟩ := hz
  have k := k q h
  have hc' : cells + rm.cells ≤ R.cells ∧ slots + rm.slots ≤ R.slots := by rw [z1, z2]; exact hc
  exact j_callSN F hM hlk hct st hst hn hr hR hc' hd (by rw [z1, z2]; exact k)
theorem j_cVS (F : FX γ p s m args meth c cc own nL) {rm : Room} {K : Nat × Mem → Option ρ} {t : Option (Nat × Mem)} (hM : MI y cc' nL' ret n ci) (hlk : Cond.methodLink own idx y ∈ GG) (h : t.bind K = some X) (hct : ∀ q, t = some q → isO S ci o = true ∧ Ct l γ y cc' nL' ret rm (.ref (gb γ + o) :: As) S μ S q.2 (some (.ref (gK γ q.1)))) (hst : st = As.reverse ++ .ref (gb γ + o) :: rest) (hn : As.length = n) (hr : (rest.map fun v => v.category).sum ≤ 8) (hR : rm.frames + 1 ≤ R.frames ∧ 8 + (nL' + 11) + rm.locals ≤ R.locals) (hc : cells ≤ R.cells ∧ slots ≤ R.slots) (hd : decode cc pc = .ok (.invokevirtual idx, 3)) (k : ∀ q, K q = some X → JJ γ p l e R s m args below meth c nL cells slots Q S q.2 (pc + 3) (lv) (.ref (gK γ q.1) :: rest)) (hz : rm.cells = 0 ∧ rm.slots = 0 := by exact ⟨rfl, rfl⟩) : JJ γ p l e R s m args below meth c nL cells slots Q S μ (pc) (lv) (st) := by
  obtain ⟨q, g, h⟩ := bd_some h
  have hct := hct q g
  obtain ⟨z1, z2⟩ := hz
  have k := k q h
  have hc' : cells + rm.cells ≤ R.cells ∧ slots + rm.slots ≤ R.slots := by rw [z1, z2]; exact hc
  exact j_callV F hM hlk hct st hst hn hr hR hc' hd (by rw [z1, z2]; exact k)
theorem j_cSS (F : FX γ p s m args meth c cc own nL) {rm : Room} {K : Nat × Mem → Option ρ} {t : Option (Nat × Mem)} (hM : MS y cc' nL' ret n) (hlk : Cond.methodLink own idx y ∈ GG) (h : t.bind K = some X) (hct : ∀ q, t = some q → Ct l γ y cc' nL' ret rm As S μ S q.2 (some (.ref (gK γ q.1)))) (hst : st = As.reverse ++ rest) (hn : As.length = n) (hr : (rest.map fun v => v.category).sum ≤ 8) (hR : rm.frames + 1 ≤ R.frames ∧ 8 + (nL' + 11) + rm.locals ≤ R.locals) (hc : cells ≤ R.cells ∧ slots ≤ R.slots) (hd : decode cc pc = .ok (.invokestatic idx, 3)) (k : ∀ q, K q = some X → JJ γ p l e R s m args below meth c nL cells slots Q S q.2 (pc + 3) (lv) (.ref (gK γ q.1) :: rest)) (hz : rm.cells = 0 ∧ rm.slots = 0 := by exact ⟨rfl, rfl⟩) : JJ γ p l e R s m args below meth c nL cells slots Q S μ (pc) (lv) (st) := by
  obtain ⟨q, g, h⟩ := bd_some h
  have hct := hct q g
  obtain ⟨z1, z2⟩ := hz
  have k := k q h
  have hc' : cells + rm.cells ≤ R.cells ∧ slots + rm.slots ≤ R.slots := by rw [z1, z2]; exact hc
  exact j_callS F hM hlk hct st hst hn hr hR hc' hd (by rw [z1, z2]; exact k)
theorem j_cNS (F : FX γ p s m args meth c cc own nL) {rm : Room} {K : Nat × Mem → Option ρ} {t : Option (Nat × Mem)} (hM : MS y cc' nL' ret n) (hlk : Cond.methodLinkNest own idx y "CranePads" ∈ nestM) (h : t.bind K = some X) (hct : ∀ q, t = some q → Ct l γ y cc' nL' ret rm As S μ S q.2 (some (.ref (gK γ q.1)))) (hst : st = As.reverse ++ rest) (hn : As.length = n) (hr : (rest.map fun v => v.category).sum ≤ 8) (hR : rm.frames + 1 ≤ R.frames ∧ 8 + (nL' + 11) + rm.locals ≤ R.locals) (hc : cells ≤ R.cells ∧ slots ≤ R.slots) (hd : decode cc pc = .ok (.invokestatic idx, 3)) (k : ∀ q, K q = some X → JJ γ p l e R s m args below meth c nL cells slots Q S q.2 (pc + 3) (lv) (.ref (gK γ q.1) :: rest)) (hz : rm.cells = 0 ∧ rm.slots = 0 := by exact ⟨rfl, rfl⟩) : JJ γ p l e R s m args below meth c nL cells slots Q S μ (pc) (lv) (st) := by
  obtain ⟨q, g, h⟩ := bd_some h
  have hct := hct q g
  obtain ⟨z1, z2⟩ := hz
  have k := k q h
  have hc' : cells + rm.cells ≤ R.cells ∧ slots + rm.slots ≤ R.slots := by rw [z1, z2]; exact hc
  exact j_callSN F hM hlk hct st hst hn hr hR hc' hd (by rw [z1, z2]; exact k)
theorem cp_at {μ : Mem} {o o2 sp dp cnt n1 : Nat} {ty : FieldType} {rs : Nat → Option Nat} (hty : kI ty = true) (ho : o2 < S.1) (hs : S.2 o2 = .inr (ty, n1, rs)) {H H1 : Heap} (hW : Wd γ S μ H) (e : H1[gb γ + o2]? = some (vp_cell (gA γ ty) (n1, .inl (va_cpy (μ.1 o) (μ.1 o2) sp dp cnt)))) (z : H1.size = H.size) (oq : ∀ q, q ≠ gb γ + o2 → H1[q]? = H[q]?) : Wd γ S (fun k q => if k = o2 then va_cpy (μ.1 o) (μ.1 o2) sp dp cnt q else μ.1 k q, μ.2) H1 := by
  refine hW.set z oq ?_ (fun k hk => ⟨by funext i; simp [hk], rfl⟩)
  rw [hs]
  show H1[gb γ + o2]? = some (vp_cell (gA γ ty) (celA γ _ o2 ty n1 rs))
  rw [celA_I hty, e]
  simp
theorem j_cp (F : FX γ p s m args meth c cc own nL) {o o2 : Nat} {i j cnt : Int32} {ty : FieldType} (t0 : Nat) {K : Mem → Option ρ} (hty : kI ty = true) (ht : (tysG γ)[t0]? = some (gA γ ty, ty)) (hprim : refKind ty = false) (hlk : Cond.methodLink own idx arraycopyName ∈ GG) (hg : Cond.native arraycopyName ∈ GG ∧ Cond.static arraycopyName ∈ GG ∧ Cond.initialized "java/lang/System" ∈ GG) (hR : 1 ≤ R.frames ∧ (st.map fun v => v.category).sum + (nativeFrameWords "java/lang/System" "arraycopy" 5 + 11) ≤ R.locals) (hfit : ∀ q, q < cnt.toNatClampNeg → fits ty (.int (μ.1 o (i.toNatClampNeg + q))) = true) (hd : decode cc pc = .ok (.invokestatic idx, 3)) (h : (cpI S ty o i o2 j cnt μ).bind K = some X) (k : ∀ ν, K ν = some X → JJ γ p l e R s m args below meth c nL cells slots Q S ν (pc + 3) lv st) : JJ γ p l e R s m args below meth c nL cells slots Q S μ pc lv (.int cnt :: .int j :: .ref (gb γ + o2) :: .int i :: .ref (gb γ + o) :: st) := by
  obtain ⟨ν, hv, h⟩ := bd_some h
  obtain ⟨n0, hn0, hv⟩ := bd_some hv
  obtain ⟨n1, hn1, hv⟩ := bd_some hv
  obtain ⟨⟨h1, h2, h3, h4, h5⟩, hv⟩ := if_some hv
  cases hv
  obtain ⟨ho, rs, hs⟩ := isA_spec hn0
  obtain ⟨ho2, rs2, hs2⟩ := isA_spec hn1
  intro H locs ls hW hS hl T hT XX
  have hts := F.2.2.2.2.1
  have hK := F.2.2.2.2.2.1.1
  have nn : ∀ z : Int32, ¬ z < 0 → z.toInt = (z.toNatClampNeg : Int) := by
    intro z hz
    have hz0 : (0 : Int) ≤ z.toInt := by
      have := Int32.not_lt.mp hz
      simpa using Int32.le_iff_toInt_le.mp this
    show z.toInt = ((z.toInt.toNat : Nat) : Int)
    omega
  have hP0 := hW.ar ho hs
  rw [celA_I hty] at hP0
  have hP1 := hW.ar ho2 hs2
  rw [celA_I hty] at hP1
  have hc0 : H[gb γ + o]? = some (vp_cell (gA γ ty) (n0, .inl (μ.1 o))) := hP0 0 _ rfl
  have hc1 : H[gb γ + o2]? = some (vp_cell (gA γ ty) (n1, .inl (μ.1 o2))) := hP1 0 _ rfl
  obtain ⟨-, k0, hk0, cm0, hkk0⟩ := (hK.2 t0 _ ht).1 n0 (fun j => .int (μ.1 o j))
  obtain ⟨-, k1, hk1, cm1, hkk1⟩ := (hK.2 t0 _ ht).1 n1 (fun j => .int (μ.1 o2 j))
  obtain ⟨vm', X', step⟩ := XX.arraycopy F.1 F.2.2.2.1 (hts _ hlk) (hts _ hg.1) (hts _ hg.2.1) (hts _ hg.2.2) (src := gb γ + o) (dst := gb γ + o2) (cs := vp_cell (gA γ ty) (n0, .inl (μ.1 o))) (cd := vp_cell (gA γ ty) (n1, .inl (μ.1 o2))) (srcPos := i) (destPos := j) (n := cnt) (by rw [hT]; exact hc0) (by rw [hT]; exact hc1)
    (fun _ h => by cases h) (fun _ h => by cases h) (fun h => by cases h) (fun h => by cases h) hk0 hk1 hkk0 hkk1 (by simp [hprim]) h1 h2 h3
    (by rw [nn i h1, nn cnt h3]; show ¬ _ > ((arrV (gA γ ty) n0 (fun j => .int (μ.1 o j))).slots.size : Int); rw [arrV_size]; omega)
    (by rw [nn j h2, nn cnt h3]; show ¬ _ > ((arrV (gA γ ty) n1 (fun j => .int (μ.1 o2 j))).slots.size : Int); rw [arrV_size]; omega)
    (fun vm₁ _ q hq => by
      have e : (vp_cell (gA γ ty) (n0, .inl (μ.1 o))).slots.getD (i.toNatClampNeg + q) .null = .int (μ.1 o (i.toNatClampNeg + q)) := by
        show (arrV (gA γ ty) n0 (fun j => .int (μ.1 o j))).slots.getD _ _ = _
        rw [Array.getD_eq_getD_getElem?, arrV_read _ _ (by omega)]
        rfl
      refine ⟨?_, ?_⟩
      · rw [e]
        exact hfit _ hq
      · rw [e]
        exact trivial)
    (g := F0 m pc ls (.int cnt :: .int j :: .ref (gb γ + o2) :: .int i :: .ref (gb γ + o) :: st)) rfl (by rw [hl.1]; exact F.2.2.1.symm) (rest := st) rfl (by rw [F.2.1]; exact hd) hR.1 (by show 2 * 0 + _ + _ ≤ _; omega)
  have e1 : copied (vp_cell (gA γ ty) (n0, .inl (μ.1 o))) (vp_cell (gA γ ty) (n1, .inl (μ.1 o2))) i j cnt = vp_cell (gA γ ty) (n1, .inl (va_cpy (μ.1 o) (μ.1 o2) i.toNatClampNeg j.toNatClampNeg cnt.toNatClampNeg)) := va_copied (fun z => .int z) (gA γ ty) (gA γ ty) (μ.1 o) (μ.1 o2) h4
  rw [e1] at X' step
  have hlt : gb γ + o2 < H.size := (Array.getElem?_eq_some_iff.mp hc1).1
  have hheap : ((T.setVm vm').setCell (gb γ + o2) (vp_cell (gA γ ty) (n1, .inl (va_cpy (μ.1 o) (μ.1 o2) i.toNatClampNeg j.toNatClampNeg cnt.toNatClampNeg)))).heap = H.setIfInBounds (gb γ + o2) (vp_cell (gA γ ty) (n1, .inl (va_cpy (μ.1 o) (μ.1 o2) i.toNatClampNeg j.toNatClampNeg cnt.toNatClampNeg))) := by rw [← hT]; rfl
  have oq : ∀ q : Nat, q ≠ gb γ + o2 → (H.setIfInBounds (gb γ + o2) (vp_cell (gA γ ty) (n1, .inl (va_cpy (μ.1 o) (μ.1 o2) i.toNatClampNeg j.toNatClampNeg cnt.toNatClampNeg))))[q]? = H[q]? := fun q hq => by simp [Array.getElem?_setIfInBounds, Ne.symm hq]
  obtain ⟨t, a1, b1⟩ := k _ h _ _ ls (cp_at hty ho2 hs2 hW (show (H.setIfInBounds (gb γ + o2) _)[gb γ + o2]? = some _ by simp [Array.getElem?_setIfInBounds, hlt]) (by simp) oq) ⟨by simp; exact hS.1, fun q g1 g2 => by
      rw [oq q (fun e => g2 (by rw [e]; exact Nat.le_add_right _ _))]
      exact hS.2.1 q g1 g2, fun q hq => by
      rcases List.mem_append.mp hq with h | h
      · exact hS.2.2 q h
      · obtain ⟨z, -, hz⟩ := List.mem_map.mp h
        rw [← hz]
        exact Nat.le_add_right _ _⟩ hl _ hheap X'
  exact ⟨t, step t a1, b1⟩

end Rows2
end
section
theorem cp0 : CP 0 RX0 TX0 4 := ⟨rfl, rfl, gg_ps [394, 396, 398, 400] (by decide +kernel) (by decide +kernel), tyX0_ok, nmX0⟩
theorem cp1 : CP 1 RX1 TX1 2 := ⟨rfl, rfl, gg_ps [221, 223] (by decide +kernel) (by decide +kernel), tyX1_ok, nmX1⟩
theorem cp2 : CP 2 RX2 TX2 4 := ⟨rfl, rfl, gg_ps [248, 250, 252, 254] (by decide +kernel) (by decide +kernel), tyX2_ok, nmX2⟩
theorem cp3 : CP 3 RX3 TX3 8 := ⟨rfl, rfl, gg_ps [279, 281, 283, 285, 287, 289, 291, 293] (by decide +kernel) (by decide +kernel), tyX3_ok, nmX3⟩
theorem cp4 : CP 4 RX4 TX4 11 := ⟨rfl, rfl, gg_ps [134, 136, 138, 140, 142, 144, 146, 148, 150, 152, 154] (by decide +kernel) (by decide +kernel), tyX4_ok, nmX4⟩
theorem cp5 : CP 5 RX5 TX5 10 := ⟨rfl, rfl, gg_ps [186, 188, 190, 192, 194, 196, 198, 200, 202, 204] (by decide +kernel) (by decide +kernel), tyX5_ok, nmX5⟩
theorem cp6 : CP 6 RX6 TX6 3 := ⟨rfl, rfl, gg_ps [346, 348, 350] (by decide +kernel) (by decide +kernel), tyX6_ok, nmX6⟩
theorem cp7 : CP 7 RX7 TX7 3 := ⟨rfl, rfl, gg_ps [307, 309, 311] (by decide +kernel) (by decide +kernel), tyX7_ok, nmX7⟩
theorem cp8 : CP 8 RX8 TX8 2 := ⟨rfl, rfl, gg_ps [415, 417] (by decide +kernel) (by decide +kernel), tyX8_ok, nmX8⟩
theorem cp9 : CP 9 RX9 TX9 3 := ⟨rfl, rfl, gg_ps [324, 326, 328] (by decide +kernel) (by decide +kernel), tyX9_ok, nmX9⟩
theorem cp10 : CP 10 RX10 TX10 5 := ⟨rfl, rfl, gg_ps [369, 371, 373, 375, 377] (by decide +kernel) (by decide +kernel), tyX10_ok, nmX10⟩
theorem cp11 : CP 11 RX11 TX11 12 := ⟨rfl, rfl, gg_ps [432, 434, 436, 438, 440, 442, 444, 446, 448, 450, 452, 454] (by decide +kernel) (by decide +kernel), tyX11_ok, nmX11⟩
theorem cp12 : CP 12 RX12 TX12 41 := ⟨rfl, rfl, gg_ps [1014, 1016, 1018, 1020, 1022, 1024, 1026, 1028, 1030, 1032, 1034, 1036, 1038, 1040, 1042, 1044, 1046, 1048, 1050, 1052, 1054, 1056, 1058, 1060, 1062, 1064, 1066, 1068, 1070, 1072, 1074, 1076, 1078, 1080, 1082, 1084, 1086, 1088, 1090, 1092, 1094] (by decide +kernel) (by decide +kernel), tyX12_ok, nmX12⟩
theorem w_0 : Cond.selects "CranePads$Pads" ({ cls := "CranePads$Pads", name := "measure", desc := "()V" } : Jvm.MethodName) ({ cls := "CranePads$Pads", name := "measure", desc := "()V" } : Jvm.MethodName) ∈ GG := gg_mem 0 (by decide +kernel) rfl
theorem w_1 : Cond.selects "CranePads$Judge" ({ cls := "CranePads$Judge", name := "addMoment", desc := "(LCranePads$Pads;IIJJ)V" } : Jvm.MethodName) ({ cls := "CranePads$Judge", name := "addMoment", desc := "(LCranePads$Pads;IIJJ)V" } : Jvm.MethodName) ∈ GG := gg_mem 1 (by decide +kernel) rfl
theorem w_2 : Cond.selects "CranePads$Judge" ({ cls := "CranePads$Judge", name := "tipsOver", desc := "(LCranePads$Pads;)Z" } : Jvm.MethodName) ({ cls := "CranePads$Judge", name := "tipsOver", desc := "(LCranePads$Pads;)Z" } : Jvm.MethodName) ∈ GG := gg_mem 2 (by decide +kernel) rfl
theorem w_3 : Cond.selects "CranePads$Judge" ({ cls := "CranePads$Judge", name := "shareByPlane", desc := "(LCranePads$Pads;)V" } : Jvm.MethodName) ({ cls := "CranePads$Judge", name := "shareByPlane", desc := "(LCranePads$Pads;)V" } : Jvm.MethodName) ∈ GG := gg_mem 3 (by decide +kernel) rfl
theorem w_4 : Cond.selects "CranePads$Judge" ({ cls := "CranePads$Judge", name := "lowestBelowNothing", desc := "()I" } : Jvm.MethodName) ({ cls := "CranePads$Judge", name := "lowestBelowNothing", desc := "()I" } : Jvm.MethodName) ∈ GG := gg_mem 4 (by decide +kernel) rfl
theorem w_5 : Cond.selects "CranePads$Judge" ({ cls := "CranePads$Judge", name := "shareByThree", desc := "(LCranePads$Pads;I)Z" } : Jvm.MethodName) ({ cls := "CranePads$Judge", name := "shareByThree", desc := "(LCranePads$Pads;I)Z" } : Jvm.MethodName) ∈ GG := gg_mem 5 (by decide +kernel) rfl
theorem w_6 : Cond.selects "CranePads$Judge" ({ cls := "CranePads$Judge", name := "isOverLimit", desc := "(LCranePads$Pads;)Z" } : Jvm.MethodName) ({ cls := "CranePads$Judge", name := "isOverLimit", desc := "(LCranePads$Pads;)Z" } : Jvm.MethodName) ∈ GG := gg_mem 6 (by decide +kernel) rfl
theorem w_7 : Cond.selects "CranePads$Route" ({ cls := "CranePads$Route", name := "spread", desc := "()Z" } : Jvm.MethodName) ({ cls := "CranePads$Route", name := "spread", desc := "()Z" } : Jvm.MethodName) ∈ GG := gg_mem 7 (by decide +kernel) rfl
theorem w_8 : Cond.selects "CranePads$Tape" ({ cls := "CranePads$Tape", name := "readStep", desc := "(LCranePads$Plan;)I" } : Jvm.MethodName) ({ cls := "CranePads$Tape", name := "readStep", desc := "(LCranePads$Plan;)I" } : Jvm.MethodName) ∈ GG := gg_mem 8 (by decide +kernel) rfl
theorem w_9 : Cond.selects "CranePads$Tape" ({ cls := "CranePads$Tape", name := "spells", desc := "(ILjava/lang/String;)Z" } : Jvm.MethodName) ({ cls := "CranePads$Tape", name := "spells", desc := "(ILjava/lang/String;)Z" } : Jvm.MethodName) ∈ GG := gg_mem 9 (by decide +kernel) rfl
theorem w_10 : Cond.selects "CranePads$Tape" ({ cls := "CranePads$Tape", name := "dialOfWord", desc := "(I)I" } : Jvm.MethodName) ({ cls := "CranePads$Tape", name := "dialOfWord", desc := "(I)I" } : Jvm.MethodName) ∈ GG := gg_mem 10 (by decide +kernel) rfl
theorem w_11 : Cond.selects "CranePads$Tape" ({ cls := "CranePads$Tape", name := "readNumber", desc := "(LCranePads$Plan;I)I" } : Jvm.MethodName) ({ cls := "CranePads$Tape", name := "readNumber", desc := "(LCranePads$Plan;I)I" } : Jvm.MethodName) ∈ GG := gg_mem 11 (by decide +kernel) rfl
theorem w_12 : Cond.selects "CranePads$Walk" ({ cls := "CranePads$Walk", name := "meet", desc := "(ILCranePads$Crane;LCranePads$Judge;)V" } : Jvm.MethodName) ({ cls := "CranePads$Walk", name := "meet", desc := "(ILCranePads$Crane;LCranePads$Judge;)V" } : Jvm.MethodName) ∈ GG := gg_mem 12 (by decide +kernel) rfl
theorem w_13 : Cond.selects "CranePads$Book" ({ cls := "CranePads$Book", name := "dropEldest", desc := "()V" } : Jvm.MethodName) ({ cls := "CranePads$Book", name := "dropEldest", desc := "()V" } : Jvm.MethodName) ∈ GG := gg_mem 13 (by decide +kernel) rfl
theorem w_14 : Cond.selects "CranePads" ({ cls := "CranePads", name := "mayBeAsBooked", desc := "(I)Z" } : Jvm.MethodName) ({ cls := "CranePads", name := "mayBeAsBooked", desc := "(I)Z" } : Jvm.MethodName) ∈ GG := gg_mem 14 (by decide +kernel) rfl
theorem w_15 : Cond.selects "CranePadsModel" ({ cls := "CranePadsModel", name := "stands", desc := "()Z" } : Jvm.MethodName) ({ cls := "CranePadsModel", name := "stands", desc := "()Z" } : Jvm.MethodName) ∈ GG := gg_mem 15 (by decide +kernel) rfl
theorem w_16 : Cond.selects "CranePadsModel" ({ cls := "CranePadsModel", name := "x", desc := "(I)I" } : Jvm.MethodName) ({ cls := "CranePadsModel", name := "x", desc := "(I)I" } : Jvm.MethodName) ∈ GG := gg_mem 16 (by decide +kernel) rfl
theorem w_17 : Cond.selects "CranePadsModel" ({ cls := "CranePadsModel", name := "y", desc := "(I)I" } : Jvm.MethodName) ({ cls := "CranePadsModel", name := "y", desc := "(I)I" } : Jvm.MethodName) ∈ GG := gg_mem 17 (by decide +kernel) rfl
theorem w_18 : Cond.selects "CranePadsModel" ({ cls := "CranePadsModel", name := "isPartOf", desc := "(I)Z" } : Jvm.MethodName) ({ cls := "CranePadsModel", name := "isPartOf", desc := "(I)Z" } : Jvm.MethodName) ∈ GG := gg_mem 18 (by decide +kernel) rfl
theorem w_19 : Cond.selects "CranePadsModel" ({ cls := "CranePadsModel", name := "placeOf", desc := "(II)I" } : Jvm.MethodName) ({ cls := "CranePadsModel", name := "placeOf", desc := "(II)I" } : Jvm.MethodName) ∈ GG := gg_mem 19 (by decide +kernel) rfl
theorem w_20 : Cond.selects "CranePadsModel" ({ cls := "CranePadsModel", name := "isThere", desc := "(III)Z" } : Jvm.MethodName) ({ cls := "CranePadsModel", name := "isThere", desc := "(III)Z" } : Jvm.MethodName) ∈ GG := gg_mem 20 (by decide +kernel) rfl
theorem w_21 : Cond.selects "CranePadsModel" ({ cls := "CranePadsModel", name := "goes", desc := "(II)V" } : Jvm.MethodName) ({ cls := "CranePadsModel", name := "goes", desc := "(II)V" } : Jvm.MethodName) ∈ GG := gg_mem 21 (by decide +kernel) rfl
theorem w_22 : Cond.selects "CranePadsModel" ({ cls := "CranePadsModel", name := "comes", desc := "(III)V" } : Jvm.MethodName) ({ cls := "CranePadsModel", name := "comes", desc := "(III)V" } : Jvm.MethodName) ∈ GG := gg_mem 22 (by decide +kernel) rfl
theorem w_23 : Cond.selects "CranePadsModel" ({ cls := "CranePadsModel", name := "readOf", desc := "(II)I" } : Jvm.MethodName) ({ cls := "CranePadsModel", name := "readOf", desc := "(II)I" } : Jvm.MethodName) ∈ GG := gg_mem 23 (by decide +kernel) rfl
theorem w_24 : Cond.selects "CranePadsModel" ({ cls := "CranePadsModel", name := "allowedAt", desc := "(II)I" } : Jvm.MethodName) ({ cls := "CranePadsModel", name := "allowedAt", desc := "(II)I" } : Jvm.MethodName) ∈ GG := gg_mem 24 (by decide +kernel) rfl
theorem w_25 : Cond.selects "CranePadsModel" ({ cls := "CranePadsModel", name := "looks", desc := "()V" } : Jvm.MethodName) ({ cls := "CranePadsModel", name := "looks", desc := "()V" } : Jvm.MethodName) ∈ GG := gg_mem 25 (by decide +kernel) rfl
theorem w_26 : Cond.selects "CranePadsModel" ({ cls := "CranePadsModel", name := "lays", desc := "(IJJ)V" } : Jvm.MethodName) ({ cls := "CranePadsModel", name := "lays", desc := "(IJJ)V" } : Jvm.MethodName) ∈ GG := gg_mem 26 (by decide +kernel) rfl
theorem w_27 : Cond.selects "CranePadsModel" ({ cls := "CranePadsModel", name := "sum", desc := "(I)J" } : Jvm.MethodName) ({ cls := "CranePadsModel", name := "sum", desc := "(I)J" } : Jvm.MethodName) ∈ GG := gg_mem 27 (by decide +kernel) rfl
theorem w_28 : Cond.selects "CranePadsModel" ({ cls := "CranePadsModel", name := "moments", desc := "(II)J" } : Jvm.MethodName) ({ cls := "CranePadsModel", name := "moments", desc := "(II)J" } : Jvm.MethodName) ∈ GG := gg_mem 28 (by decide +kernel) rfl
theorem w_29 : Cond.selects "CranePadsModel" ({ cls := "CranePadsModel", name := "momentOf", desc := "(II)J" } : Jvm.MethodName) ({ cls := "CranePadsModel", name := "momentOf", desc := "(II)J" } : Jvm.MethodName) ∈ GG := gg_mem 29 (by decide +kernel) rfl
theorem w_30 : Cond.selects "CranePadsModel" ({ cls := "CranePadsModel", name := "pushes", desc := "()I" } : Jvm.MethodName) ({ cls := "CranePadsModel", name := "pushes", desc := "()I" } : Jvm.MethodName) ∈ GG := gg_mem 30 (by decide +kernel) rfl
theorem w_31 : Cond.selects "CranePadsModel" ({ cls := "CranePadsModel", name := "tips", desc := "()Z" } : Jvm.MethodName) ({ cls := "CranePadsModel", name := "tips", desc := "()Z" } : Jvm.MethodName) ∈ GG := gg_mem 31 (by decide +kernel) rfl
theorem w_32 : Cond.selects "CranePadsModel" ({ cls := "CranePadsModel", name := "plane", desc := "(I)V" } : Jvm.MethodName) ({ cls := "CranePadsModel", name := "plane", desc := "(I)V" } : Jvm.MethodName) ∈ GG := gg_mem 32 (by decide +kernel) rfl
theorem w_33 : Cond.selects "CranePadsModel" ({ cls := "CranePadsModel", name := "least", desc := "()I" } : Jvm.MethodName) ({ cls := "CranePadsModel", name := "least", desc := "()I" } : Jvm.MethodName) ∈ GG := gg_mem 33 (by decide +kernel) rfl
theorem w_34 : Cond.selects "CranePadsModel" ({ cls := "CranePadsModel", name := "whyNow", desc := "()I" } : Jvm.MethodName) ({ cls := "CranePadsModel", name := "whyNow", desc := "()I" } : Jvm.MethodName) ∈ GG := gg_mem 34 (by decide +kernel) rfl
theorem w_35 : Cond.selects "CranePadsModel" ({ cls := "CranePadsModel", name := "isAboveLimit", desc := "()Z" } : Jvm.MethodName) ({ cls := "CranePadsModel", name := "isAboveLimit", desc := "()Z" } : Jvm.MethodName) ∈ GG := gg_mem 35 (by decide +kernel) rfl
theorem w_36 : Cond.selects "CranePadsModel" ({ cls := "CranePadsModel", name := "spareNow", desc := "()I" } : Jvm.MethodName) ({ cls := "CranePadsModel", name := "spareNow", desc := "()I" } : Jvm.MethodName) ∈ GG := gg_mem 36 (by decide +kernel) rfl
theorem w_37 : Cond.selects "CranePadsModel" ({ cls := "CranePadsModel", name := "may", desc := "()Z" } : Jvm.MethodName) ({ cls := "CranePadsModel", name := "may", desc := "()Z" } : Jvm.MethodName) ∈ GG := gg_mem 37 (by decide +kernel) rfl
theorem w_38 : Cond.selects "CranePadsModel" ({ cls := "CranePadsModel", name := "mayAt", desc := "(II)Z" } : Jvm.MethodName) ({ cls := "CranePadsModel", name := "mayAt", desc := "(II)Z" } : Jvm.MethodName) ∈ GG := gg_mem 38 (by decide +kernel) rfl
theorem w_39 : Cond.selects "CranePadsModel" ({ cls := "CranePadsModel", name := "comesTo", desc := "(III)V" } : Jvm.MethodName) ({ cls := "CranePadsModel", name := "comesTo", desc := "(III)V" } : Jvm.MethodName) ∈ GG := gg_mem 39 (by decide +kernel) rfl
theorem w_40 : Cond.selects "CranePadsModel" ({ cls := "CranePadsModel", name := "reads", desc := "()I" } : Jvm.MethodName) ({ cls := "CranePadsModel", name := "reads", desc := "()I" } : Jvm.MethodName) ∈ GG := gg_mem 40 (by decide +kernel) rfl
theorem w_41 : Cond.selects "CranePadsModel" ({ cls := "CranePadsModel", name := "readStep", desc := "(I)I" } : Jvm.MethodName) ({ cls := "CranePadsModel", name := "readStep", desc := "(I)I" } : Jvm.MethodName) ∈ GG := gg_mem 41 (by decide +kernel) rfl
theorem w_42 : Cond.selects "CranePadsModel" ({ cls := "CranePadsModel", name := "here", desc := "()I" } : Jvm.MethodName) ({ cls := "CranePadsModel", name := "here", desc := "()I" } : Jvm.MethodName) ∈ GG := gg_mem 42 (by decide +kernel) rfl
theorem w_43 : Cond.selects "CranePadsModel" ({ cls := "CranePadsModel", name := "isWord", desc := "(ILjava/lang/String;)Z" } : Jvm.MethodName) ({ cls := "CranePadsModel", name := "isWord", desc := "(ILjava/lang/String;)Z" } : Jvm.MethodName) ∈ GG := gg_mem 43 (by decide +kernel) rfl
theorem w_44 : Cond.selects "CranePadsModel" ({ cls := "CranePadsModel", name := "checks", desc := "()V" } : Jvm.MethodName) ({ cls := "CranePadsModel", name := "checks", desc := "()V" } : Jvm.MethodName) ∈ GG := gg_mem 44 (by decide +kernel) rfl
theorem w_45 : Cond.selects "CranePadsModel" ({ cls := "CranePadsModel", name := "remembers", desc := "()V" } : Jvm.MethodName) ({ cls := "CranePadsModel", name := "remembers", desc := "()V" } : Jvm.MethodName) ∈ GG := gg_mem 45 (by decide +kernel) rfl
theorem w_46 : Cond.selects "CranePadsModel" ({ cls := "CranePadsModel", name := "goesAll", desc := "()V" } : Jvm.MethodName) ({ cls := "CranePadsModel", name := "goesAll", desc := "()V" } : Jvm.MethodName) ∈ GG := gg_mem 46 (by decide +kernel) rfl
theorem w_47 : Cond.selects "CranePadsModel" ({ cls := "CranePadsModel", name := "begins", desc := "()V" } : Jvm.MethodName) ({ cls := "CranePadsModel", name := "begins", desc := "()V" } : Jvm.MethodName) ∈ GG := gg_mem 47 (by decide +kernel) rfl
theorem w_48 : Cond.selects "CranePadsModel" ({ cls := "CranePadsModel", name := "looksAt", desc := "(I)V" } : Jvm.MethodName) ({ cls := "CranePadsModel", name := "looksAt", desc := "(I)V" } : Jvm.MethodName) ∈ GG := gg_mem 48 (by decide +kernel) rfl
theorem w_49 : Cond.selects "CranePadsModel" ({ cls := "CranePadsModel", name := "goesStep", desc := "(I)V" } : Jvm.MethodName) ({ cls := "CranePadsModel", name := "goesStep", desc := "(I)V" } : Jvm.MethodName) ∈ GG := gg_mem 49 (by decide +kernel) rfl
theorem w_50 : Cond.selects "CranePadsModel" ({ cls := "CranePadsModel", name := "slews", desc := "(II)V" } : Jvm.MethodName) ({ cls := "CranePadsModel", name := "slews", desc := "(II)V" } : Jvm.MethodName) ∈ GG := gg_mem 50 (by decide +kernel) rfl
theorem w_51 : Cond.selects "CranePadsModel" ({ cls := "CranePadsModel", name := "reaches", desc := "(II)V" } : Jvm.MethodName) ({ cls := "CranePadsModel", name := "reaches", desc := "(II)V" } : Jvm.MethodName) ∈ GG := gg_mem 51 (by decide +kernel) rfl
theorem w_52 : Cond.selects "CranePadsModel" ({ cls := "CranePadsModel", name := "returns", desc := "()V" } : Jvm.MethodName) ({ cls := "CranePadsModel", name := "returns", desc := "()V" } : Jvm.MethodName) ∈ GG := gg_mem 52 (by decide +kernel) rfl
theorem w_53 : Cond.selects "CranePadsModel" ({ cls := "CranePadsModel", name := "isSeen", desc := "(I)Z" } : Jvm.MethodName) ({ cls := "CranePadsModel", name := "isSeen", desc := "(I)Z" } : Jvm.MethodName) ∈ GG := gg_mem 53 (by decide +kernel) rfl
theorem w_54 : Cond.selects "CranePadsModel" ({ cls := "CranePadsModel", name := "mayLift", desc := "(I)Z" } : Jvm.MethodName) ({ cls := "CranePadsModel", name := "mayLift", desc := "(I)Z" } : Jvm.MethodName) ∈ GG := gg_mem 54 (by decide +kernel) rfl
theorem w_56 : (Jvm.Cond.initialized "CranePads") ∈ GG := gg_mem 56 (by decide +kernel) rfl
theorem w_57 : (Jvm.Cond.initialized "CranePads$Crane") ∈ GG := gg_mem 57 (by decide +kernel) rfl
theorem w_58 : (Jvm.Cond.initialized "CranePads$Pads") ∈ GG := gg_mem 58 (by decide +kernel) rfl
theorem w_59 : (Jvm.Cond.initialized "CranePads$Parts") ∈ GG := gg_mem 59 (by decide +kernel) rfl
theorem w_60 : (Jvm.Cond.initialized "CranePads$Chart") ∈ GG := gg_mem 60 (by decide +kernel) rfl
theorem w_61 : (Jvm.Cond.initialized "java/util/Arrays") ∈ GG := gg_mem 61 (by decide +kernel) rfl
theorem w_62 : (Jvm.Cond.initialized "CranePads$Judge") ∈ GG := gg_mem 62 (by decide +kernel) rfl
theorem w_63 : (Jvm.Cond.initialized "CranePads$Route") ∈ GG := gg_mem 63 (by decide +kernel) rfl
theorem w_64 : (Jvm.Cond.initialized "CranePads$Tape") ∈ GG := gg_mem 64 (by decide +kernel) rfl
theorem w_65 : (Jvm.Cond.initialized "CranePads$Plan") ∈ GG := gg_mem 65 (by decide +kernel) rfl
theorem w_66 : (Jvm.Cond.initialized "CranePads$Walk") ∈ GG := gg_mem 66 (by decide +kernel) rfl
theorem w_67 : (Jvm.Cond.initialized "CranePads$Book") ∈ GG := gg_mem 67 (by decide +kernel) rfl
theorem w_68 : (Jvm.Cond.initialized "CranePads$Rows") ∈ GG := gg_mem 68 (by decide +kernel) rfl
theorem w_69 : (Jvm.Cond.initialized "CranePadsModel") ∈ GG := gg_mem 69 (by decide +kernel) rfl
theorem w_70 : (Jvm.Cond.initialized "java/lang/Math") ∈ GG := gg_mem 70 (by decide +kernel) rfl
theorem w_71 : (Jvm.Cond.initialized "java/lang/System") ∈ GG := gg_mem 71 (by decide +kernel) rfl
theorem w_72 : (Jvm.Cond.initialized "java/lang/String") ∈ GG := gg_mem 72 (by decide +kernel) rfl
theorem w_73 : (Jvm.Cond.initialized "java/lang/StringLatin1") ∈ GG := gg_mem 73 (by decide +kernel) rfl
theorem w_74 : (Jvm.Cond.initialized "jdk/internal/util/Preconditions") ∈ GG := gg_mem 74 (by decide +kernel) rfl
theorem w_96 : (Jvm.Cond.methodLink "CranePads$Pads" (21 : Nat) ({ cls := "CranePads$Pads", name := "measure", desc := "()V" } : Jvm.MethodName)) ∈ GG := gg_mem 96 (by decide +kernel) rfl
theorem w_98 : (Jvm.Cond.instanceMethod ({ cls := "CranePads$Pads", name := "measure", desc := "()V" } : Jvm.MethodName)) ∈ GG := gg_mem 98 (by decide +kernel) rfl
theorem w_99 : (Jvm.Cond.code ({ cls := "CranePads$Pads", name := "measure", desc := "()V" } : Jvm.MethodName) prog_6_method_5_code (12 : Nat) (Option.none : Option Jvm.ClassFile.FieldType)) ∈ GG := gg_mem 99 (by decide +kernel) rfl
theorem w_100 : (Jvm.Cond.methodLink "CranePads$Pads" (60 : Nat) ({ cls := "CranePads$Pads", name := "span", desc := "(I)J" } : Jvm.MethodName)) ∈ GG := gg_mem 100 (by decide +kernel) rfl
theorem w_101 : (Jvm.Cond.instanceMethod ({ cls := "CranePads$Pads", name := "span", desc := "(I)J" } : Jvm.MethodName)) ∈ GG := gg_mem 101 (by decide +kernel) rfl
theorem w_102 : (Jvm.Cond.selects "CranePads$Pads" ({ cls := "CranePads$Pads", name := "span", desc := "(I)J" } : Jvm.MethodName) ({ cls := "CranePads$Pads", name := "span", desc := "(I)J" } : Jvm.MethodName)) ∈ GG := gg_mem 102 (by decide +kernel) rfl
theorem w_103 : (Jvm.Cond.code ({ cls := "CranePads$Pads", name := "span", desc := "(I)J" } : Jvm.MethodName) prog_6_method_4_code (4 : Nat) (Option.some Jvm.ClassFile.FieldType.long)) ∈ GG := gg_mem 103 (by decide +kernel) rfl
theorem w_105 : (Jvm.Cond.static ({ cls := "CranePads", name := "next", desc := "(I)I" } : Jvm.MethodName)) ∈ GG := gg_mem 105 (by decide +kernel) rfl
theorem w_106 : (Jvm.Cond.code ({ cls := "CranePads", name := "next", desc := "(I)I" } : Jvm.MethodName) prog_1_method_51_code (1 : Nat) (Option.some Jvm.ClassFile.FieldType.int)) ∈ GG := gg_mem 106 (by decide +kernel) rfl
theorem w_107 : (Jvm.Cond.constantLong "CranePads$Pads" (64 : Nat) (4 : Int64)) ∈ GG := gg_mem 107 (by decide +kernel) rfl
theorem w_108 : (Jvm.Cond.fieldLink "CranePads$Pads" (9 : Nat) "CranePads$Pads" "x" "[I") ∈ GG := gg_mem 108 (by decide +kernel) rfl
theorem w_109 : (Jvm.Cond.fieldLink "CranePads$Judge" (107 : Nat) "CranePads$Pads" "x" "[I") ∈ GG := gg_mem 109 (by decide +kernel) rfl
theorem w_110 : (Jvm.Cond.fieldLink "CranePads" (141 : Nat) "CranePads$Pads" "x" "[I") ∈ GG := gg_mem 110 (by decide +kernel) rfl
theorem w_111 : (Jvm.Cond.fieldLink "CranePads$Pads" (15 : Nat) "CranePads$Pads" "y" "[I") ∈ GG := gg_mem 111 (by decide +kernel) rfl
theorem w_112 : (Jvm.Cond.fieldLink "CranePads$Judge" (110 : Nat) "CranePads$Pads" "y" "[I") ∈ GG := gg_mem 112 (by decide +kernel) rfl
theorem w_113 : (Jvm.Cond.fieldLink "CranePads" (144 : Nat) "CranePads$Pads" "y" "[I") ∈ GG := gg_mem 113 (by decide +kernel) rfl
theorem w_114 : (Jvm.Cond.fieldLink "CranePads$Pads" (18 : Nat) "CranePads$Pads" "limit" "[I") ∈ GG := gg_mem 114 (by decide +kernel) rfl
theorem w_115 : (Jvm.Cond.fieldLink "CranePads" (147 : Nat) "CranePads$Pads" "limit" "[I") ∈ GG := gg_mem 115 (by decide +kernel) rfl
theorem w_116 : (Jvm.Cond.fieldLink "CranePads$Judge" (154 : Nat) "CranePads$Pads" "limit" "[I") ∈ GG := gg_mem 116 (by decide +kernel) rfl
theorem w_117 : (Jvm.Cond.fieldLink "CranePads$Judge" (21 : Nat) "CranePads$Pads" "standing" "Z") ∈ GG := gg_mem 117 (by decide +kernel) rfl
theorem w_118 : (Jvm.Cond.fieldLink "CranePads" (98 : Nat) "CranePads$Pads" "standing" "Z") ∈ GG := gg_mem 118 (by decide +kernel) rfl
theorem w_119 : (Jvm.Cond.fieldLink "CranePads$Pads" (30 : Nat) "CranePads$Pads" "standing" "Z") ∈ GG := gg_mem 119 (by decide +kernel) rfl
theorem w_120 : (Jvm.Cond.fieldLink "CranePads$Pads" (34 : Nat) "CranePads$Pads" "one" "J") ∈ GG := gg_mem 120 (by decide +kernel) rfl
theorem w_121 : (Jvm.Cond.fieldLink "CranePads$Judge" (157 : Nat) "CranePads$Pads" "one" "J") ∈ GG := gg_mem 121 (by decide +kernel) rfl
theorem w_122 : (Jvm.Cond.fieldLink "CranePads$Pads" (38 : Nat) "CranePads$Pads" "oneX" "J") ∈ GG := gg_mem 122 (by decide +kernel) rfl
theorem w_123 : (Jvm.Cond.fieldLink "CranePads$Judge" (160 : Nat) "CranePads$Pads" "oneX" "J") ∈ GG := gg_mem 123 (by decide +kernel) rfl
theorem w_124 : (Jvm.Cond.fieldLink "CranePads$Pads" (41 : Nat) "CranePads$Pads" "oneY" "J") ∈ GG := gg_mem 124 (by decide +kernel) rfl
theorem w_125 : (Jvm.Cond.fieldLink "CranePads$Judge" (163 : Nat) "CranePads$Pads" "oneY" "J") ∈ GG := gg_mem 125 (by decide +kernel) rfl
theorem w_126 : (Jvm.Cond.fieldLink "CranePads$Pads" (44 : Nat) "CranePads$Pads" "xx" "J") ∈ GG := gg_mem 126 (by decide +kernel) rfl
theorem w_127 : (Jvm.Cond.fieldLink "CranePads$Judge" (166 : Nat) "CranePads$Pads" "xx" "J") ∈ GG := gg_mem 127 (by decide +kernel) rfl
theorem w_128 : (Jvm.Cond.fieldLink "CranePads$Pads" (47 : Nat) "CranePads$Pads" "xy" "J") ∈ GG := gg_mem 128 (by decide +kernel) rfl
theorem w_129 : (Jvm.Cond.fieldLink "CranePads$Judge" (169 : Nat) "CranePads$Pads" "xy" "J") ∈ GG := gg_mem 129 (by decide +kernel) rfl
theorem w_130 : (Jvm.Cond.fieldLink "CranePads$Pads" (50 : Nat) "CranePads$Pads" "yy" "J") ∈ GG := gg_mem 130 (by decide +kernel) rfl
theorem w_131 : (Jvm.Cond.fieldLink "CranePads$Judge" (172 : Nat) "CranePads$Pads" "yy" "J") ∈ GG := gg_mem 131 (by decide +kernel) rfl
theorem w_132 : (Jvm.Cond.fieldLink "CranePads$Pads" (53 : Nat) "CranePads$Pads" "determinant" "J") ∈ GG := gg_mem 132 (by decide +kernel) rfl
theorem w_133 : (Jvm.Cond.fieldLink "CranePads$Judge" (175 : Nat) "CranePads$Pads" "determinant" "J") ∈ GG := gg_mem 133 (by decide +kernel) rfl
theorem w_164 : (Jvm.Cond.fieldLink "CranePads$Parts" (9 : Nat) "CranePads$Parts" "mass" "[I") ∈ GG := gg_mem 164 (by decide +kernel) rfl
theorem w_165 : (Jvm.Cond.fieldLink "CranePads" (121 : Nat) "CranePads$Parts" "mass" "[I") ∈ GG := gg_mem 165 (by decide +kernel) rfl
theorem w_166 : (Jvm.Cond.fieldLink "CranePads$Judge" (139 : Nat) "CranePads$Parts" "mass" "[I") ∈ GG := gg_mem 166 (by decide +kernel) rfl
theorem w_167 : (Jvm.Cond.fieldLink "CranePads$Parts" (15 : Nat) "CranePads$Parts" "a" "[I") ∈ GG := gg_mem 167 (by decide +kernel) rfl
theorem w_168 : (Jvm.Cond.fieldLink "CranePads$Judge" (133 : Nat) "CranePads$Parts" "a" "[I") ∈ GG := gg_mem 168 (by decide +kernel) rfl
theorem w_169 : (Jvm.Cond.fieldLink "CranePads$Parts" (18 : Nat) "CranePads$Parts" "b" "[I") ∈ GG := gg_mem 169 (by decide +kernel) rfl
theorem w_170 : (Jvm.Cond.fieldLink "CranePads$Judge" (136 : Nat) "CranePads$Parts" "b" "[I") ∈ GG := gg_mem 170 (by decide +kernel) rfl
theorem w_171 : (Jvm.Cond.fieldLink "CranePads$Parts" (21 : Nat) "CranePads$Parts" "turning" "[Z") ∈ GG := gg_mem 171 (by decide +kernel) rfl
theorem w_172 : (Jvm.Cond.fieldLink "CranePads$Judge" (129 : Nat) "CranePads$Parts" "turning" "[Z") ∈ GG := gg_mem 172 (by decide +kernel) rfl
theorem w_173 : (Jvm.Cond.fieldLink "CranePads$Parts" (25 : Nat) "CranePads$Parts" "size" "I") ∈ GG := gg_mem 173 (by decide +kernel) rfl
theorem w_174 : (Jvm.Cond.fieldLink "CranePads" (108 : Nat) "CranePads$Parts" "size" "I") ∈ GG := gg_mem 174 (by decide +kernel) rfl
theorem w_175 : (Jvm.Cond.fieldLink "CranePads$Judge" (126 : Nat) "CranePads$Parts" "size" "I") ∈ GG := gg_mem 175 (by decide +kernel) rfl
theorem w_176 : (Jvm.Cond.fieldLink "CranePads$Crane" (62 : Nat) "CranePads$Parts" "total" "I") ∈ GG := gg_mem 176 (by decide +kernel) rfl
theorem w_177 : (Jvm.Cond.fieldLink "CranePads$Parts" (33 : Nat) "CranePads$Parts" "total" "I") ∈ GG := gg_mem 177 (by decide +kernel) rfl
theorem w_178 : (Jvm.Cond.fieldLink "CranePads$Parts" (42 : Nat) "CranePads$Parts" "stayA" "I") ∈ GG := gg_mem 178 (by decide +kernel) rfl
theorem w_179 : (Jvm.Cond.fieldLink "CranePads$Judge" (95 : Nat) "CranePads$Parts" "stayA" "I") ∈ GG := gg_mem 179 (by decide +kernel) rfl
theorem w_180 : (Jvm.Cond.fieldLink "CranePads$Parts" (45 : Nat) "CranePads$Parts" "stayB" "I") ∈ GG := gg_mem 180 (by decide +kernel) rfl
theorem w_181 : (Jvm.Cond.fieldLink "CranePads$Judge" (101 : Nat) "CranePads$Parts" "stayB" "I") ∈ GG := gg_mem 181 (by decide +kernel) rfl
theorem w_182 : (Jvm.Cond.fieldLink "CranePads$Parts" (36 : Nat) "CranePads$Parts" "turnA" "I") ∈ GG := gg_mem 182 (by decide +kernel) rfl
theorem w_183 : (Jvm.Cond.fieldLink "CranePads$Judge" (79 : Nat) "CranePads$Parts" "turnA" "I") ∈ GG := gg_mem 183 (by decide +kernel) rfl
theorem w_184 : (Jvm.Cond.fieldLink "CranePads$Parts" (39 : Nat) "CranePads$Parts" "turnB" "I") ∈ GG := gg_mem 184 (by decide +kernel) rfl
theorem w_185 : (Jvm.Cond.fieldLink "CranePads$Judge" (87 : Nat) "CranePads$Parts" "turnB" "I") ∈ GG := gg_mem 185 (by decide +kernel) rfl
theorem w_216 : (Jvm.Cond.static ({ cls := "java/util/Arrays", name := "fill", desc := "([II)V" } : Jvm.MethodName)) ∈ GG := gg_mem 216 (by decide +kernel) rfl
theorem w_217 : (Jvm.Cond.code ({ cls := "java/util/Arrays", name := "fill", desc := "([II)V" } : Jvm.MethodName) prog_21_method_103_code (4 : Nat) (Option.none : Option Jvm.ClassFile.FieldType)) ∈ GG := gg_mem 217 (by decide +kernel) rfl
theorem w_218 : (Jvm.Cond.fieldLink "CranePads$Chart" (9 : Nat) "CranePads$Chart" "said" "[I") ∈ GG := gg_mem 218 (by decide +kernel) rfl
theorem w_219 : (Jvm.Cond.fieldLink "CranePads$Chart" (21 : Nat) "CranePads$Chart" "size" "I") ∈ GG := gg_mem 219 (by decide +kernel) rfl
theorem w_220 : (Jvm.Cond.fieldLink "CranePads" (160 : Nat) "CranePads$Chart" "size" "I") ∈ GG := gg_mem 220 (by decide +kernel) rfl
theorem w_235 : (Jvm.Cond.fieldLink "CranePads$Crane" (12 : Nat) "CranePads$Crane" "pads" "LCranePads$Pads;") ∈ GG := gg_mem 235 (by decide +kernel) rfl
theorem w_236 : (Jvm.Cond.fieldLink "CranePads$Judge" (15 : Nat) "CranePads$Crane" "pads" "LCranePads$Pads;") ∈ GG := gg_mem 236 (by decide +kernel) rfl
theorem w_237 : (Jvm.Cond.fieldLink "CranePads" (88 : Nat) "CranePads$Crane" "pads" "LCranePads$Pads;") ∈ GG := gg_mem 237 (by decide +kernel) rfl
theorem w_238 : (Jvm.Cond.fieldLink "CranePads$Crane" (21 : Nat) "CranePads$Crane" "parts" "LCranePads$Parts;") ∈ GG := gg_mem 238 (by decide +kernel) rfl
theorem w_239 : (Jvm.Cond.fieldLink "CranePads" (104 : Nat) "CranePads$Crane" "parts" "LCranePads$Parts;") ∈ GG := gg_mem 239 (by decide +kernel) rfl
theorem w_240 : (Jvm.Cond.fieldLink "CranePads$Judge" (69 : Nat) "CranePads$Crane" "parts" "LCranePads$Parts;") ∈ GG := gg_mem 240 (by decide +kernel) rfl
theorem w_241 : (Jvm.Cond.fieldLink "CranePads$Crane" (27 : Nat) "CranePads$Crane" "charts" "[LCranePads$Chart;") ∈ GG := gg_mem 241 (by decide +kernel) rfl
theorem w_242 : (Jvm.Cond.fieldLink "CranePads" (153 : Nat) "CranePads$Crane" "charts" "[LCranePads$Chart;") ∈ GG := gg_mem 242 (by decide +kernel) rfl
theorem w_243 : (Jvm.Cond.fieldLink "CranePads$Crane" (41 : Nat) "CranePads$Crane" "dials" "[I") ∈ GG := gg_mem 243 (by decide +kernel) rfl
theorem w_244 : (Jvm.Cond.fieldLink "CranePads$Walk" (50 : Nat) "CranePads$Crane" "dials" "[I") ∈ GG := gg_mem 244 (by decide +kernel) rfl
theorem w_245 : (Jvm.Cond.fieldLink "CranePads$Judge" (65 : Nat) "CranePads$Crane" "dials" "[I") ∈ GG := gg_mem 245 (by decide +kernel) rfl
theorem w_246 : (Jvm.Cond.fieldLink "CranePads" (136 : Nat) "CranePads$Crane" "dials" "[I") ∈ GG := gg_mem 246 (by decide +kernel) rfl
theorem w_247 : (Jvm.Cond.fieldLink "CranePads$Plan" (32 : Nat) "CranePads$Crane" "dials" "[I") ∈ GG := gg_mem 247 (by decide +kernel) rfl
theorem w_263 : (Jvm.Cond.fieldLink "CranePads$Judge" (31 : Nat) "CranePads$Judge" "w" "J") ∈ GG := gg_mem 263 (by decide +kernel) rfl
theorem w_264 : (Jvm.Cond.fieldLink "CranePads" (183 : Nat) "CranePads$Judge" "w" "J") ∈ GG := gg_mem 264 (by decide +kernel) rfl
theorem w_265 : (Jvm.Cond.fieldLink "CranePads$Judge" (98 : Nat) "CranePads$Judge" "mx" "J") ∈ GG := gg_mem 265 (by decide +kernel) rfl
theorem w_266 : (Jvm.Cond.fieldLink "CranePads" (187 : Nat) "CranePads$Judge" "mx" "J") ∈ GG := gg_mem 266 (by decide +kernel) rfl
theorem w_267 : (Jvm.Cond.fieldLink "CranePads$Judge" (104 : Nat) "CranePads$Judge" "my" "J") ∈ GG := gg_mem 267 (by decide +kernel) rfl
theorem w_268 : (Jvm.Cond.fieldLink "CranePads" (190 : Nat) "CranePads$Judge" "my" "J") ∈ GG := gg_mem 268 (by decide +kernel) rfl
theorem w_269 : (Jvm.Cond.fieldLink "CranePads$Judge" (9 : Nat) "CranePads$Judge" "share" "[J") ∈ GG := gg_mem 269 (by decide +kernel) rfl
theorem w_270 : (Jvm.Cond.fieldLink "CranePads" (220 : Nat) "CranePads$Judge" "share" "[J") ∈ GG := gg_mem 270 (by decide +kernel) rfl
theorem w_271 : (Jvm.Cond.fieldLink "CranePads$Judge" (117 : Nat) "CranePads$Judge" "below" "J") ∈ GG := gg_mem 271 (by decide +kernel) rfl
theorem w_272 : (Jvm.Cond.fieldLink "CranePads" (224 : Nat) "CranePads$Judge" "below" "J") ∈ GG := gg_mem 272 (by decide +kernel) rfl
theorem w_273 : (Jvm.Cond.fieldLink "CranePads$Judge" (47 : Nat) "CranePads$Judge" "inTheAir" "I") ∈ GG := gg_mem 273 (by decide +kernel) rfl
theorem w_274 : (Jvm.Cond.fieldLink "CranePads" (227 : Nat) "CranePads$Judge" "inTheAir" "I") ∈ GG := gg_mem 274 (by decide +kernel) rfl
theorem w_275 : (Jvm.Cond.fieldLink "CranePads$Judge" (120 : Nat) "CranePads$Judge" "holding" "J") ∈ GG := gg_mem 275 (by decide +kernel) rfl
theorem w_276 : (Jvm.Cond.fieldLink "CranePads" (213 : Nat) "CranePads$Judge" "holding" "J") ∈ GG := gg_mem 276 (by decide +kernel) rfl
theorem w_277 : (Jvm.Cond.fieldLink "CranePads$Judge" (123 : Nat) "CranePads$Judge" "tipping" "J") ∈ GG := gg_mem 277 (by decide +kernel) rfl
theorem w_278 : (Jvm.Cond.fieldLink "CranePads" (210 : Nat) "CranePads$Judge" "tipping" "J") ∈ GG := gg_mem 278 (by decide +kernel) rfl
theorem w_303 : (Jvm.Cond.fieldLink "CranePads$Route" (9 : Nat) "CranePads$Route" "lawful" "[I") ∈ GG := gg_mem 303 (by decide +kernel) rfl
theorem w_304 : (Jvm.Cond.fieldLink "CranePads" (241 : Nat) "CranePads$Route" "lawful" "[I") ∈ GG := gg_mem 304 (by decide +kernel) rfl
theorem w_305 : (Jvm.Cond.fieldLink "CranePads$Route" (15 : Nat) "CranePads$Route" "reached" "[I") ∈ GG := gg_mem 305 (by decide +kernel) rfl
theorem w_306 : (Jvm.Cond.fieldLink "CranePads$Route" (18 : Nat) "CranePads$Route" "grown" "[I") ∈ GG := gg_mem 306 (by decide +kernel) rfl
theorem w_320 : (Jvm.Cond.fieldLink "CranePads$Tape" (9 : Nat) "CranePads$Tape" "bytes" "[B") ∈ GG := gg_mem 320 (by decide +kernel) rfl
theorem w_321 : (Jvm.Cond.fieldLink "CranePads$Tape" (15 : Nat) "CranePads$Tape" "size" "I") ∈ GG := gg_mem 321 (by decide +kernel) rfl
theorem w_322 : (Jvm.Cond.fieldLink "CranePads" (250 : Nat) "CranePads$Tape" "size" "I") ∈ GG := gg_mem 322 (by decide +kernel) rfl
theorem w_323 : (Jvm.Cond.fieldLink "CranePads$Tape" (22 : Nat) "CranePads$Tape" "at" "I") ∈ GG := gg_mem 323 (by decide +kernel) rfl
theorem w_338 : (Jvm.Cond.fieldLink "CranePads$Plan" (9 : Nat) "CranePads$Plan" "dial" "[I") ∈ GG := gg_mem 338 (by decide +kernel) rfl
theorem w_339 : (Jvm.Cond.fieldLink "CranePads$Walk" (39 : Nat) "CranePads$Plan" "dial" "[I") ∈ GG := gg_mem 339 (by decide +kernel) rfl
theorem w_340 : (Jvm.Cond.fieldLink "CranePads$Plan" (15 : Nat) "CranePads$Plan" "goal" "[I") ∈ GG := gg_mem 340 (by decide +kernel) rfl
theorem w_341 : (Jvm.Cond.fieldLink "CranePads$Walk" (43 : Nat) "CranePads$Plan" "goal" "[I") ∈ GG := gg_mem 341 (by decide +kernel) rfl
theorem w_342 : (Jvm.Cond.fieldLink "CranePads$Plan" (18 : Nat) "CranePads$Plan" "size" "I") ∈ GG := gg_mem 342 (by decide +kernel) rfl
theorem w_343 : (Jvm.Cond.fieldLink "CranePads$Walk" (34 : Nat) "CranePads$Plan" "size" "I") ∈ GG := gg_mem 343 (by decide +kernel) rfl
theorem w_344 : (Jvm.Cond.fieldLink "CranePads$Tape" (19 : Nat) "CranePads$Plan" "size" "I") ∈ GG := gg_mem 344 (by decide +kernel) rfl
theorem w_345 : (Jvm.Cond.fieldLink "CranePads" (260 : Nat) "CranePads$Plan" "size" "I") ∈ GG := gg_mem 345 (by decide +kernel) rfl
theorem w_359 : (Jvm.Cond.fieldLink "CranePads$Walk" (9 : Nat) "CranePads$Walk" "moments" "I") ∈ GG := gg_mem 359 (by decide +kernel) rfl
theorem w_360 : (Jvm.Cond.fieldLink "CranePads" (265 : Nat) "CranePads$Walk" "moments" "I") ∈ GG := gg_mem 360 (by decide +kernel) rfl
theorem w_361 : (Jvm.Cond.fieldLink "CranePads$Walk" (15 : Nat) "CranePads$Walk" "firstUnlawful" "I") ∈ GG := gg_mem 361 (by decide +kernel) rfl
theorem w_362 : (Jvm.Cond.fieldLink "CranePads" (268 : Nat) "CranePads$Walk" "firstUnlawful" "I") ∈ GG := gg_mem 362 (by decide +kernel) rfl
theorem w_363 : (Jvm.Cond.fieldLink "CranePads$Walk" (18 : Nat) "CranePads$Walk" "unlawfulStep" "I") ∈ GG := gg_mem 363 (by decide +kernel) rfl
theorem w_364 : (Jvm.Cond.fieldLink "CranePads" (271 : Nat) "CranePads$Walk" "unlawfulStep" "I") ∈ GG := gg_mem 364 (by decide +kernel) rfl
theorem w_365 : (Jvm.Cond.fieldLink "CranePads$Walk" (21 : Nat) "CranePads$Walk" "reason" "I") ∈ GG := gg_mem 365 (by decide +kernel) rfl
theorem w_366 : (Jvm.Cond.fieldLink "CranePads" (274 : Nat) "CranePads$Walk" "reason" "I") ∈ GG := gg_mem 366 (by decide +kernel) rfl
theorem w_367 : (Jvm.Cond.fieldLink "CranePads$Walk" (27 : Nat) "CranePads$Walk" "leastSpare" "I") ∈ GG := gg_mem 367 (by decide +kernel) rfl
theorem w_368 : (Jvm.Cond.fieldLink "CranePads" (277 : Nat) "CranePads$Walk" "leastSpare" "I") ∈ GG := gg_mem 368 (by decide +kernel) rfl
theorem w_386 : (Jvm.Cond.fieldLink "CranePads$Book" (9 : Nat) "CranePads$Book" "load" "[I") ∈ GG := gg_mem 386 (by decide +kernel) rfl
theorem w_387 : (Jvm.Cond.fieldLink "CranePads" (314 : Nat) "CranePads$Book" "load" "[I") ∈ GG := gg_mem 387 (by decide +kernel) rfl
theorem w_388 : (Jvm.Cond.fieldLink "CranePads$Book" (15 : Nat) "CranePads$Book" "direction" "[I") ∈ GG := gg_mem 388 (by decide +kernel) rfl
theorem w_389 : (Jvm.Cond.fieldLink "CranePads" (317 : Nat) "CranePads$Book" "direction" "[I") ∈ GG := gg_mem 389 (by decide +kernel) rfl
theorem w_390 : (Jvm.Cond.fieldLink "CranePads$Book" (18 : Nat) "CranePads$Book" "reach" "[I") ∈ GG := gg_mem 390 (by decide +kernel) rfl
theorem w_391 : (Jvm.Cond.fieldLink "CranePads" (320 : Nat) "CranePads$Book" "reach" "[I") ∈ GG := gg_mem 391 (by decide +kernel) rfl
theorem w_392 : (Jvm.Cond.fieldLink "CranePads$Book" (21 : Nat) "CranePads$Book" "size" "I") ∈ GG := gg_mem 392 (by decide +kernel) rfl
theorem w_393 : (Jvm.Cond.fieldLink "CranePads" (313 : Nat) "CranePads$Book" "size" "I") ∈ GG := gg_mem 393 (by decide +kernel) rfl
theorem w_411 : (Jvm.Cond.fieldLink "CranePads$Rows" (11 : Nat) "CranePads$Rows" "row" "[[J") ∈ GG := gg_mem 411 (by decide +kernel) rfl
theorem w_412 : (Jvm.Cond.fieldLink "CranePads" (297 : Nat) "CranePads$Rows" "row" "[[J") ∈ GG := gg_mem 412 (by decide +kernel) rfl
theorem w_413 : (Jvm.Cond.fieldLink "CranePads$Rows" (16 : Nat) "CranePads$Rows" "length" "[I") ∈ GG := gg_mem 413 (by decide +kernel) rfl
theorem w_414 : (Jvm.Cond.fieldLink "CranePads" (294 : Nat) "CranePads$Rows" "length" "[I") ∈ GG := gg_mem 414 (by decide +kernel) rfl
theorem w_420 : (Jvm.Cond.fieldLink "CranePads" (12 : Nat) "CranePads" "now" "LCranePads$Crane;") ∈ GG := gg_mem 420 (by decide +kernel) rfl
theorem w_421 : (Jvm.Cond.fieldLink "CranePads" (18 : Nat) "CranePads" "kept" "LCranePads$Crane;") ∈ GG := gg_mem 421 (by decide +kernel) rfl
theorem w_422 : (Jvm.Cond.fieldLink "CranePads" (21 : Nat) "CranePads" "draft" "LCranePads$Crane;") ∈ GG := gg_mem 422 (by decide +kernel) rfl
theorem w_423 : (Jvm.Cond.fieldLink "CranePads" (27 : Nat) "CranePads" "judge" "LCranePads$Judge;") ∈ GG := gg_mem 423 (by decide +kernel) rfl
theorem w_424 : (Jvm.Cond.fieldLink "CranePads" (34 : Nat) "CranePads" "route" "LCranePads$Route;") ∈ GG := gg_mem 424 (by decide +kernel) rfl
theorem w_425 : (Jvm.Cond.fieldLink "CranePads" (41 : Nat) "CranePads" "tape" "LCranePads$Tape;") ∈ GG := gg_mem 425 (by decide +kernel) rfl
theorem w_426 : (Jvm.Cond.fieldLink "CranePads" (48 : Nat) "CranePads" "thePlan" "LCranePads$Plan;") ∈ GG := gg_mem 426 (by decide +kernel) rfl
theorem w_427 : (Jvm.Cond.fieldLink "CranePads" (52 : Nat) "CranePads" "otherPlan" "LCranePads$Plan;") ∈ GG := gg_mem 427 (by decide +kernel) rfl
theorem w_428 : (Jvm.Cond.fieldLink "CranePads" (58 : Nat) "CranePads" "walk" "LCranePads$Walk;") ∈ GG := gg_mem 428 (by decide +kernel) rfl
theorem w_429 : (Jvm.Cond.fieldLink "CranePads" (65 : Nat) "CranePads" "lifts" "LCranePads$Book;") ∈ GG := gg_mem 429 (by decide +kernel) rfl
theorem w_430 : (Jvm.Cond.fieldLink "CranePads" (72 : Nat) "CranePads" "rows" "LCranePads$Rows;") ∈ GG := gg_mem 430 (by decide +kernel) rfl
theorem w_431 : (Jvm.Cond.fieldLink "CranePads" (76 : Nat) "CranePads" "imageTaken" "Z") ∈ GG := gg_mem 431 (by decide +kernel) rfl
theorem w_461 : (Jvm.Cond.methodLink "CranePads" (80 : Nat) ({ cls := "CranePads", name := "isPad", desc := "(I)Z" } : Jvm.MethodName)) ∈ GG := gg_mem 461 (by decide +kernel) rfl
theorem w_462 : (Jvm.Cond.static ({ cls := "CranePads", name := "isPad", desc := "(I)Z" } : Jvm.MethodName)) ∈ GG := gg_mem 462 (by decide +kernel) rfl
theorem w_463 : (Jvm.Cond.code ({ cls := "CranePads", name := "isPad", desc := "(I)Z" } : Jvm.MethodName) prog_1_method_44_code (1 : Nat) (Option.some Jvm.ClassFile.FieldType.boolean)) ∈ GG := gg_mem 463 (by decide +kernel) rfl
theorem w_464 : (Jvm.Cond.methodLink "CranePads" (84 : Nat) ({ cls := "CranePads", name := "within", desc := "(III)Z" } : Jvm.MethodName)) ∈ GG := gg_mem 464 (by decide +kernel) rfl
theorem w_465 : (Jvm.Cond.static ({ cls := "CranePads", name := "within", desc := "(III)Z" } : Jvm.MethodName)) ∈ GG := gg_mem 465 (by decide +kernel) rfl
theorem w_466 : (Jvm.Cond.code ({ cls := "CranePads", name := "within", desc := "(III)Z" } : Jvm.MethodName) prog_1_method_43_code (3 : Nat) (Option.some Jvm.ClassFile.FieldType.boolean)) ∈ GG := gg_mem 466 (by decide +kernel) rfl
theorem w_467 : (Jvm.Cond.methodLink "CranePads" (92 : Nat) ({ cls := "CranePads$Pads", name := "place", desc := "(IIII)V" } : Jvm.MethodName)) ∈ GG := gg_mem 467 (by decide +kernel) rfl
theorem w_468 : (Jvm.Cond.instanceMethod ({ cls := "CranePads$Pads", name := "place", desc := "(IIII)V" } : Jvm.MethodName)) ∈ GG := gg_mem 468 (by decide +kernel) rfl
theorem w_469 : (Jvm.Cond.selects "CranePads$Pads" ({ cls := "CranePads$Pads", name := "place", desc := "(IIII)V" } : Jvm.MethodName) ({ cls := "CranePads$Pads", name := "place", desc := "(IIII)V" } : Jvm.MethodName)) ∈ GG := gg_mem 469 (by decide +kernel) rfl
theorem w_470 : (Jvm.Cond.code ({ cls := "CranePads$Pads", name := "place", desc := "(IIII)V" } : Jvm.MethodName) prog_6_method_2_code (5 : Nat) (Option.none : Option Jvm.ClassFile.FieldType)) ∈ GG := gg_mem 470 (by decide +kernel) rfl
theorem w_475 : (Jvm.Cond.methodLink "CranePads" (101 : Nat) ({ cls := "CranePads", name := "isMass", desc := "(I)Z" } : Jvm.MethodName)) ∈ GG := gg_mem 475 (by decide +kernel) rfl
theorem w_476 : (Jvm.Cond.static ({ cls := "CranePads", name := "isMass", desc := "(I)Z" } : Jvm.MethodName)) ∈ GG := gg_mem 476 (by decide +kernel) rfl
theorem w_477 : (Jvm.Cond.code ({ cls := "CranePads", name := "isMass", desc := "(I)Z" } : Jvm.MethodName) prog_1_method_47_code (1 : Nat) (Option.some Jvm.ClassFile.FieldType.boolean)) ∈ GG := gg_mem 477 (by decide +kernel) rfl
theorem w_478 : (Jvm.Cond.methodLink "CranePads" (114 : Nat) ({ cls := "CranePads$Parts", name := "append", desc := "(IIIZ)I" } : Jvm.MethodName)) ∈ GG := gg_mem 478 (by decide +kernel) rfl
theorem w_479 : (Jvm.Cond.instanceMethod ({ cls := "CranePads$Parts", name := "append", desc := "(IIIZ)I" } : Jvm.MethodName)) ∈ GG := gg_mem 479 (by decide +kernel) rfl
theorem w_480 : (Jvm.Cond.selects "CranePads$Parts" ({ cls := "CranePads$Parts", name := "append", desc := "(IIIZ)I" } : Jvm.MethodName) ({ cls := "CranePads$Parts", name := "append", desc := "(IIIZ)I" } : Jvm.MethodName)) ∈ GG := gg_mem 480 (by decide +kernel) rfl
theorem w_481 : (Jvm.Cond.code ({ cls := "CranePads$Parts", name := "append", desc := "(IIIZ)I" } : Jvm.MethodName) prog_7_method_3_code (6 : Nat) (Option.some Jvm.ClassFile.FieldType.int)) ∈ GG := gg_mem 481 (by decide +kernel) rfl
theorem w_482 : (Jvm.Cond.methodLink "CranePads$Parts" (29 : Nat) ({ cls := "CranePads$Parts", name := "reweigh", desc := "(II)V" } : Jvm.MethodName)) ∈ GG := gg_mem 482 (by decide +kernel) rfl
theorem w_483 : (Jvm.Cond.instanceMethod ({ cls := "CranePads$Parts", name := "reweigh", desc := "(II)V" } : Jvm.MethodName)) ∈ GG := gg_mem 483 (by decide +kernel) rfl
theorem w_484 : (Jvm.Cond.selects "CranePads$Parts" ({ cls := "CranePads$Parts", name := "reweigh", desc := "(II)V" } : Jvm.MethodName) ({ cls := "CranePads$Parts", name := "reweigh", desc := "(II)V" } : Jvm.MethodName)) ∈ GG := gg_mem 484 (by decide +kernel) rfl
theorem w_485 : (Jvm.Cond.code ({ cls := "CranePads$Parts", name := "reweigh", desc := "(II)V" } : Jvm.MethodName) prog_7_method_4_code (4 : Nat) (Option.none : Option Jvm.ClassFile.FieldType)) ∈ GG := gg_mem 485 (by decide +kernel) rfl
theorem w_490 : (Jvm.Cond.methodLink "CranePads" (118 : Nat) ({ cls := "CranePads$Parts", name := "has", desc := "(I)Z" } : Jvm.MethodName)) ∈ GG := gg_mem 490 (by decide +kernel) rfl
theorem w_491 : (Jvm.Cond.instanceMethod ({ cls := "CranePads$Parts", name := "has", desc := "(I)Z" } : Jvm.MethodName)) ∈ GG := gg_mem 491 (by decide +kernel) rfl
theorem w_492 : (Jvm.Cond.selects "CranePads$Parts" ({ cls := "CranePads$Parts", name := "has", desc := "(I)Z" } : Jvm.MethodName) ({ cls := "CranePads$Parts", name := "has", desc := "(I)Z" } : Jvm.MethodName)) ∈ GG := gg_mem 492 (by decide +kernel) rfl
theorem w_493 : (Jvm.Cond.code ({ cls := "CranePads$Parts", name := "has", desc := "(I)Z" } : Jvm.MethodName) prog_7_method_2_code (2 : Nat) (Option.some Jvm.ClassFile.FieldType.boolean)) ∈ GG := gg_mem 493 (by decide +kernel) rfl
theorem w_494 : (Jvm.Cond.methodLink "CranePads" (125 : Nat) ({ cls := "CranePads$Parts", name := "reweigh", desc := "(II)V" } : Jvm.MethodName)) ∈ GG := gg_mem 494 (by decide +kernel) rfl
theorem w_499 : (Jvm.Cond.methodLink "CranePads" (129 : Nat) ({ cls := "CranePads", name := "isDial", desc := "(I)Z" } : Jvm.MethodName)) ∈ GG := gg_mem 499 (by decide +kernel) rfl
theorem w_500 : (Jvm.Cond.static ({ cls := "CranePads", name := "isDial", desc := "(I)Z" } : Jvm.MethodName)) ∈ GG := gg_mem 500 (by decide +kernel) rfl
theorem w_501 : (Jvm.Cond.code ({ cls := "CranePads", name := "isDial", desc := "(I)Z" } : Jvm.MethodName) prog_1_method_48_code (1 : Nat) (Option.some Jvm.ClassFile.FieldType.boolean)) ∈ GG := gg_mem 501 (by decide +kernel) rfl
theorem w_502 : (Jvm.Cond.methodLink "CranePads" (132 : Nat) ({ cls := "CranePads", name := "fitsDial", desc := "(II)Z" } : Jvm.MethodName)) ∈ GG := gg_mem 502 (by decide +kernel) rfl
theorem w_503 : (Jvm.Cond.static ({ cls := "CranePads", name := "fitsDial", desc := "(II)Z" } : Jvm.MethodName)) ∈ GG := gg_mem 503 (by decide +kernel) rfl
theorem w_504 : (Jvm.Cond.code ({ cls := "CranePads", name := "fitsDial", desc := "(II)Z" } : Jvm.MethodName) prog_1_method_49_code (2 : Nat) (Option.some Jvm.ClassFile.FieldType.boolean)) ∈ GG := gg_mem 504 (by decide +kernel) rfl
theorem w_505 : (Jvm.Cond.fieldLink "CranePads" (333 : Nat) "CranePads" "LEAST_OF_DIAL" "[I") ∈ GG := gg_mem 505 (by decide +kernel) rfl
theorem w_507 : (Jvm.Cond.fieldLink "CranePads" (336 : Nat) "CranePads" "MOST_OF_DIAL" "[I") ∈ GG := gg_mem 507 (by decide +kernel) rfl
theorem w_517 : (Jvm.Cond.constantLong "CranePads" (139 : Nat) (-9223372036854775808 : Int64)) ∈ GG := gg_mem 517 (by decide +kernel) rfl
theorem w_522 : (Jvm.Cond.methodLink "CranePads" (150 : Nat) ({ cls := "CranePads", name := "isChart", desc := "(I)Z" } : Jvm.MethodName)) ∈ GG := gg_mem 522 (by decide +kernel) rfl
theorem w_523 : (Jvm.Cond.static ({ cls := "CranePads", name := "isChart", desc := "(I)Z" } : Jvm.MethodName)) ∈ GG := gg_mem 523 (by decide +kernel) rfl
theorem w_524 : (Jvm.Cond.code ({ cls := "CranePads", name := "isChart", desc := "(I)Z" } : Jvm.MethodName) prog_1_method_45_code (1 : Nat) (Option.some Jvm.ClassFile.FieldType.boolean)) ∈ GG := gg_mem 524 (by decide +kernel) rfl
theorem w_525 : (Jvm.Cond.methodLink "CranePads" (157 : Nat) ({ cls := "CranePads$Chart", name := "has", desc := "(I)Z" } : Jvm.MethodName)) ∈ GG := gg_mem 525 (by decide +kernel) rfl
theorem w_526 : (Jvm.Cond.instanceMethod ({ cls := "CranePads$Chart", name := "has", desc := "(I)Z" } : Jvm.MethodName)) ∈ GG := gg_mem 526 (by decide +kernel) rfl
theorem w_527 : (Jvm.Cond.selects "CranePads$Chart" ({ cls := "CranePads$Chart", name := "has", desc := "(I)Z" } : Jvm.MethodName) ({ cls := "CranePads$Chart", name := "has", desc := "(I)Z" } : Jvm.MethodName)) ∈ GG := gg_mem 527 (by decide +kernel) rfl
theorem w_528 : (Jvm.Cond.code ({ cls := "CranePads$Chart", name := "has", desc := "(I)Z" } : Jvm.MethodName) prog_3_method_2_code (2 : Nat) (Option.some Jvm.ClassFile.FieldType.boolean)) ∈ GG := gg_mem 528 (by decide +kernel) rfl
theorem w_529 : (Jvm.Cond.methodLink "CranePads" (161 : Nat) ({ cls := "CranePads$Chart", name := "write", desc := "(II)V" } : Jvm.MethodName)) ∈ GG := gg_mem 529 (by decide +kernel) rfl
theorem w_530 : (Jvm.Cond.instanceMethod ({ cls := "CranePads$Chart", name := "write", desc := "(II)V" } : Jvm.MethodName)) ∈ GG := gg_mem 530 (by decide +kernel) rfl
theorem w_531 : (Jvm.Cond.selects "CranePads$Chart" ({ cls := "CranePads$Chart", name := "write", desc := "(II)V" } : Jvm.MethodName) ({ cls := "CranePads$Chart", name := "write", desc := "(II)V" } : Jvm.MethodName)) ∈ GG := gg_mem 531 (by decide +kernel) rfl
theorem w_532 : (Jvm.Cond.code ({ cls := "CranePads$Chart", name := "write", desc := "(II)V" } : Jvm.MethodName) prog_3_method_3_code (3 : Nat) (Option.none : Option Jvm.ClassFile.FieldType)) ∈ GG := gg_mem 532 (by decide +kernel) rfl
theorem w_533 : (Jvm.Cond.methodLink "CranePads$Chart" (25 : Nat) ({ cls := "CranePads$Chart", name := "has", desc := "(I)Z" } : Jvm.MethodName)) ∈ GG := gg_mem 533 (by decide +kernel) rfl
theorem w_538 : (Jvm.Cond.methodLink "CranePads" (164 : Nat) ({ cls := "CranePads$Chart", name := "at", desc := "(I)I" } : Jvm.MethodName)) ∈ GG := gg_mem 538 (by decide +kernel) rfl
theorem w_539 : (Jvm.Cond.instanceMethod ({ cls := "CranePads$Chart", name := "at", desc := "(I)I" } : Jvm.MethodName)) ∈ GG := gg_mem 539 (by decide +kernel) rfl
theorem w_540 : (Jvm.Cond.selects "CranePads$Chart" ({ cls := "CranePads$Chart", name := "at", desc := "(I)I" } : Jvm.MethodName) ({ cls := "CranePads$Chart", name := "at", desc := "(I)I" } : Jvm.MethodName)) ∈ GG := gg_mem 540 (by decide +kernel) rfl
theorem w_541 : (Jvm.Cond.code ({ cls := "CranePads$Chart", name := "at", desc := "(I)I" } : Jvm.MethodName) prog_3_method_4_code (4 : Nat) (Option.some Jvm.ClassFile.FieldType.int)) ∈ GG := gg_mem 541 (by decide +kernel) rfl
theorem w_546 : (Jvm.Cond.methodLink "CranePads" (168 : Nat) ({ cls := "CranePads$Crane", name := "mayHang", desc := "(II)I" } : Jvm.MethodName)) ∈ GG := gg_mem 546 (by decide +kernel) rfl
theorem w_547 : (Jvm.Cond.instanceMethod ({ cls := "CranePads$Crane", name := "mayHang", desc := "(II)I" } : Jvm.MethodName)) ∈ GG := gg_mem 547 (by decide +kernel) rfl
theorem w_548 : (Jvm.Cond.selects "CranePads$Crane" ({ cls := "CranePads$Crane", name := "mayHang", desc := "(II)I" } : Jvm.MethodName) ({ cls := "CranePads$Crane", name := "mayHang", desc := "(II)I" } : Jvm.MethodName)) ∈ GG := gg_mem 548 (by decide +kernel) rfl
theorem w_549 : (Jvm.Cond.code ({ cls := "CranePads$Crane", name := "mayHang", desc := "(II)I" } : Jvm.MethodName) prog_4_method_5_code (5 : Nat) (Option.some Jvm.ClassFile.FieldType.int)) ∈ GG := gg_mem 549 (by decide +kernel) rfl
theorem w_550 : (Jvm.Cond.methodLink "CranePads$Crane" (70 : Nat) ({ cls := "CranePads$Chart", name := "at", desc := "(I)I" } : Jvm.MethodName)) ∈ GG := gg_mem 550 (by decide +kernel) rfl
theorem w_551 : (Jvm.Cond.methodLink "CranePads$Crane" (74 : Nat) ({ cls := "java/lang/Math", name := "max", desc := "(II)I" } : Jvm.MethodName)) ∈ GG := gg_mem 551 (by decide +kernel) rfl
theorem w_552 : (Jvm.Cond.static ({ cls := "java/lang/Math", name := "max", desc := "(II)I" } : Jvm.MethodName)) ∈ GG := gg_mem 552 (by decide +kernel) rfl
theorem w_553 : (Jvm.Cond.code ({ cls := "java/lang/Math", name := "max", desc := "(II)I" } : Jvm.MethodName) prog_16_method_65_code (2 : Nat) (Option.some Jvm.ClassFile.FieldType.int)) ∈ GG := gg_mem 553 (by decide +kernel) rfl
theorem w_558 : (Jvm.Cond.methodLink "CranePads" (172 : Nat) ({ cls := "CranePads$Crane", name := "wholeMass", desc := "()I" } : Jvm.MethodName)) ∈ GG := gg_mem 558 (by decide +kernel) rfl
theorem w_559 : (Jvm.Cond.instanceMethod ({ cls := "CranePads$Crane", name := "wholeMass", desc := "()I" } : Jvm.MethodName)) ∈ GG := gg_mem 559 (by decide +kernel) rfl
theorem w_560 : (Jvm.Cond.selects "CranePads$Crane" ({ cls := "CranePads$Crane", name := "wholeMass", desc := "()I" } : Jvm.MethodName) ({ cls := "CranePads$Crane", name := "wholeMass", desc := "()I" } : Jvm.MethodName)) ∈ GG := gg_mem 560 (by decide +kernel) rfl
theorem w_561 : (Jvm.Cond.code ({ cls := "CranePads$Crane", name := "wholeMass", desc := "()I" } : Jvm.MethodName) prog_4_method_4_code (1 : Nat) (Option.some Jvm.ClassFile.FieldType.int)) ∈ GG := gg_mem 561 (by decide +kernel) rfl
theorem w_562 : (Jvm.Cond.methodLink "CranePads$Crane" (66 : Nat) ({ cls := "CranePads$Crane", name := "hanging", desc := "()I" } : Jvm.MethodName)) ∈ GG := gg_mem 562 (by decide +kernel) rfl
theorem w_563 : (Jvm.Cond.instanceMethod ({ cls := "CranePads$Crane", name := "hanging", desc := "()I" } : Jvm.MethodName)) ∈ GG := gg_mem 563 (by decide +kernel) rfl
theorem w_564 : (Jvm.Cond.selects "CranePads$Crane" ({ cls := "CranePads$Crane", name := "hanging", desc := "()I" } : Jvm.MethodName) ({ cls := "CranePads$Crane", name := "hanging", desc := "()I" } : Jvm.MethodName)) ∈ GG := gg_mem 564 (by decide +kernel) rfl
theorem w_565 : (Jvm.Cond.code ({ cls := "CranePads$Crane", name := "hanging", desc := "()I" } : Jvm.MethodName) prog_4_method_3_code (1 : Nat) (Option.some Jvm.ClassFile.FieldType.int)) ∈ GG := gg_mem 565 (by decide +kernel) rfl
theorem w_570 : (Jvm.Cond.methodLink "CranePads" (176 : Nat) ({ cls := "CranePads$Judge", name := "gather", desc := "(LCranePads$Crane;)V" } : Jvm.MethodName)) ∈ GG := gg_mem 570 (by decide +kernel) rfl
theorem w_571 : (Jvm.Cond.instanceMethod ({ cls := "CranePads$Judge", name := "gather", desc := "(LCranePads$Crane;)V" } : Jvm.MethodName)) ∈ GG := gg_mem 571 (by decide +kernel) rfl
theorem w_572 : (Jvm.Cond.selects "CranePads$Judge" ({ cls := "CranePads$Judge", name := "gather", desc := "(LCranePads$Crane;)V" } : Jvm.MethodName) ({ cls := "CranePads$Judge", name := "gather", desc := "(LCranePads$Crane;)V" } : Jvm.MethodName)) ∈ GG := gg_mem 572 (by decide +kernel) rfl
theorem w_573 : (Jvm.Cond.code ({ cls := "CranePads$Judge", name := "gather", desc := "(LCranePads$Crane;)V" } : Jvm.MethodName) prog_5_method_5_code (11 : Nat) (Option.none : Option Jvm.ClassFile.FieldType)) ∈ GG := gg_mem 573 (by decide +kernel) rfl
theorem w_578 : (Jvm.Cond.methodLink "CranePads$Judge" (84 : Nat) ({ cls := "CranePads$Crane", name := "hanging", desc := "()I" } : Jvm.MethodName)) ∈ GG := gg_mem 578 (by decide +kernel) rfl
theorem w_579 : (Jvm.Cond.constantLong "CranePads$Judge" (90 : Nat) (65 : Int64)) ∈ GG := gg_mem 579 (by decide +kernel) rfl
theorem w_580 : (Jvm.Cond.methodLink "CranePads$Judge" (92 : Nat) ({ cls := "CranePads$Crane", name := "wholeMass", desc := "()I" } : Jvm.MethodName)) ∈ GG := gg_mem 580 (by decide +kernel) rfl
theorem w_581 : (Jvm.Cond.methodLink "CranePads" (180 : Nat) ({ cls := "CranePads", name := "isSide", desc := "(I)Z" } : Jvm.MethodName)) ∈ GG := gg_mem 581 (by decide +kernel) rfl
theorem w_582 : (Jvm.Cond.static ({ cls := "CranePads", name := "isSide", desc := "(I)Z" } : Jvm.MethodName)) ∈ GG := gg_mem 582 (by decide +kernel) rfl
theorem w_583 : (Jvm.Cond.code ({ cls := "CranePads", name := "isSide", desc := "(I)Z" } : Jvm.MethodName) prog_1_method_50_code (1 : Nat) (Option.some Jvm.ClassFile.FieldType.boolean)) ∈ GG := gg_mem 583 (by decide +kernel) rfl
theorem w_584 : (Jvm.Cond.methodLink "CranePads" (193 : Nat) ({ cls := "CranePads", name := "inLowestTerms", desc := "(JJI)J" } : Jvm.MethodName)) ∈ GG := gg_mem 584 (by decide +kernel) rfl
theorem w_585 : (Jvm.Cond.static ({ cls := "CranePads", name := "inLowestTerms", desc := "(JJI)J" } : Jvm.MethodName)) ∈ GG := gg_mem 585 (by decide +kernel) rfl
theorem w_586 : (Jvm.Cond.code ({ cls := "CranePads", name := "inLowestTerms", desc := "(JJI)J" } : Jvm.MethodName) prog_1_method_52_code (7 : Nat) (Option.some Jvm.ClassFile.FieldType.long)) ∈ GG := gg_mem 586 (by decide +kernel) rfl
theorem w_587 : (Jvm.Cond.methodLink "CranePads" (339 : Nat) ({ cls := "java/lang/Math", name := "abs", desc := "(J)J" } : Jvm.MethodName)) ∈ GG := gg_mem 587 (by decide +kernel) rfl
theorem w_588 : (Jvm.Cond.static ({ cls := "java/lang/Math", name := "abs", desc := "(J)J" } : Jvm.MethodName)) ∈ GG := gg_mem 588 (by decide +kernel) rfl
theorem w_589 : (Jvm.Cond.code ({ cls := "java/lang/Math", name := "abs", desc := "(J)J" } : Jvm.MethodName) prog_16_method_61_code (2 : Nat) (Option.some Jvm.ClassFile.FieldType.long)) ∈ GG := gg_mem 589 (by decide +kernel) rfl
theorem w_590 : (Jvm.Cond.methodLink "CranePads" (345 : Nat) ({ cls := "CranePads", name := "commonDivisor", desc := "(JJ)J" } : Jvm.MethodName)) ∈ GG := gg_mem 590 (by decide +kernel) rfl
theorem w_591 : (Jvm.Cond.static ({ cls := "CranePads", name := "commonDivisor", desc := "(JJ)J" } : Jvm.MethodName)) ∈ GG := gg_mem 591 (by decide +kernel) rfl
theorem w_592 : (Jvm.Cond.code ({ cls := "CranePads", name := "commonDivisor", desc := "(JJ)J" } : Jvm.MethodName) prog_1_method_53_code (11 : Nat) (Option.some Jvm.ClassFile.FieldType.long)) ∈ GG := gg_mem 592 (by decide +kernel) rfl
theorem w_597 : (Jvm.Cond.methodLink "CranePads" (197 : Nat) ({ cls := "CranePads", name := "next", desc := "(I)I" } : Jvm.MethodName)) ∈ GG := gg_mem 597 (by decide +kernel) rfl
theorem w_598 : (Jvm.Cond.methodLink "CranePads" (200 : Nat) ({ cls := "CranePads$Judge", name := "about", desc := "(LCranePads$Pads;II)J" } : Jvm.MethodName)) ∈ GG := gg_mem 598 (by decide +kernel) rfl
theorem w_599 : (Jvm.Cond.instanceMethod ({ cls := "CranePads$Judge", name := "about", desc := "(LCranePads$Pads;II)J" } : Jvm.MethodName)) ∈ GG := gg_mem 599 (by decide +kernel) rfl
theorem w_600 : (Jvm.Cond.selects "CranePads$Judge" ({ cls := "CranePads$Judge", name := "about", desc := "(LCranePads$Pads;II)J" } : Jvm.MethodName) ({ cls := "CranePads$Judge", name := "about", desc := "(LCranePads$Pads;II)J" } : Jvm.MethodName)) ∈ GG := gg_mem 600 (by decide +kernel) rfl
theorem w_601 : (Jvm.Cond.code ({ cls := "CranePads$Judge", name := "about", desc := "(LCranePads$Pads;II)J" } : Jvm.MethodName) prog_5_method_6_code (8 : Nat) (Option.some Jvm.ClassFile.FieldType.long)) ∈ GG := gg_mem 601 (by decide +kernel) rfl
theorem w_602 : (Jvm.Cond.constantLong "CranePads" (204 : Nat) (65 : Int64)) ∈ GG := gg_mem 602 (by decide +kernel) rfl
theorem w_607 : (Jvm.Cond.methodLink "CranePads" (206 : Nat) ({ cls := "CranePads$Judge", name := "splitMoments", desc := "(LCranePads$Crane;I)V" } : Jvm.MethodName)) ∈ GG := gg_mem 607 (by decide +kernel) rfl
theorem w_608 : (Jvm.Cond.instanceMethod ({ cls := "CranePads$Judge", name := "splitMoments", desc := "(LCranePads$Crane;I)V" } : Jvm.MethodName)) ∈ GG := gg_mem 608 (by decide +kernel) rfl
theorem w_609 : (Jvm.Cond.selects "CranePads$Judge" ({ cls := "CranePads$Judge", name := "splitMoments", desc := "(LCranePads$Crane;I)V" } : Jvm.MethodName) ({ cls := "CranePads$Judge", name := "splitMoments", desc := "(LCranePads$Crane;I)V" } : Jvm.MethodName)) ∈ GG := gg_mem 609 (by decide +kernel) rfl
theorem w_610 : (Jvm.Cond.code ({ cls := "CranePads$Judge", name := "splitMoments", desc := "(LCranePads$Crane;I)V" } : Jvm.MethodName) prog_5_method_9_code (14 : Nat) (Option.none : Option Jvm.ClassFile.FieldType)) ∈ GG := gg_mem 610 (by decide +kernel) rfl
theorem w_611 : (Jvm.Cond.methodLink "CranePads$Judge" (142 : Nat) ({ cls := "CranePads$Judge", name := "addMoment", desc := "(LCranePads$Pads;IIJJ)V" } : Jvm.MethodName)) ∈ GG := gg_mem 611 (by decide +kernel) rfl
theorem w_613 : (Jvm.Cond.instanceMethod ({ cls := "CranePads$Judge", name := "addMoment", desc := "(LCranePads$Pads;IIJJ)V" } : Jvm.MethodName)) ∈ GG := gg_mem 613 (by decide +kernel) rfl
theorem w_614 : (Jvm.Cond.code ({ cls := "CranePads$Judge", name := "addMoment", desc := "(LCranePads$Pads;IIJJ)V" } : Jvm.MethodName) prog_5_method_10_code (15 : Nat) (Option.none : Option Jvm.ClassFile.FieldType)) ∈ GG := gg_mem 614 (by decide +kernel) rfl
theorem w_620 : (Jvm.Cond.methodLink "CranePads" (216 : Nat) ({ cls := "CranePads$Judge", name := "finds", desc := "(LCranePads$Crane;)Z" } : Jvm.MethodName)) ∈ GG := gg_mem 620 (by decide +kernel) rfl
theorem w_621 : (Jvm.Cond.instanceMethod ({ cls := "CranePads$Judge", name := "finds", desc := "(LCranePads$Crane;)Z" } : Jvm.MethodName)) ∈ GG := gg_mem 621 (by decide +kernel) rfl
theorem w_622 : (Jvm.Cond.selects "CranePads$Judge" ({ cls := "CranePads$Judge", name := "finds", desc := "(LCranePads$Crane;)Z" } : Jvm.MethodName) ({ cls := "CranePads$Judge", name := "finds", desc := "(LCranePads$Crane;)Z" } : Jvm.MethodName)) ∈ GG := gg_mem 622 (by decide +kernel) rfl
theorem w_623 : (Jvm.Cond.code ({ cls := "CranePads$Judge", name := "finds", desc := "(LCranePads$Crane;)Z" } : Jvm.MethodName) prog_5_method_3_code (3 : Nat) (Option.some Jvm.ClassFile.FieldType.boolean)) ∈ GG := gg_mem 623 (by decide +kernel) rfl
theorem w_624 : (Jvm.Cond.methodLink "CranePads$Judge" (61 : Nat) ({ cls := "CranePads$Judge", name := "verdict", desc := "(LCranePads$Crane;)I" } : Jvm.MethodName)) ∈ GG := gg_mem 624 (by decide +kernel) rfl
theorem w_625 : (Jvm.Cond.instanceMethod ({ cls := "CranePads$Judge", name := "verdict", desc := "(LCranePads$Crane;)I" } : Jvm.MethodName)) ∈ GG := gg_mem 625 (by decide +kernel) rfl
theorem w_626 : (Jvm.Cond.selects "CranePads$Judge" ({ cls := "CranePads$Judge", name := "verdict", desc := "(LCranePads$Crane;)I" } : Jvm.MethodName) ({ cls := "CranePads$Judge", name := "verdict", desc := "(LCranePads$Crane;)I" } : Jvm.MethodName)) ∈ GG := gg_mem 626 (by decide +kernel) rfl
theorem w_627 : (Jvm.Cond.code ({ cls := "CranePads$Judge", name := "verdict", desc := "(LCranePads$Crane;)I" } : Jvm.MethodName) prog_5_method_2_code (2 : Nat) (Option.some Jvm.ClassFile.FieldType.int)) ∈ GG := gg_mem 627 (by decide +kernel) rfl
theorem w_628 : (Jvm.Cond.methodLink "CranePads$Judge" (27 : Nat) ({ cls := "CranePads$Judge", name := "gather", desc := "(LCranePads$Crane;)V" } : Jvm.MethodName)) ∈ GG := gg_mem 628 (by decide +kernel) rfl
theorem w_629 : (Jvm.Cond.methodLink "CranePads$Judge" (35 : Nat) ({ cls := "CranePads$Judge", name := "tipsOver", desc := "(LCranePads$Pads;)Z" } : Jvm.MethodName)) ∈ GG := gg_mem 629 (by decide +kernel) rfl
theorem w_631 : (Jvm.Cond.instanceMethod ({ cls := "CranePads$Judge", name := "tipsOver", desc := "(LCranePads$Pads;)Z" } : Jvm.MethodName)) ∈ GG := gg_mem 631 (by decide +kernel) rfl
theorem w_632 : (Jvm.Cond.code ({ cls := "CranePads$Judge", name := "tipsOver", desc := "(LCranePads$Pads;)Z" } : Jvm.MethodName) prog_5_method_11_code (3 : Nat) (Option.some Jvm.ClassFile.FieldType.boolean)) ∈ GG := gg_mem 632 (by decide +kernel) rfl
theorem w_633 : (Jvm.Cond.methodLink "CranePads$Judge" (150 : Nat) ({ cls := "CranePads$Judge", name := "about", desc := "(LCranePads$Pads;II)J" } : Jvm.MethodName)) ∈ GG := gg_mem 633 (by decide +kernel) rfl
theorem w_634 : (Jvm.Cond.methodLink "CranePads$Judge" (39 : Nat) ({ cls := "CranePads$Judge", name := "shareByPlane", desc := "(LCranePads$Pads;)V" } : Jvm.MethodName)) ∈ GG := gg_mem 634 (by decide +kernel) rfl
theorem w_636 : (Jvm.Cond.instanceMethod ({ cls := "CranePads$Judge", name := "shareByPlane", desc := "(LCranePads$Pads;)V" } : Jvm.MethodName)) ∈ GG := gg_mem 636 (by decide +kernel) rfl
theorem w_637 : (Jvm.Cond.code ({ cls := "CranePads$Judge", name := "shareByPlane", desc := "(LCranePads$Pads;)V" } : Jvm.MethodName) prog_5_method_14_code (9 : Nat) (Option.none : Option Jvm.ClassFile.FieldType)) ∈ GG := gg_mem 637 (by decide +kernel) rfl
theorem w_638 : (Jvm.Cond.methodLink "CranePads$Judge" (43 : Nat) ({ cls := "CranePads$Judge", name := "lowestBelowNothing", desc := "()I" } : Jvm.MethodName)) ∈ GG := gg_mem 638 (by decide +kernel) rfl
theorem w_640 : (Jvm.Cond.instanceMethod ({ cls := "CranePads$Judge", name := "lowestBelowNothing", desc := "()I" } : Jvm.MethodName)) ∈ GG := gg_mem 640 (by decide +kernel) rfl
theorem w_641 : (Jvm.Cond.code ({ cls := "CranePads$Judge", name := "lowestBelowNothing", desc := "()I" } : Jvm.MethodName) prog_5_method_13_code (5 : Nat) (Option.some Jvm.ClassFile.FieldType.int)) ∈ GG := gg_mem 641 (by decide +kernel) rfl
theorem w_642 : (Jvm.Cond.methodLink "CranePads$Judge" (51 : Nat) ({ cls := "CranePads$Judge", name := "shareByThree", desc := "(LCranePads$Pads;I)Z" } : Jvm.MethodName)) ∈ GG := gg_mem 642 (by decide +kernel) rfl
theorem w_644 : (Jvm.Cond.instanceMethod ({ cls := "CranePads$Judge", name := "shareByThree", desc := "(LCranePads$Pads;I)Z" } : Jvm.MethodName)) ∈ GG := gg_mem 644 (by decide +kernel) rfl
theorem w_645 : (Jvm.Cond.code ({ cls := "CranePads$Judge", name := "shareByThree", desc := "(LCranePads$Pads;I)Z" } : Jvm.MethodName) prog_5_method_15_code (6 : Nat) (Option.some Jvm.ClassFile.FieldType.boolean)) ∈ GG := gg_mem 645 (by decide +kernel) rfl
theorem w_646 : (Jvm.Cond.methodLink "CranePads$Judge" (178 : Nat) ({ cls := "CranePads$Pads", name := "span", desc := "(I)J" } : Jvm.MethodName)) ∈ GG := gg_mem 646 (by decide +kernel) rfl
theorem w_647 : (Jvm.Cond.methodLink "CranePads$Judge" (55 : Nat) ({ cls := "CranePads$Judge", name := "isOverLimit", desc := "(LCranePads$Pads;)Z" } : Jvm.MethodName)) ∈ GG := gg_mem 647 (by decide +kernel) rfl
theorem w_649 : (Jvm.Cond.instanceMethod ({ cls := "CranePads$Judge", name := "isOverLimit", desc := "(LCranePads$Pads;)Z" } : Jvm.MethodName)) ∈ GG := gg_mem 649 (by decide +kernel) rfl
theorem w_650 : (Jvm.Cond.code ({ cls := "CranePads$Judge", name := "isOverLimit", desc := "(LCranePads$Pads;)Z" } : Jvm.MethodName) prog_5_method_12_code (3 : Nat) (Option.some Jvm.ClassFile.FieldType.boolean)) ∈ GG := gg_mem 650 (by decide +kernel) rfl
theorem w_651 : (Jvm.Cond.methodLink "CranePads$Judge" (58 : Nat) ({ cls := "CranePads$Crane", name := "room", desc := "()I" } : Jvm.MethodName)) ∈ GG := gg_mem 651 (by decide +kernel) rfl
theorem w_652 : (Jvm.Cond.instanceMethod ({ cls := "CranePads$Crane", name := "room", desc := "()I" } : Jvm.MethodName)) ∈ GG := gg_mem 652 (by decide +kernel) rfl
theorem w_653 : (Jvm.Cond.selects "CranePads$Crane" ({ cls := "CranePads$Crane", name := "room", desc := "()I" } : Jvm.MethodName) ({ cls := "CranePads$Crane", name := "room", desc := "()I" } : Jvm.MethodName)) ∈ GG := gg_mem 653 (by decide +kernel) rfl
theorem w_654 : (Jvm.Cond.code ({ cls := "CranePads$Crane", name := "room", desc := "()I" } : Jvm.MethodName) prog_4_method_6_code (1 : Nat) (Option.some Jvm.ClassFile.FieldType.int)) ∈ GG := gg_mem 654 (by decide +kernel) rfl
theorem w_655 : (Jvm.Cond.methodLink "CranePads$Crane" (80 : Nat) ({ cls := "CranePads$Crane", name := "mayHang", desc := "(II)I" } : Jvm.MethodName)) ∈ GG := gg_mem 655 (by decide +kernel) rfl
theorem w_668 : (Jvm.Cond.methodLink "CranePads" (230 : Nat) ({ cls := "CranePads$Judge", name := "verdict", desc := "(LCranePads$Crane;)I" } : Jvm.MethodName)) ∈ GG := gg_mem 668 (by decide +kernel) rfl
theorem w_673 : (Jvm.Cond.methodLink "CranePads" (234 : Nat) ({ cls := "CranePads$Crane", name := "become", desc := "(LCranePads$Crane;)V" } : Jvm.MethodName)) ∈ GG := gg_mem 673 (by decide +kernel) rfl
theorem w_674 : (Jvm.Cond.instanceMethod ({ cls := "CranePads$Crane", name := "become", desc := "(LCranePads$Crane;)V" } : Jvm.MethodName)) ∈ GG := gg_mem 674 (by decide +kernel) rfl
theorem w_675 : (Jvm.Cond.selects "CranePads$Crane" ({ cls := "CranePads$Crane", name := "become", desc := "(LCranePads$Crane;)V" } : Jvm.MethodName) ({ cls := "CranePads$Crane", name := "become", desc := "(LCranePads$Crane;)V" } : Jvm.MethodName)) ∈ GG := gg_mem 675 (by decide +kernel) rfl
theorem w_676 : (Jvm.Cond.code ({ cls := "CranePads$Crane", name := "become", desc := "(LCranePads$Crane;)V" } : Jvm.MethodName) prog_4_method_2_code (3 : Nat) (Option.none : Option Jvm.ClassFile.FieldType)) ∈ GG := gg_mem 676 (by decide +kernel) rfl
theorem w_677 : (Jvm.Cond.methodLink "CranePads$Crane" (44 : Nat) ({ cls := "CranePads$Pads", name := "placeAs", desc := "(LCranePads$Pads;)V" } : Jvm.MethodName)) ∈ GG := gg_mem 677 (by decide +kernel) rfl
theorem w_678 : (Jvm.Cond.instanceMethod ({ cls := "CranePads$Pads", name := "placeAs", desc := "(LCranePads$Pads;)V" } : Jvm.MethodName)) ∈ GG := gg_mem 678 (by decide +kernel) rfl
theorem w_679 : (Jvm.Cond.selects "CranePads$Pads" ({ cls := "CranePads$Pads", name := "placeAs", desc := "(LCranePads$Pads;)V" } : Jvm.MethodName) ({ cls := "CranePads$Pads", name := "placeAs", desc := "(LCranePads$Pads;)V" } : Jvm.MethodName)) ∈ GG := gg_mem 679 (by decide +kernel) rfl
theorem w_680 : (Jvm.Cond.code ({ cls := "CranePads$Pads", name := "placeAs", desc := "(LCranePads$Pads;)V" } : Jvm.MethodName) prog_6_method_3_code (2 : Nat) (Option.none : Option Jvm.ClassFile.FieldType)) ∈ GG := gg_mem 680 (by decide +kernel) rfl
theorem w_681 : (Jvm.Cond.methodLink "CranePads$Pads" (24 : Nat) ({ cls := "java/lang/System", name := "arraycopy", desc := "(Ljava/lang/Object;ILjava/lang/Object;II)V" } : Jvm.MethodName)) ∈ GG := gg_mem 681 (by decide +kernel) rfl
theorem w_682 : (Jvm.Cond.static ({ cls := "java/lang/System", name := "arraycopy", desc := "(Ljava/lang/Object;ILjava/lang/Object;II)V" } : Jvm.MethodName)) ∈ GG := gg_mem 682 (by decide +kernel) rfl
theorem w_683 : (Jvm.Cond.native ({ cls := "java/lang/System", name := "arraycopy", desc := "(Ljava/lang/Object;ILjava/lang/Object;II)V" } : Jvm.MethodName)) ∈ GG := gg_mem 683 (by decide +kernel) rfl
theorem w_684 : (Jvm.Cond.methodLink "CranePads$Crane" (48 : Nat) ({ cls := "CranePads$Parts", name := "weighAs", desc := "(LCranePads$Parts;)V" } : Jvm.MethodName)) ∈ GG := gg_mem 684 (by decide +kernel) rfl
theorem w_685 : (Jvm.Cond.instanceMethod ({ cls := "CranePads$Parts", name := "weighAs", desc := "(LCranePads$Parts;)V" } : Jvm.MethodName)) ∈ GG := gg_mem 685 (by decide +kernel) rfl
theorem w_686 : (Jvm.Cond.selects "CranePads$Parts" ({ cls := "CranePads$Parts", name := "weighAs", desc := "(LCranePads$Parts;)V" } : Jvm.MethodName) ({ cls := "CranePads$Parts", name := "weighAs", desc := "(LCranePads$Parts;)V" } : Jvm.MethodName)) ∈ GG := gg_mem 686 (by decide +kernel) rfl
theorem w_687 : (Jvm.Cond.code ({ cls := "CranePads$Parts", name := "weighAs", desc := "(LCranePads$Parts;)V" } : Jvm.MethodName) prog_7_method_5_code (2 : Nat) (Option.none : Option Jvm.ClassFile.FieldType)) ∈ GG := gg_mem 687 (by decide +kernel) rfl
theorem w_688 : (Jvm.Cond.methodLink "CranePads$Parts" (48 : Nat) ({ cls := "java/lang/System", name := "arraycopy", desc := "(Ljava/lang/Object;ILjava/lang/Object;II)V" } : Jvm.MethodName)) ∈ GG := gg_mem 688 (by decide +kernel) rfl
theorem w_689 : (Jvm.Cond.methodLink "CranePads$Crane" (52 : Nat) ({ cls := "CranePads$Chart", name := "readAs", desc := "(LCranePads$Chart;)V" } : Jvm.MethodName)) ∈ GG := gg_mem 689 (by decide +kernel) rfl
theorem w_690 : (Jvm.Cond.instanceMethod ({ cls := "CranePads$Chart", name := "readAs", desc := "(LCranePads$Chart;)V" } : Jvm.MethodName)) ∈ GG := gg_mem 690 (by decide +kernel) rfl
theorem w_691 : (Jvm.Cond.selects "CranePads$Chart" ({ cls := "CranePads$Chart", name := "readAs", desc := "(LCranePads$Chart;)V" } : Jvm.MethodName) ({ cls := "CranePads$Chart", name := "readAs", desc := "(LCranePads$Chart;)V" } : Jvm.MethodName)) ∈ GG := gg_mem 691 (by decide +kernel) rfl
theorem w_692 : (Jvm.Cond.code ({ cls := "CranePads$Chart", name := "readAs", desc := "(LCranePads$Chart;)V" } : Jvm.MethodName) prog_3_method_5_code (2 : Nat) (Option.none : Option Jvm.ClassFile.FieldType)) ∈ GG := gg_mem 692 (by decide +kernel) rfl
theorem w_693 : (Jvm.Cond.methodLink "CranePads$Chart" (29 : Nat) ({ cls := "java/lang/System", name := "arraycopy", desc := "(Ljava/lang/Object;ILjava/lang/Object;II)V" } : Jvm.MethodName)) ∈ GG := gg_mem 693 (by decide +kernel) rfl
theorem w_694 : (Jvm.Cond.methodLink "CranePads$Crane" (56 : Nat) ({ cls := "java/lang/System", name := "arraycopy", desc := "(Ljava/lang/Object;ILjava/lang/Object;II)V" } : Jvm.MethodName)) ∈ GG := gg_mem 694 (by decide +kernel) rfl
theorem w_699 : (Jvm.Cond.methodLink "CranePads" (237 : Nat) ({ cls := "CranePads$Judge", name := "lawfulDirections", desc := "(LCranePads$Crane;I)I" } : Jvm.MethodName)) ∈ GG := gg_mem 699 (by decide +kernel) rfl
theorem w_700 : (Jvm.Cond.instanceMethod ({ cls := "CranePads$Judge", name := "lawfulDirections", desc := "(LCranePads$Crane;I)I" } : Jvm.MethodName)) ∈ GG := gg_mem 700 (by decide +kernel) rfl
theorem w_701 : (Jvm.Cond.selects "CranePads$Judge" ({ cls := "CranePads$Judge", name := "lawfulDirections", desc := "(LCranePads$Crane;I)I" } : Jvm.MethodName) ({ cls := "CranePads$Judge", name := "lawfulDirections", desc := "(LCranePads$Crane;I)I" } : Jvm.MethodName)) ∈ GG := gg_mem 701 (by decide +kernel) rfl
theorem w_702 : (Jvm.Cond.code ({ cls := "CranePads$Judge", name := "lawfulDirections", desc := "(LCranePads$Crane;I)I" } : Jvm.MethodName) prog_5_method_4_code (5 : Nat) (Option.some Jvm.ClassFile.FieldType.int)) ∈ GG := gg_mem 702 (by decide +kernel) rfl
theorem w_711 : (Jvm.Cond.methodLink "CranePads" (244 : Nat) ({ cls := "CranePads$Route", name := "begin", desc := "(II)V" } : Jvm.MethodName)) ∈ GG := gg_mem 711 (by decide +kernel) rfl
theorem w_712 : (Jvm.Cond.instanceMethod ({ cls := "CranePads$Route", name := "begin", desc := "(II)V" } : Jvm.MethodName)) ∈ GG := gg_mem 712 (by decide +kernel) rfl
theorem w_713 : (Jvm.Cond.selects "CranePads$Route" ({ cls := "CranePads$Route", name := "begin", desc := "(II)V" } : Jvm.MethodName) ({ cls := "CranePads$Route", name := "begin", desc := "(II)V" } : Jvm.MethodName)) ∈ GG := gg_mem 713 (by decide +kernel) rfl
theorem w_714 : (Jvm.Cond.code ({ cls := "CranePads$Route", name := "begin", desc := "(II)V" } : Jvm.MethodName) prog_9_method_2_code (3 : Nat) (Option.none : Option Jvm.ClassFile.FieldType)) ∈ GG := gg_mem 714 (by decide +kernel) rfl
theorem w_715 : (Jvm.Cond.methodLink "CranePads$Route" (21 : Nat) ({ cls := "java/util/Arrays", name := "fill", desc := "([II)V" } : Jvm.MethodName)) ∈ GG := gg_mem 715 (by decide +kernel) rfl
theorem w_716 : (Jvm.Cond.methodLink "CranePads" (247 : Nat) ({ cls := "CranePads$Route", name := "movesTo", desc := "(II)I" } : Jvm.MethodName)) ∈ GG := gg_mem 716 (by decide +kernel) rfl
theorem w_717 : (Jvm.Cond.instanceMethod ({ cls := "CranePads$Route", name := "movesTo", desc := "(II)I" } : Jvm.MethodName)) ∈ GG := gg_mem 717 (by decide +kernel) rfl
theorem w_718 : (Jvm.Cond.selects "CranePads$Route" ({ cls := "CranePads$Route", name := "movesTo", desc := "(II)I" } : Jvm.MethodName) ({ cls := "CranePads$Route", name := "movesTo", desc := "(II)I" } : Jvm.MethodName)) ∈ GG := gg_mem 718 (by decide +kernel) rfl
theorem w_719 : (Jvm.Cond.code ({ cls := "CranePads$Route", name := "movesTo", desc := "(II)I" } : Jvm.MethodName) prog_9_method_3_code (5 : Nat) (Option.some Jvm.ClassFile.FieldType.int)) ∈ GG := gg_mem 719 (by decide +kernel) rfl
theorem w_720 : (Jvm.Cond.methodLink "CranePads$Route" (27 : Nat) ({ cls := "CranePads$Route", name := "spread", desc := "()Z" } : Jvm.MethodName)) ∈ GG := gg_mem 720 (by decide +kernel) rfl
theorem w_722 : (Jvm.Cond.instanceMethod ({ cls := "CranePads$Route", name := "spread", desc := "()Z" } : Jvm.MethodName)) ∈ GG := gg_mem 722 (by decide +kernel) rfl
theorem w_723 : (Jvm.Cond.code ({ cls := "CranePads$Route", name := "spread", desc := "()Z" } : Jvm.MethodName) prog_9_method_4_code (7 : Nat) (Option.some Jvm.ClassFile.FieldType.boolean)) ∈ GG := gg_mem 723 (by decide +kernel) rfl
theorem w_724 : (Jvm.Cond.methodLink "CranePads$Route" (31 : Nat) ({ cls := "java/lang/System", name := "arraycopy", desc := "(Ljava/lang/Object;ILjava/lang/Object;II)V" } : Jvm.MethodName)) ∈ GG := gg_mem 724 (by decide +kernel) rfl
theorem w_733 : (Jvm.Cond.methodLink "CranePads" (251 : Nat) ({ cls := "CranePads$Tape", name := "append", desc := "(I)I" } : Jvm.MethodName)) ∈ GG := gg_mem 733 (by decide +kernel) rfl
theorem w_734 : (Jvm.Cond.instanceMethod ({ cls := "CranePads$Tape", name := "append", desc := "(I)I" } : Jvm.MethodName)) ∈ GG := gg_mem 734 (by decide +kernel) rfl
theorem w_735 : (Jvm.Cond.selects "CranePads$Tape" ({ cls := "CranePads$Tape", name := "append", desc := "(I)I" } : Jvm.MethodName) ({ cls := "CranePads$Tape", name := "append", desc := "(I)I" } : Jvm.MethodName)) ∈ GG := gg_mem 735 (by decide +kernel) rfl
theorem w_736 : (Jvm.Cond.code ({ cls := "CranePads$Tape", name := "append", desc := "(I)I" } : Jvm.MethodName) prog_11_method_2_code (2 : Nat) (Option.some Jvm.ClassFile.FieldType.int)) ∈ GG := gg_mem 736 (by decide +kernel) rfl
theorem w_745 : (Jvm.Cond.methodLink "CranePads" (253 : Nat) ({ cls := "CranePads$Tape", name := "readInto", desc := "(LCranePads$Plan;)I" } : Jvm.MethodName)) ∈ GG := gg_mem 745 (by decide +kernel) rfl
theorem w_746 : (Jvm.Cond.instanceMethod ({ cls := "CranePads$Tape", name := "readInto", desc := "(LCranePads$Plan;)I" } : Jvm.MethodName)) ∈ GG := gg_mem 746 (by decide +kernel) rfl
theorem w_747 : (Jvm.Cond.selects "CranePads$Tape" ({ cls := "CranePads$Tape", name := "readInto", desc := "(LCranePads$Plan;)I" } : Jvm.MethodName) ({ cls := "CranePads$Tape", name := "readInto", desc := "(LCranePads$Plan;)I" } : Jvm.MethodName)) ∈ GG := gg_mem 747 (by decide +kernel) rfl
theorem w_748 : (Jvm.Cond.code ({ cls := "CranePads$Tape", name := "readInto", desc := "(LCranePads$Plan;)I" } : Jvm.MethodName) prog_11_method_3_code (4 : Nat) (Option.some Jvm.ClassFile.FieldType.int)) ∈ GG := gg_mem 748 (by decide +kernel) rfl
theorem w_749 : (Jvm.Cond.methodLink "CranePads$Tape" (25 : Nat) ({ cls := "CranePads$Tape", name := "readStep", desc := "(LCranePads$Plan;)I" } : Jvm.MethodName)) ∈ GG := gg_mem 749 (by decide +kernel) rfl
theorem w_751 : (Jvm.Cond.instanceMethod ({ cls := "CranePads$Tape", name := "readStep", desc := "(LCranePads$Plan;)I" } : Jvm.MethodName)) ∈ GG := gg_mem 751 (by decide +kernel) rfl
theorem w_752 : (Jvm.Cond.code ({ cls := "CranePads$Tape", name := "readStep", desc := "(LCranePads$Plan;)I" } : Jvm.MethodName) prog_11_method_4_code (4 : Nat) (Option.some Jvm.ClassFile.FieldType.int)) ∈ GG := gg_mem 752 (by decide +kernel) rfl
theorem w_754 : (Jvm.Cond.methodLink "CranePads$Tape" (31 : Nat) ({ cls := "CranePads$Tape", name := "spells", desc := "(ILjava/lang/String;)Z" } : Jvm.MethodName)) ∈ GG := gg_mem 754 (by decide +kernel) rfl
theorem w_756 : (Jvm.Cond.instanceMethod ({ cls := "CranePads$Tape", name := "spells", desc := "(ILjava/lang/String;)Z" } : Jvm.MethodName)) ∈ GG := gg_mem 756 (by decide +kernel) rfl
theorem w_757 : (Jvm.Cond.code ({ cls := "CranePads$Tape", name := "spells", desc := "(ILjava/lang/String;)Z" } : Jvm.MethodName) prog_11_method_7_code (4 : Nat) (Option.some Jvm.ClassFile.FieldType.boolean)) ∈ GG := gg_mem 757 (by decide +kernel) rfl
theorem w_758 : (Jvm.Cond.methodLink "CranePads$Tape" (65 : Nat) ({ cls := "java/lang/String", name := "length", desc := "()I" } : Jvm.MethodName)) ∈ GG := gg_mem 758 (by decide +kernel) rfl
theorem w_759 : (Jvm.Cond.instanceMethod ({ cls := "java/lang/String", name := "length", desc := "()I" } : Jvm.MethodName)) ∈ GG := gg_mem 759 (by decide +kernel) rfl
theorem w_760 : (Jvm.Cond.selects "java/lang/String" ({ cls := "java/lang/String", name := "length", desc := "()I" } : Jvm.MethodName) ({ cls := "java/lang/String", name := "length", desc := "()I" } : Jvm.MethodName)) ∈ GG := gg_mem 760 (by decide +kernel) rfl
theorem w_761 : (Jvm.Cond.code ({ cls := "java/lang/String", name := "length", desc := "()I" } : Jvm.MethodName) prog_17_method_54_code (1 : Nat) (Option.some Jvm.ClassFile.FieldType.int)) ∈ GG := gg_mem 761 (by decide +kernel) rfl
theorem w_762 : (Jvm.Cond.methodLink "java/lang/String" (335 : Nat) ({ cls := "java/lang/String", name := "coder", desc := "()B" } : Jvm.MethodName)) ∈ GG := gg_mem 762 (by decide +kernel) rfl
theorem w_763 : (Jvm.Cond.instanceMethod ({ cls := "java/lang/String", name := "coder", desc := "()B" } : Jvm.MethodName)) ∈ GG := gg_mem 763 (by decide +kernel) rfl
theorem w_764 : (Jvm.Cond.selects "java/lang/String" ({ cls := "java/lang/String", name := "coder", desc := "()B" } : Jvm.MethodName) ({ cls := "java/lang/String", name := "coder", desc := "()B" } : Jvm.MethodName)) ∈ GG := gg_mem 764 (by decide +kernel) rfl
theorem w_765 : (Jvm.Cond.code ({ cls := "java/lang/String", name := "coder", desc := "()B" } : Jvm.MethodName) prog_17_method_152_code (1 : Nat) (Option.some Jvm.ClassFile.FieldType.byte)) ∈ GG := gg_mem 765 (by decide +kernel) rfl
theorem w_766 : (Jvm.Cond.fieldLink "java/lang/String" (38 : Nat) "java/lang/String" "COMPACT_STRINGS" "Z") ∈ GG := gg_mem 766 (by decide +kernel) rfl
theorem w_768 : (Jvm.Cond.methodLink "CranePads$Tape" (71 : Nat) ({ cls := "java/lang/String", name := "charAt", desc := "(I)C" } : Jvm.MethodName)) ∈ GG := gg_mem 768 (by decide +kernel) rfl
theorem w_769 : (Jvm.Cond.instanceMethod ({ cls := "java/lang/String", name := "charAt", desc := "(I)C" } : Jvm.MethodName)) ∈ GG := gg_mem 769 (by decide +kernel) rfl
theorem w_770 : (Jvm.Cond.selects "java/lang/String" ({ cls := "java/lang/String", name := "charAt", desc := "(I)C" } : Jvm.MethodName) ({ cls := "java/lang/String", name := "charAt", desc := "(I)C" } : Jvm.MethodName)) ∈ GG := gg_mem 770 (by decide +kernel) rfl
theorem w_771 : (Jvm.Cond.code ({ cls := "java/lang/String", name := "charAt", desc := "(I)C" } : Jvm.MethodName) prog_17_method_56_code (2 : Nat) (Option.some Jvm.ClassFile.FieldType.char)) ∈ GG := gg_mem 771 (by decide +kernel) rfl
theorem w_772 : (Jvm.Cond.methodLink "java/lang/String" (492 : Nat) ({ cls := "java/lang/String", name := "isLatin1", desc := "()Z" } : Jvm.MethodName)) ∈ GG := gg_mem 772 (by decide +kernel) rfl
theorem w_773 : (Jvm.Cond.instanceMethod ({ cls := "java/lang/String", name := "isLatin1", desc := "()Z" } : Jvm.MethodName)) ∈ GG := gg_mem 773 (by decide +kernel) rfl
theorem w_774 : (Jvm.Cond.selects "java/lang/String" ({ cls := "java/lang/String", name := "isLatin1", desc := "()Z" } : Jvm.MethodName) ({ cls := "java/lang/String", name := "isLatin1", desc := "()Z" } : Jvm.MethodName)) ∈ GG := gg_mem 774 (by decide +kernel) rfl
theorem w_775 : (Jvm.Cond.code ({ cls := "java/lang/String", name := "isLatin1", desc := "()Z" } : Jvm.MethodName) prog_17_method_154_code (1 : Nat) (Option.some Jvm.ClassFile.FieldType.boolean)) ∈ GG := gg_mem 775 (by decide +kernel) rfl
theorem w_776 : (Jvm.Cond.methodLink "java/lang/String" (495 : Nat) ({ cls := "java/lang/StringLatin1", name := "charAt", desc := "([BI)C" } : Jvm.MethodName)) ∈ GG := gg_mem 776 (by decide +kernel) rfl
theorem w_777 : (Jvm.Cond.static ({ cls := "java/lang/StringLatin1", name := "charAt", desc := "([BI)C" } : Jvm.MethodName)) ∈ GG := gg_mem 777 (by decide +kernel) rfl
theorem w_778 : (Jvm.Cond.code ({ cls := "java/lang/StringLatin1", name := "charAt", desc := "([BI)C" } : Jvm.MethodName) prog_18_method_2_code (2 : Nat) (Option.some Jvm.ClassFile.FieldType.char)) ∈ GG := gg_mem 778 (by decide +kernel) rfl
theorem w_779 : (Jvm.Cond.methodLink "java/lang/StringLatin1" (9 : Nat) ({ cls := "java/lang/String", name := "checkIndex", desc := "(II)V" } : Jvm.MethodName)) ∈ GG := gg_mem 779 (by decide +kernel) rfl
theorem w_780 : (Jvm.Cond.static ({ cls := "java/lang/String", name := "checkIndex", desc := "(II)V" } : Jvm.MethodName)) ∈ GG := gg_mem 780 (by decide +kernel) rfl
theorem w_781 : (Jvm.Cond.code ({ cls := "java/lang/String", name := "checkIndex", desc := "(II)V" } : Jvm.MethodName) prog_17_method_155_code (2 : Nat) (Option.none : Option Jvm.ClassFile.FieldType)) ∈ GG := gg_mem 781 (by decide +kernel) rfl
theorem w_782 : (Jvm.Cond.fieldLink "java/lang/String" (1053 : Nat) "jdk/internal/util/Preconditions" "SIOOBE_FORMATTER" "Ljava/util/function/BiFunction;") ∈ GG := gg_mem 782 (by decide +kernel) rfl
theorem w_784 : (Jvm.Cond.methodLink "java/lang/String" (1059 : Nat) ({ cls := "jdk/internal/util/Preconditions", name := "checkIndex", desc := "(IILjava/util/function/BiFunction;)I" } : Jvm.MethodName)) ∈ GG := gg_mem 784 (by decide +kernel) rfl
theorem w_785 : (Jvm.Cond.static ({ cls := "jdk/internal/util/Preconditions", name := "checkIndex", desc := "(IILjava/util/function/BiFunction;)I" } : Jvm.MethodName)) ∈ GG := gg_mem 785 (by decide +kernel) rfl
theorem w_786 : (Jvm.Cond.code ({ cls := "jdk/internal/util/Preconditions", name := "checkIndex", desc := "(IILjava/util/function/BiFunction;)I" } : Jvm.MethodName) prog_22_method_11_code (3 : Nat) (Option.some Jvm.ClassFile.FieldType.int)) ∈ GG := gg_mem 786 (by decide +kernel) rfl
theorem w_806 : (Jvm.Cond.methodLink "CranePads$Tape" (35 : Nat) ({ cls := "CranePads$Plan", name := "append", desc := "(II)V" } : Jvm.MethodName)) ∈ GG := gg_mem 806 (by decide +kernel) rfl
theorem w_807 : (Jvm.Cond.instanceMethod ({ cls := "CranePads$Plan", name := "append", desc := "(II)V" } : Jvm.MethodName)) ∈ GG := gg_mem 807 (by decide +kernel) rfl
theorem w_808 : (Jvm.Cond.selects "CranePads$Plan" ({ cls := "CranePads$Plan", name := "append", desc := "(II)V" } : Jvm.MethodName) ({ cls := "CranePads$Plan", name := "append", desc := "(II)V" } : Jvm.MethodName)) ∈ GG := gg_mem 808 (by decide +kernel) rfl
theorem w_809 : (Jvm.Cond.code ({ cls := "CranePads$Plan", name := "append", desc := "(II)V" } : Jvm.MethodName) prog_8_method_2_code (3 : Nat) (Option.none : Option Jvm.ClassFile.FieldType)) ∈ GG := gg_mem 809 (by decide +kernel) rfl
theorem w_810 : (Jvm.Cond.methodLink "CranePads$Tape" (39 : Nat) ({ cls := "CranePads$Tape", name := "dialOfWord", desc := "(I)I" } : Jvm.MethodName)) ∈ GG := gg_mem 810 (by decide +kernel) rfl
theorem w_812 : (Jvm.Cond.instanceMethod ({ cls := "CranePads$Tape", name := "dialOfWord", desc := "(I)I" } : Jvm.MethodName)) ∈ GG := gg_mem 812 (by decide +kernel) rfl
theorem w_813 : (Jvm.Cond.code ({ cls := "CranePads$Tape", name := "dialOfWord", desc := "(I)I" } : Jvm.MethodName) prog_11_method_6_code (2 : Nat) (Option.some Jvm.ClassFile.FieldType.int)) ∈ GG := gg_mem 813 (by decide +kernel) rfl
theorem w_818 : (Jvm.Cond.methodLink "CranePads$Tape" (43 : Nat) ({ cls := "CranePads$Tape", name := "readNumber", desc := "(LCranePads$Plan;I)I" } : Jvm.MethodName)) ∈ GG := gg_mem 818 (by decide +kernel) rfl
theorem w_820 : (Jvm.Cond.instanceMethod ({ cls := "CranePads$Tape", name := "readNumber", desc := "(LCranePads$Plan;I)I" } : Jvm.MethodName)) ∈ GG := gg_mem 820 (by decide +kernel) rfl
theorem w_821 : (Jvm.Cond.code ({ cls := "CranePads$Tape", name := "readNumber", desc := "(LCranePads$Plan;I)I" } : Jvm.MethodName) prog_11_method_5_code (6 : Nat) (Option.some Jvm.ClassFile.FieldType.int)) ∈ GG := gg_mem 821 (by decide +kernel) rfl
theorem w_822 : (Jvm.Cond.methodLink "CranePads$Tape" (47 : Nat) ({ cls := "java/lang/Math", name := "min", desc := "(II)I" } : Jvm.MethodName)) ∈ GG := gg_mem 822 (by decide +kernel) rfl
theorem w_823 : (Jvm.Cond.static ({ cls := "java/lang/Math", name := "min", desc := "(II)I" } : Jvm.MethodName)) ∈ GG := gg_mem 823 (by decide +kernel) rfl
theorem w_824 : (Jvm.Cond.code ({ cls := "java/lang/Math", name := "min", desc := "(II)I" } : Jvm.MethodName) prog_16_method_69_code (2 : Nat) (Option.some Jvm.ClassFile.FieldType.int)) ∈ GG := gg_mem 824 (by decide +kernel) rfl
theorem w_826 : (Jvm.Cond.methodLink "CranePads" (257 : Nat) ({ cls := "CranePads$Plan", name := "become", desc := "(LCranePads$Plan;)V" } : Jvm.MethodName)) ∈ GG := gg_mem 826 (by decide +kernel) rfl
theorem w_827 : (Jvm.Cond.instanceMethod ({ cls := "CranePads$Plan", name := "become", desc := "(LCranePads$Plan;)V" } : Jvm.MethodName)) ∈ GG := gg_mem 827 (by decide +kernel) rfl
theorem w_828 : (Jvm.Cond.selects "CranePads$Plan" ({ cls := "CranePads$Plan", name := "become", desc := "(LCranePads$Plan;)V" } : Jvm.MethodName) ({ cls := "CranePads$Plan", name := "become", desc := "(LCranePads$Plan;)V" } : Jvm.MethodName)) ∈ GG := gg_mem 828 (by decide +kernel) rfl
theorem w_829 : (Jvm.Cond.code ({ cls := "CranePads$Plan", name := "become", desc := "(LCranePads$Plan;)V" } : Jvm.MethodName) prog_8_method_3_code (2 : Nat) (Option.none : Option Jvm.ClassFile.FieldType)) ∈ GG := gg_mem 829 (by decide +kernel) rfl
theorem w_830 : (Jvm.Cond.methodLink "CranePads$Plan" (22 : Nat) ({ cls := "java/lang/System", name := "arraycopy", desc := "(Ljava/lang/Object;ILjava/lang/Object;II)V" } : Jvm.MethodName)) ∈ GG := gg_mem 830 (by decide +kernel) rfl
theorem w_835 : (Jvm.Cond.methodLink "CranePads" (261 : Nat) ({ cls := "CranePads$Walk", name := "go", desc := "(LCranePads$Plan;LCranePads$Crane;LCranePads$Judge;)V" } : Jvm.MethodName)) ∈ GG := gg_mem 835 (by decide +kernel) rfl
theorem w_836 : (Jvm.Cond.instanceMethod ({ cls := "CranePads$Walk", name := "go", desc := "(LCranePads$Plan;LCranePads$Crane;LCranePads$Judge;)V" } : Jvm.MethodName)) ∈ GG := gg_mem 836 (by decide +kernel) rfl
theorem w_837 : (Jvm.Cond.selects "CranePads$Walk" ({ cls := "CranePads$Walk", name := "go", desc := "(LCranePads$Plan;LCranePads$Crane;LCranePads$Judge;)V" } : Jvm.MethodName) ({ cls := "CranePads$Walk", name := "go", desc := "(LCranePads$Plan;LCranePads$Crane;LCranePads$Judge;)V" } : Jvm.MethodName)) ∈ GG := gg_mem 837 (by decide +kernel) rfl
theorem w_838 : (Jvm.Cond.code ({ cls := "CranePads$Walk", name := "go", desc := "(LCranePads$Plan;LCranePads$Crane;LCranePads$Judge;)V" } : Jvm.MethodName) prog_12_method_2_code (8 : Nat) (Option.none : Option Jvm.ClassFile.FieldType)) ∈ GG := gg_mem 838 (by decide +kernel) rfl
theorem w_839 : (Jvm.Cond.constant "CranePads$Walk" (26 : Nat) (2147483647 : Int32)) ∈ GG := gg_mem 839 (by decide +kernel) rfl
theorem w_840 : (Jvm.Cond.methodLink "CranePads$Walk" (30 : Nat) ({ cls := "CranePads$Walk", name := "meet", desc := "(ILCranePads$Crane;LCranePads$Judge;)V" } : Jvm.MethodName)) ∈ GG := gg_mem 840 (by decide +kernel) rfl
theorem w_842 : (Jvm.Cond.instanceMethod ({ cls := "CranePads$Walk", name := "meet", desc := "(ILCranePads$Crane;LCranePads$Judge;)V" } : Jvm.MethodName)) ∈ GG := gg_mem 842 (by decide +kernel) rfl
theorem w_843 : (Jvm.Cond.code ({ cls := "CranePads$Walk", name := "meet", desc := "(ILCranePads$Crane;LCranePads$Judge;)V" } : Jvm.MethodName) prog_12_method_3_code (5 : Nat) (Option.none : Option Jvm.ClassFile.FieldType)) ∈ GG := gg_mem 843 (by decide +kernel) rfl
theorem w_844 : (Jvm.Cond.methodLink "CranePads$Walk" (59 : Nat) ({ cls := "CranePads$Judge", name := "verdict", desc := "(LCranePads$Crane;)I" } : Jvm.MethodName)) ∈ GG := gg_mem 844 (by decide +kernel) rfl
theorem w_845 : (Jvm.Cond.methodLink "CranePads$Walk" (65 : Nat) ({ cls := "CranePads$Crane", name := "room", desc := "()I" } : Jvm.MethodName)) ∈ GG := gg_mem 845 (by decide +kernel) rfl
theorem w_846 : (Jvm.Cond.methodLink "CranePads$Walk" (69 : Nat) ({ cls := "java/lang/Math", name := "min", desc := "(II)I" } : Jvm.MethodName)) ∈ GG := gg_mem 846 (by decide +kernel) rfl
theorem w_847 : (Jvm.Cond.methodLink "CranePads$Walk" (46 : Nat) ({ cls := "CranePads$Plan", name := "isMove", desc := "(I)Z" } : Jvm.MethodName)) ∈ GG := gg_mem 847 (by decide +kernel) rfl
theorem w_848 : (Jvm.Cond.instanceMethod ({ cls := "CranePads$Plan", name := "isMove", desc := "(I)Z" } : Jvm.MethodName)) ∈ GG := gg_mem 848 (by decide +kernel) rfl
theorem w_849 : (Jvm.Cond.selects "CranePads$Plan" ({ cls := "CranePads$Plan", name := "isMove", desc := "(I)Z" } : Jvm.MethodName) ({ cls := "CranePads$Plan", name := "isMove", desc := "(I)Z" } : Jvm.MethodName)) ∈ GG := gg_mem 849 (by decide +kernel) rfl
theorem w_850 : (Jvm.Cond.code ({ cls := "CranePads$Plan", name := "isMove", desc := "(I)Z" } : Jvm.MethodName) prog_8_method_5_code (2 : Nat) (Option.some Jvm.ClassFile.FieldType.boolean)) ∈ GG := gg_mem 850 (by decide +kernel) rfl
theorem w_851 : (Jvm.Cond.methodLink "CranePads$Walk" (55 : Nat) ({ cls := "CranePads$Crane", name := "approach", desc := "(II)V" } : Jvm.MethodName)) ∈ GG := gg_mem 851 (by decide +kernel) rfl
theorem w_852 : (Jvm.Cond.instanceMethod ({ cls := "CranePads$Crane", name := "approach", desc := "(II)V" } : Jvm.MethodName)) ∈ GG := gg_mem 852 (by decide +kernel) rfl
theorem w_853 : (Jvm.Cond.selects "CranePads$Crane" ({ cls := "CranePads$Crane", name := "approach", desc := "(II)V" } : Jvm.MethodName) ({ cls := "CranePads$Crane", name := "approach", desc := "(II)V" } : Jvm.MethodName)) ∈ GG := gg_mem 853 (by decide +kernel) rfl
theorem w_854 : (Jvm.Cond.code ({ cls := "CranePads$Crane", name := "approach", desc := "(II)V" } : Jvm.MethodName) prog_4_method_7_code (5 : Nat) (Option.none : Option Jvm.ClassFile.FieldType)) ∈ GG := gg_mem 854 (by decide +kernel) rfl
theorem w_855 : (Jvm.Cond.methodLink "CranePads$Crane" (83 : Nat) ({ cls := "java/lang/Math", name := "floorMod", desc := "(II)I" } : Jvm.MethodName)) ∈ GG := gg_mem 855 (by decide +kernel) rfl
theorem w_856 : (Jvm.Cond.static ({ cls := "java/lang/Math", name := "floorMod", desc := "(II)I" } : Jvm.MethodName)) ∈ GG := gg_mem 856 (by decide +kernel) rfl
theorem w_857 : (Jvm.Cond.code ({ cls := "java/lang/Math", name := "floorMod", desc := "(II)I" } : Jvm.MethodName) prog_16_method_50_code (3 : Nat) (Option.some Jvm.ClassFile.FieldType.int)) ∈ GG := gg_mem 857 (by decide +kernel) rfl
theorem w_870 : (Jvm.Cond.methodLink "CranePads" (280 : Nat) ({ cls := "CranePads$Plan", name := "onlyMoves", desc := "()Z" } : Jvm.MethodName)) ∈ GG := gg_mem 870 (by decide +kernel) rfl
theorem w_871 : (Jvm.Cond.instanceMethod ({ cls := "CranePads$Plan", name := "onlyMoves", desc := "()Z" } : Jvm.MethodName)) ∈ GG := gg_mem 871 (by decide +kernel) rfl
theorem w_872 : (Jvm.Cond.selects "CranePads$Plan" ({ cls := "CranePads$Plan", name := "onlyMoves", desc := "()Z" } : Jvm.MethodName) ({ cls := "CranePads$Plan", name := "onlyMoves", desc := "()Z" } : Jvm.MethodName)) ∈ GG := gg_mem 872 (by decide +kernel) rfl
theorem w_873 : (Jvm.Cond.code ({ cls := "CranePads$Plan", name := "onlyMoves", desc := "()Z" } : Jvm.MethodName) prog_8_method_4_code (2 : Nat) (Option.some Jvm.ClassFile.FieldType.boolean)) ∈ GG := gg_mem 873 (by decide +kernel) rfl
theorem w_874 : (Jvm.Cond.methodLink "CranePads$Plan" (28 : Nat) ({ cls := "CranePads$Plan", name := "isMove", desc := "(I)Z" } : Jvm.MethodName)) ∈ GG := gg_mem 874 (by decide +kernel) rfl
theorem w_875 : (Jvm.Cond.methodLink "CranePads" (284 : Nat) ({ cls := "CranePads$Plan", name := "turnBack", desc := "(LCranePads$Plan;LCranePads$Crane;)V" } : Jvm.MethodName)) ∈ GG := gg_mem 875 (by decide +kernel) rfl
theorem w_876 : (Jvm.Cond.instanceMethod ({ cls := "CranePads$Plan", name := "turnBack", desc := "(LCranePads$Plan;LCranePads$Crane;)V" } : Jvm.MethodName)) ∈ GG := gg_mem 876 (by decide +kernel) rfl
theorem w_877 : (Jvm.Cond.selects "CranePads$Plan" ({ cls := "CranePads$Plan", name := "turnBack", desc := "(LCranePads$Plan;LCranePads$Crane;)V" } : Jvm.MethodName) ({ cls := "CranePads$Plan", name := "turnBack", desc := "(LCranePads$Plan;LCranePads$Crane;)V" } : Jvm.MethodName)) ∈ GG := gg_mem 877 (by decide +kernel) rfl
theorem w_878 : (Jvm.Cond.code ({ cls := "CranePads$Plan", name := "turnBack", desc := "(LCranePads$Plan;LCranePads$Crane;)V" } : Jvm.MethodName) prog_8_method_6_code (5 : Nat) (Option.none : Option Jvm.ClassFile.FieldType)) ∈ GG := gg_mem 878 (by decide +kernel) rfl
theorem w_883 : (Jvm.Cond.methodLink "CranePads" (288 : Nat) ({ cls := "CranePads", name := "isList", desc := "(I)Z" } : Jvm.MethodName)) ∈ GG := gg_mem 883 (by decide +kernel) rfl
theorem w_884 : (Jvm.Cond.static ({ cls := "CranePads", name := "isList", desc := "(I)Z" } : Jvm.MethodName)) ∈ GG := gg_mem 884 (by decide +kernel) rfl
theorem w_885 : (Jvm.Cond.code ({ cls := "CranePads", name := "isList", desc := "(I)Z" } : Jvm.MethodName) prog_1_method_46_code (1 : Nat) (Option.some Jvm.ClassFile.FieldType.boolean)) ∈ GG := gg_mem 885 (by decide +kernel) rfl
theorem w_886 : (Jvm.Cond.methodLink "CranePads" (291 : Nat) ({ cls := "CranePads$Rows", name := "holds", desc := "(I)Z" } : Jvm.MethodName)) ∈ GG := gg_mem 886 (by decide +kernel) rfl
theorem w_887 : (Jvm.Cond.instanceMethod ({ cls := "CranePads$Rows", name := "holds", desc := "(I)Z" } : Jvm.MethodName)) ∈ GG := gg_mem 887 (by decide +kernel) rfl
theorem w_888 : (Jvm.Cond.selects "CranePads$Rows" ({ cls := "CranePads$Rows", name := "holds", desc := "(I)Z" } : Jvm.MethodName) ({ cls := "CranePads$Rows", name := "holds", desc := "(I)Z" } : Jvm.MethodName)) ∈ GG := gg_mem 888 (by decide +kernel) rfl
theorem w_889 : (Jvm.Cond.code ({ cls := "CranePads$Rows", name := "holds", desc := "(I)Z" } : Jvm.MethodName) prog_10_method_2_code (2 : Nat) (Option.some Jvm.ClassFile.FieldType.boolean)) ∈ GG := gg_mem 889 (by decide +kernel) rfl
theorem w_890 : (Jvm.Cond.methodLink "CranePads" (301 : Nat) ({ cls := "CranePads$Judge", name := "sharesAre", desc := "([JI)Z" } : Jvm.MethodName)) ∈ GG := gg_mem 890 (by decide +kernel) rfl
theorem w_891 : (Jvm.Cond.instanceMethod ({ cls := "CranePads$Judge", name := "sharesAre", desc := "([JI)Z" } : Jvm.MethodName)) ∈ GG := gg_mem 891 (by decide +kernel) rfl
theorem w_892 : (Jvm.Cond.selects "CranePads$Judge" ({ cls := "CranePads$Judge", name := "sharesAre", desc := "([JI)Z" } : Jvm.MethodName) ({ cls := "CranePads$Judge", name := "sharesAre", desc := "([JI)Z" } : Jvm.MethodName)) ∈ GG := gg_mem 892 (by decide +kernel) rfl
theorem w_893 : (Jvm.Cond.code ({ cls := "CranePads$Judge", name := "sharesAre", desc := "([JI)Z" } : Jvm.MethodName) prog_5_method_7_code (4 : Nat) (Option.some Jvm.ClassFile.FieldType.boolean)) ∈ GG := gg_mem 893 (by decide +kernel) rfl
theorem w_894 : (Jvm.Cond.methodLink "CranePads$Judge" (113 : Nat) ({ cls := "CranePads$Judge", name := "wholeShare", desc := "(I)J" } : Jvm.MethodName)) ∈ GG := gg_mem 894 (by decide +kernel) rfl
theorem w_895 : (Jvm.Cond.instanceMethod ({ cls := "CranePads$Judge", name := "wholeShare", desc := "(I)J" } : Jvm.MethodName)) ∈ GG := gg_mem 895 (by decide +kernel) rfl
theorem w_896 : (Jvm.Cond.selects "CranePads$Judge" ({ cls := "CranePads$Judge", name := "wholeShare", desc := "(I)J" } : Jvm.MethodName) ({ cls := "CranePads$Judge", name := "wholeShare", desc := "(I)J" } : Jvm.MethodName)) ∈ GG := gg_mem 896 (by decide +kernel) rfl
theorem w_897 : (Jvm.Cond.code ({ cls := "CranePads$Judge", name := "wholeShare", desc := "(I)J" } : Jvm.MethodName) prog_5_method_8_code (2 : Nat) (Option.some Jvm.ClassFile.FieldType.long)) ∈ GG := gg_mem 897 (by decide +kernel) rfl
theorem w_902 : (Jvm.Cond.methodLink "CranePads" (305 : Nat) ({ cls := "CranePads$Judge", name := "wholeShare", desc := "(I)J" } : Jvm.MethodName)) ∈ GG := gg_mem 902 (by decide +kernel) rfl
theorem w_907 : (Jvm.Cond.methodLink "CranePads" (309 : Nat) ({ cls := "CranePads$Book", name := "keep", desc := "(III)I" } : Jvm.MethodName)) ∈ GG := gg_mem 907 (by decide +kernel) rfl
theorem w_908 : (Jvm.Cond.instanceMethod ({ cls := "CranePads$Book", name := "keep", desc := "(III)I" } : Jvm.MethodName)) ∈ GG := gg_mem 908 (by decide +kernel) rfl
theorem w_909 : (Jvm.Cond.selects "CranePads$Book" ({ cls := "CranePads$Book", name := "keep", desc := "(III)I" } : Jvm.MethodName) ({ cls := "CranePads$Book", name := "keep", desc := "(III)I" } : Jvm.MethodName)) ∈ GG := gg_mem 909 (by decide +kernel) rfl
theorem w_910 : (Jvm.Cond.code ({ cls := "CranePads$Book", name := "keep", desc := "(III)I" } : Jvm.MethodName) prog_2_method_2_code (4 : Nat) (Option.some Jvm.ClassFile.FieldType.int)) ∈ GG := gg_mem 910 (by decide +kernel) rfl
theorem w_911 : (Jvm.Cond.methodLink "CranePads$Book" (25 : Nat) ({ cls := "CranePads$Book", name := "dropEldest", desc := "()V" } : Jvm.MethodName)) ∈ GG := gg_mem 911 (by decide +kernel) rfl
theorem w_913 : (Jvm.Cond.instanceMethod ({ cls := "CranePads$Book", name := "dropEldest", desc := "()V" } : Jvm.MethodName)) ∈ GG := gg_mem 913 (by decide +kernel) rfl
theorem w_914 : (Jvm.Cond.code ({ cls := "CranePads$Book", name := "dropEldest", desc := "()V" } : Jvm.MethodName) prog_2_method_3_code (1 : Nat) (Option.none : Option Jvm.ClassFile.FieldType)) ∈ GG := gg_mem 914 (by decide +kernel) rfl
theorem w_915 : (Jvm.Cond.methodLink "CranePads$Book" (28 : Nat) ({ cls := "java/lang/System", name := "arraycopy", desc := "(Ljava/lang/Object;ILjava/lang/Object;II)V" } : Jvm.MethodName)) ∈ GG := gg_mem 915 (by decide +kernel) rfl
theorem w_920 : (Jvm.Cond.methodLink "CranePads" (323 : Nat) ({ cls := "CranePads", name := "mayBeAsBooked", desc := "(I)Z" } : Jvm.MethodName)) ∈ GG := gg_mem 920 (by decide +kernel) rfl
theorem w_922 : (Jvm.Cond.instanceMethod ({ cls := "CranePads", name := "mayBeAsBooked", desc := "(I)Z" } : Jvm.MethodName)) ∈ GG := gg_mem 922 (by decide +kernel) rfl
theorem w_923 : (Jvm.Cond.code ({ cls := "CranePads", name := "mayBeAsBooked", desc := "(I)Z" } : Jvm.MethodName) prog_1_method_42_code (2 : Nat) (Option.some Jvm.ClassFile.FieldType.boolean)) ∈ GG := gg_mem 923 (by decide +kernel) rfl
theorem w_928 : (Jvm.Cond.methodLink "CranePads" (326 : Nat) ({ cls := "CranePads$Book", name := "withMost", desc := "()I" } : Jvm.MethodName)) ∈ GG := gg_mem 928 (by decide +kernel) rfl
theorem w_929 : (Jvm.Cond.instanceMethod ({ cls := "CranePads$Book", name := "withMost", desc := "()I" } : Jvm.MethodName)) ∈ GG := gg_mem 929 (by decide +kernel) rfl
theorem w_930 : (Jvm.Cond.selects "CranePads$Book" ({ cls := "CranePads$Book", name := "withMost", desc := "()I" } : Jvm.MethodName) ({ cls := "CranePads$Book", name := "withMost", desc := "()I" } : Jvm.MethodName)) ∈ GG := gg_mem 930 (by decide +kernel) rfl
theorem w_931 : (Jvm.Cond.code ({ cls := "CranePads$Book", name := "withMost", desc := "()I" } : Jvm.MethodName) prog_2_method_4_code (4 : Nat) (Option.some Jvm.ClassFile.FieldType.int)) ∈ GG := gg_mem 931 (by decide +kernel) rfl
theorem w_936 : (Jvm.Cond.methodLink "CranePads" (329 : Nat) ({ cls := "CranePads$Rows", name := "begin", desc := "(II)V" } : Jvm.MethodName)) ∈ GG := gg_mem 936 (by decide +kernel) rfl
theorem w_937 : (Jvm.Cond.instanceMethod ({ cls := "CranePads$Rows", name := "begin", desc := "(II)V" } : Jvm.MethodName)) ∈ GG := gg_mem 937 (by decide +kernel) rfl
theorem w_938 : (Jvm.Cond.selects "CranePads$Rows" ({ cls := "CranePads$Rows", name := "begin", desc := "(II)V" } : Jvm.MethodName) ({ cls := "CranePads$Rows", name := "begin", desc := "(II)V" } : Jvm.MethodName)) ∈ GG := gg_mem 938 (by decide +kernel) rfl
theorem w_939 : (Jvm.Cond.code ({ cls := "CranePads$Rows", name := "begin", desc := "(II)V" } : Jvm.MethodName) prog_10_method_4_code (3 : Nat) (Option.none : Option Jvm.ClassFile.FieldType)) ∈ GG := gg_mem 939 (by decide +kernel) rfl
theorem w_940 : (Jvm.Cond.methodLink "CranePads$Rows" (20 : Nat) ({ cls := "java/util/Arrays", name := "fill", desc := "([JJ)V" } : Jvm.MethodName)) ∈ GG := gg_mem 940 (by decide +kernel) rfl
theorem w_941 : (Jvm.Cond.static ({ cls := "java/util/Arrays", name := "fill", desc := "([JJ)V" } : Jvm.MethodName)) ∈ GG := gg_mem 941 (by decide +kernel) rfl
theorem w_942 : (Jvm.Cond.code ({ cls := "java/util/Arrays", name := "fill", desc := "([JJ)V" } : Jvm.MethodName) prog_21_method_101_code (5 : Nat) (Option.none : Option Jvm.ClassFile.FieldType)) ∈ GG := gg_mem 942 (by decide +kernel) rfl
theorem w_947 : (Jvm.Cond.methodLink "CranePads" (330 : Nat) ({ cls := "CranePads$Rows", name := "hasPlace", desc := "(II)Z" } : Jvm.MethodName)) ∈ GG := gg_mem 947 (by decide +kernel) rfl
theorem w_948 : (Jvm.Cond.instanceMethod ({ cls := "CranePads$Rows", name := "hasPlace", desc := "(II)Z" } : Jvm.MethodName)) ∈ GG := gg_mem 948 (by decide +kernel) rfl
theorem w_949 : (Jvm.Cond.selects "CranePads$Rows" ({ cls := "CranePads$Rows", name := "hasPlace", desc := "(II)Z" } : Jvm.MethodName) ({ cls := "CranePads$Rows", name := "hasPlace", desc := "(II)Z" } : Jvm.MethodName)) ∈ GG := gg_mem 949 (by decide +kernel) rfl
theorem w_950 : (Jvm.Cond.code ({ cls := "CranePads$Rows", name := "hasPlace", desc := "(II)Z" } : Jvm.MethodName) prog_10_method_3_code (3 : Nat) (Option.some Jvm.ClassFile.FieldType.boolean)) ∈ GG := gg_mem 950 (by decide +kernel) rfl
theorem w_973 : (Jvm.Cond.fieldLink "CranePadsModel" (9 : Nat) "CranePadsModel" "pad" "[I") ∈ GG := gg_mem 973 (by decide +kernel) rfl
theorem w_974 : (Jvm.Cond.fieldLink "CranePadsModel" (114 : Nat) "CranePadsModel" "parts" "I") ∈ GG := gg_mem 974 (by decide +kernel) rfl
theorem w_975 : (Jvm.Cond.fieldLink "CranePadsModel" (15 : Nat) "CranePadsModel" "mass" "[I") ∈ GG := gg_mem 975 (by decide +kernel) rfl
theorem w_976 : (Jvm.Cond.fieldLink "CranePadsModel" (18 : Nat) "CranePadsModel" "a" "[I") ∈ GG := gg_mem 976 (by decide +kernel) rfl
theorem w_977 : (Jvm.Cond.fieldLink "CranePadsModel" (21 : Nat) "CranePadsModel" "b" "[I") ∈ GG := gg_mem 977 (by decide +kernel) rfl
theorem w_978 : (Jvm.Cond.fieldLink "CranePadsModel" (24 : Nat) "CranePadsModel" "turns" "[I") ∈ GG := gg_mem 978 (by decide +kernel) rfl
theorem w_979 : (Jvm.Cond.fieldLink "CranePadsModel" (27 : Nat) "CranePadsModel" "entries" "[I") ∈ GG := gg_mem 979 (by decide +kernel) rfl
theorem w_980 : (Jvm.Cond.fieldLink "CranePadsModel" (30 : Nat) "CranePadsModel" "at" "[I") ∈ GG := gg_mem 980 (by decide +kernel) rfl
theorem w_981 : (Jvm.Cond.fieldLink "CranePadsModel" (33 : Nat) "CranePadsModel" "hangs" "[I") ∈ GG := gg_mem 981 (by decide +kernel) rfl
theorem w_982 : (Jvm.Cond.fieldLink "CranePadsModel" (36 : Nat) "CranePadsModel" "is" "[I") ∈ GG := gg_mem 982 (by decide +kernel) rfl
theorem w_983 : (Jvm.Cond.fieldLink "CranePadsModel" (39 : Nat) "CranePadsModel" "imaged" "[I") ∈ GG := gg_mem 983 (by decide +kernel) rfl
theorem w_984 : (Jvm.Cond.fieldLink "CranePadsModel" (361 : Nat) "CranePadsModel" "hasImage" "Z") ∈ GG := gg_mem 984 (by decide +kernel) rfl
theorem w_985 : (Jvm.Cond.fieldLink "CranePadsModel" (177 : Nat) "CranePadsModel" "things" "I") ∈ GG := gg_mem 985 (by decide +kernel) rfl
theorem w_986 : (Jvm.Cond.fieldLink "CranePadsModel" (42 : Nat) "CranePadsModel" "weighs" "[I") ∈ GG := gg_mem 986 (by decide +kernel) rfl
theorem w_987 : (Jvm.Cond.fieldLink "CranePadsModel" (45 : Nat) "CranePadsModel" "atX" "[J") ∈ GG := gg_mem 987 (by decide +kernel) rfl
theorem w_988 : (Jvm.Cond.fieldLink "CranePadsModel" (49 : Nat) "CranePadsModel" "atY" "[J") ∈ GG := gg_mem 988 (by decide +kernel) rfl
theorem w_989 : (Jvm.Cond.fieldLink "CranePadsModel" (52 : Nat) "CranePadsModel" "push" "[J") ∈ GG := gg_mem 989 (by decide +kernel) rfl
theorem w_990 : (Jvm.Cond.fieldLink "CranePadsModel" (214 : Nat) "CranePadsModel" "below" "J") ∈ GG := gg_mem 990 (by decide +kernel) rfl
theorem w_991 : (Jvm.Cond.fieldLink "CranePadsModel" (218 : Nat) "CranePadsModel" "lifted" "I") ∈ GG := gg_mem 991 (by decide +kernel) rfl
theorem w_992 : (Jvm.Cond.fieldLink "CranePadsModel" (55 : Nat) "CranePadsModel" "far" "[I") ∈ GG := gg_mem 992 (by decide +kernel) rfl
theorem w_993 : (Jvm.Cond.fieldLink "CranePadsModel" (58 : Nat) "CranePadsModel" "queue" "[I") ∈ GG := gg_mem 993 (by decide +kernel) rfl
theorem w_994 : (Jvm.Cond.fieldLink "CranePadsModel" (250 : Nat) "CranePadsModel" "queued" "I") ∈ GG := gg_mem 994 (by decide +kernel) rfl
theorem w_995 : (Jvm.Cond.fieldLink "CranePadsModel" (61 : Nat) "CranePadsModel" "tape" "[I") ∈ GG := gg_mem 995 (by decide +kernel) rfl
theorem w_996 : (Jvm.Cond.fieldLink "CranePadsModel" (256 : Nat) "CranePadsModel" "taped" "I") ∈ GG := gg_mem 996 (by decide +kernel) rfl
theorem w_997 : (Jvm.Cond.fieldLink "CranePadsModel" (297 : Nat) "CranePadsModel" "steps" "I") ∈ GG := gg_mem 997 (by decide +kernel) rfl
theorem w_998 : (Jvm.Cond.fieldLink "CranePadsModel" (64 : Nat) "CranePadsModel" "step" "[I") ∈ GG := gg_mem 998 (by decide +kernel) rfl
theorem w_999 : (Jvm.Cond.fieldLink "CranePadsModel" (67 : Nat) "CranePadsModel" "to" "[I") ∈ GG := gg_mem 999 (by decide +kernel) rfl
theorem w_1000 : (Jvm.Cond.fieldLink "CranePadsModel" (70 : Nat) "CranePadsModel" "readStep" "[I") ∈ GG := gg_mem 1000 (by decide +kernel) rfl
theorem w_1001 : (Jvm.Cond.fieldLink "CranePadsModel" (73 : Nat) "CranePadsModel" "readTo" "[I") ∈ GG := gg_mem 1001 (by decide +kernel) rfl
theorem w_1002 : (Jvm.Cond.fieldLink "CranePadsModel" (259 : Nat) "CranePadsModel" "place" "I") ∈ GG := gg_mem 1002 (by decide +kernel) rfl
theorem w_1003 : (Jvm.Cond.fieldLink "CranePadsModel" (303 : Nat) "CranePadsModel" "moments" "I") ∈ GG := gg_mem 1003 (by decide +kernel) rfl
theorem w_1004 : (Jvm.Cond.fieldLink "CranePadsModel" (305 : Nat) "CranePadsModel" "firstBad" "I") ∈ GG := gg_mem 1004 (by decide +kernel) rfl
theorem w_1005 : (Jvm.Cond.fieldLink "CranePadsModel" (308 : Nat) "CranePadsModel" "badStep" "I") ∈ GG := gg_mem 1005 (by decide +kernel) rfl
theorem w_1006 : (Jvm.Cond.fieldLink "CranePadsModel" (311 : Nat) "CranePadsModel" "badWhy" "I") ∈ GG := gg_mem 1006 (by decide +kernel) rfl
theorem w_1007 : (Jvm.Cond.fieldLink "CranePadsModel" (317 : Nat) "CranePadsModel" "leastSpare" "I") ∈ GG := gg_mem 1007 (by decide +kernel) rfl
theorem w_1008 : (Jvm.Cond.fieldLink "CranePadsModel" (76 : Nat) "CranePadsModel" "isBefore" "[I") ∈ GG := gg_mem 1008 (by decide +kernel) rfl
theorem w_1009 : (Jvm.Cond.fieldLink "CranePadsModel" (79 : Nat) "CranePadsModel" "begunAt" "[I") ∈ GG := gg_mem 1009 (by decide +kernel) rfl
theorem w_1010 : (Jvm.Cond.fieldLink "CranePadsModel" (82 : Nat) "CranePadsModel" "size" "[I") ∈ GG := gg_mem 1010 (by decide +kernel) rfl
theorem w_1011 : (Jvm.Cond.fieldLink "CranePadsModel" (85 : Nat) "CranePadsModel" "cell" "[J") ∈ GG := gg_mem 1011 (by decide +kernel) rfl
theorem w_1012 : (Jvm.Cond.fieldLink "CranePadsModel" (355 : Nat) "CranePadsModel" "lifts" "I") ∈ GG := gg_mem 1012 (by decide +kernel) rfl
theorem w_1013 : (Jvm.Cond.fieldLink "CranePadsModel" (88 : Nat) "CranePadsModel" "lift" "[I") ∈ GG := gg_mem 1013 (by decide +kernel) rfl
theorem w_1101 : (Jvm.Cond.methodLink "CranePadsModel" (106 : Nat) ({ cls := "CranePadsModel", name := "isPad", desc := "(I)Z" } : Jvm.MethodName)) ∈ GG := gg_mem 1101 (by decide +kernel) rfl
theorem w_1102 : (Jvm.Cond.static ({ cls := "CranePadsModel", name := "isPad", desc := "(I)Z" } : Jvm.MethodName)) ∈ GG := gg_mem 1102 (by decide +kernel) rfl
theorem w_1103 : (Jvm.Cond.code ({ cls := "CranePadsModel", name := "isPad", desc := "(I)Z" } : Jvm.MethodName) prog_14_method_6_code (1 : Nat) (Option.some Jvm.ClassFile.FieldType.boolean)) ∈ GG := gg_mem 1103 (by decide +kernel) rfl
theorem w_1104 : (Jvm.Cond.methodLink "CranePadsModel" (95 : Nat) ({ cls := "CranePadsModel", name := "in", desc := "(III)Z" } : Jvm.MethodName)) ∈ GG := gg_mem 1104 (by decide +kernel) rfl
theorem w_1105 : (Jvm.Cond.static ({ cls := "CranePadsModel", name := "in", desc := "(III)Z" } : Jvm.MethodName)) ∈ GG := gg_mem 1105 (by decide +kernel) rfl
theorem w_1106 : (Jvm.Cond.code ({ cls := "CranePadsModel", name := "in", desc := "(III)Z" } : Jvm.MethodName) prog_14_method_2_code (3 : Nat) (Option.some Jvm.ClassFile.FieldType.boolean)) ∈ GG := gg_mem 1106 (by decide +kernel) rfl
theorem w_1107 : (Jvm.Cond.methodLink "CranePadsModel" (110 : Nat) ({ cls := "CranePadsModel", name := "stands", desc := "()Z" } : Jvm.MethodName)) ∈ GG := gg_mem 1107 (by decide +kernel) rfl
theorem w_1109 : (Jvm.Cond.instanceMethod ({ cls := "CranePadsModel", name := "stands", desc := "()Z" } : Jvm.MethodName)) ∈ GG := gg_mem 1109 (by decide +kernel) rfl
theorem w_1110 : (Jvm.Cond.code ({ cls := "CranePadsModel", name := "stands", desc := "()Z" } : Jvm.MethodName) prog_14_method_9_code (3 : Nat) (Option.some Jvm.ClassFile.FieldType.boolean)) ∈ GG := gg_mem 1110 (by decide +kernel) rfl
theorem w_1111 : (Jvm.Cond.methodLink "CranePadsModel" (99 : Nat) ({ cls := "CranePadsModel", name := "x", desc := "(I)I" } : Jvm.MethodName)) ∈ GG := gg_mem 1111 (by decide +kernel) rfl
theorem w_1113 : (Jvm.Cond.instanceMethod ({ cls := "CranePadsModel", name := "x", desc := "(I)I" } : Jvm.MethodName)) ∈ GG := gg_mem 1113 (by decide +kernel) rfl
theorem w_1114 : (Jvm.Cond.code ({ cls := "CranePadsModel", name := "x", desc := "(I)I" } : Jvm.MethodName) prog_14_method_7_code (2 : Nat) (Option.some Jvm.ClassFile.FieldType.int)) ∈ GG := gg_mem 1114 (by decide +kernel) rfl
theorem w_1115 : (Jvm.Cond.methodLink "CranePadsModel" (103 : Nat) ({ cls := "CranePadsModel", name := "y", desc := "(I)I" } : Jvm.MethodName)) ∈ GG := gg_mem 1115 (by decide +kernel) rfl
theorem w_1117 : (Jvm.Cond.instanceMethod ({ cls := "CranePadsModel", name := "y", desc := "(I)I" } : Jvm.MethodName)) ∈ GG := gg_mem 1117 (by decide +kernel) rfl
theorem w_1118 : (Jvm.Cond.code ({ cls := "CranePadsModel", name := "y", desc := "(I)I" } : Jvm.MethodName) prog_14_method_8_code (2 : Nat) (Option.some Jvm.ClassFile.FieldType.int)) ∈ GG := gg_mem 1118 (by decide +kernel) rfl
theorem w_1127 : (Jvm.Cond.methodLink "CranePadsModel" (118 : Nat) ({ cls := "CranePadsModel", name := "isPartOf", desc := "(I)Z" } : Jvm.MethodName)) ∈ GG := gg_mem 1127 (by decide +kernel) rfl
theorem w_1129 : (Jvm.Cond.instanceMethod ({ cls := "CranePadsModel", name := "isPartOf", desc := "(I)Z" } : Jvm.MethodName)) ∈ GG := gg_mem 1129 (by decide +kernel) rfl
theorem w_1130 : (Jvm.Cond.code ({ cls := "CranePadsModel", name := "isPartOf", desc := "(I)Z" } : Jvm.MethodName) prog_14_method_12_code (2 : Nat) (Option.some Jvm.ClassFile.FieldType.boolean)) ∈ GG := gg_mem 1130 (by decide +kernel) rfl
theorem w_1135 : (Jvm.Cond.methodLink "CranePadsModel" (124 : Nat) ({ cls := "CranePadsModel", name := "isWhat", desc := "(I)Z" } : Jvm.MethodName)) ∈ GG := gg_mem 1135 (by decide +kernel) rfl
theorem w_1136 : (Jvm.Cond.static ({ cls := "CranePadsModel", name := "isWhat", desc := "(I)Z" } : Jvm.MethodName)) ∈ GG := gg_mem 1136 (by decide +kernel) rfl
theorem w_1137 : (Jvm.Cond.code ({ cls := "CranePadsModel", name := "isWhat", desc := "(I)Z" } : Jvm.MethodName) prog_14_method_14_code (1 : Nat) (Option.some Jvm.ClassFile.FieldType.boolean)) ∈ GG := gg_mem 1137 (by decide +kernel) rfl
theorem w_1138 : (Jvm.Cond.methodLink "CranePadsModel" (127 : Nat) ({ cls := "CranePadsModel", name := "isFor", desc := "(II)Z" } : Jvm.MethodName)) ∈ GG := gg_mem 1138 (by decide +kernel) rfl
theorem w_1139 : (Jvm.Cond.static ({ cls := "CranePadsModel", name := "isFor", desc := "(II)Z" } : Jvm.MethodName)) ∈ GG := gg_mem 1139 (by decide +kernel) rfl
theorem w_1140 : (Jvm.Cond.code ({ cls := "CranePadsModel", name := "isFor", desc := "(II)Z" } : Jvm.MethodName) prog_14_method_16_code (2 : Nat) (Option.some Jvm.ClassFile.FieldType.boolean)) ∈ GG := gg_mem 1140 (by decide +kernel) rfl
theorem w_1141 : (Jvm.Cond.methodLink "CranePadsModel" (121 : Nat) ({ cls := "CranePadsModel", name := "most", desc := "(I)I" } : Jvm.MethodName)) ∈ GG := gg_mem 1141 (by decide +kernel) rfl
theorem w_1142 : (Jvm.Cond.static ({ cls := "CranePadsModel", name := "most", desc := "(I)I" } : Jvm.MethodName)) ∈ GG := gg_mem 1142 (by decide +kernel) rfl
theorem w_1143 : (Jvm.Cond.code ({ cls := "CranePadsModel", name := "most", desc := "(I)I" } : Jvm.MethodName) prog_14_method_15_code (1 : Nat) (Option.some Jvm.ClassFile.FieldType.int)) ∈ GG := gg_mem 1143 (by decide +kernel) rfl
theorem w_1152 : (Jvm.Cond.constantLong "CranePadsModel" (131 : Nat) (-9223372036854775808 : Int64)) ∈ GG := gg_mem 1152 (by decide +kernel) rfl
theorem w_1157 : (Jvm.Cond.methodLink "CranePadsModel" (133 : Nat) ({ cls := "CranePadsModel", name := "isChart", desc := "(I)Z" } : Jvm.MethodName)) ∈ GG := gg_mem 1157 (by decide +kernel) rfl
theorem w_1158 : (Jvm.Cond.static ({ cls := "CranePadsModel", name := "isChart", desc := "(I)Z" } : Jvm.MethodName)) ∈ GG := gg_mem 1158 (by decide +kernel) rfl
theorem w_1159 : (Jvm.Cond.code ({ cls := "CranePadsModel", name := "isChart", desc := "(I)Z" } : Jvm.MethodName) prog_14_method_20_code (1 : Nat) (Option.some Jvm.ClassFile.FieldType.boolean)) ∈ GG := gg_mem 1159 (by decide +kernel) rfl
theorem w_1160 : (Jvm.Cond.methodLink "CranePadsModel" (136 : Nat) ({ cls := "CranePadsModel", name := "isReach", desc := "(I)Z" } : Jvm.MethodName)) ∈ GG := gg_mem 1160 (by decide +kernel) rfl
theorem w_1161 : (Jvm.Cond.static ({ cls := "CranePadsModel", name := "isReach", desc := "(I)Z" } : Jvm.MethodName)) ∈ GG := gg_mem 1161 (by decide +kernel) rfl
theorem w_1162 : (Jvm.Cond.code ({ cls := "CranePadsModel", name := "isReach", desc := "(I)Z" } : Jvm.MethodName) prog_14_method_21_code (1 : Nat) (Option.some Jvm.ClassFile.FieldType.boolean)) ∈ GG := gg_mem 1162 (by decide +kernel) rfl
theorem w_1163 : (Jvm.Cond.methodLink "CranePadsModel" (139 : Nat) ({ cls := "CranePadsModel", name := "placeOf", desc := "(II)I" } : Jvm.MethodName)) ∈ GG := gg_mem 1163 (by decide +kernel) rfl
theorem w_1165 : (Jvm.Cond.instanceMethod ({ cls := "CranePadsModel", name := "placeOf", desc := "(II)I" } : Jvm.MethodName)) ∈ GG := gg_mem 1165 (by decide +kernel) rfl
theorem w_1166 : (Jvm.Cond.code ({ cls := "CranePadsModel", name := "placeOf", desc := "(II)I" } : Jvm.MethodName) prog_14_method_22_code (4 : Nat) (Option.some Jvm.ClassFile.FieldType.int)) ∈ GG := gg_mem 1166 (by decide +kernel) rfl
theorem w_1167 : (Jvm.Cond.methodLink "CranePadsModel" (143 : Nat) ({ cls := "CranePadsModel", name := "isThere", desc := "(III)Z" } : Jvm.MethodName)) ∈ GG := gg_mem 1167 (by decide +kernel) rfl
theorem w_1169 : (Jvm.Cond.instanceMethod ({ cls := "CranePadsModel", name := "isThere", desc := "(III)Z" } : Jvm.MethodName)) ∈ GG := gg_mem 1169 (by decide +kernel) rfl
theorem w_1170 : (Jvm.Cond.code ({ cls := "CranePadsModel", name := "isThere", desc := "(III)Z" } : Jvm.MethodName) prog_14_method_23_code (4 : Nat) (Option.some Jvm.ClassFile.FieldType.boolean)) ∈ GG := gg_mem 1170 (by decide +kernel) rfl
theorem w_1171 : (Jvm.Cond.methodLink "CranePadsModel" (146 : Nat) ({ cls := "CranePadsModel", name := "goes", desc := "(II)V" } : Jvm.MethodName)) ∈ GG := gg_mem 1171 (by decide +kernel) rfl
theorem w_1173 : (Jvm.Cond.instanceMethod ({ cls := "CranePadsModel", name := "goes", desc := "(II)V" } : Jvm.MethodName)) ∈ GG := gg_mem 1173 (by decide +kernel) rfl
theorem w_1174 : (Jvm.Cond.code ({ cls := "CranePadsModel", name := "goes", desc := "(II)V" } : Jvm.MethodName) prog_14_method_24_code (4 : Nat) (Option.none : Option Jvm.ClassFile.FieldType)) ∈ GG := gg_mem 1174 (by decide +kernel) rfl
theorem w_1175 : (Jvm.Cond.methodLink "CranePadsModel" (150 : Nat) ({ cls := "CranePadsModel", name := "comes", desc := "(III)V" } : Jvm.MethodName)) ∈ GG := gg_mem 1175 (by decide +kernel) rfl
theorem w_1177 : (Jvm.Cond.instanceMethod ({ cls := "CranePadsModel", name := "comes", desc := "(III)V" } : Jvm.MethodName)) ∈ GG := gg_mem 1177 (by decide +kernel) rfl
theorem w_1178 : (Jvm.Cond.code ({ cls := "CranePadsModel", name := "comes", desc := "(III)V" } : Jvm.MethodName) prog_14_method_25_code (5 : Nat) (Option.none : Option Jvm.ClassFile.FieldType)) ∈ GG := gg_mem 1178 (by decide +kernel) rfl
theorem w_1183 : (Jvm.Cond.methodLink "CranePadsModel" (154 : Nat) ({ cls := "CranePadsModel", name := "readOf", desc := "(II)I" } : Jvm.MethodName)) ∈ GG := gg_mem 1183 (by decide +kernel) rfl
theorem w_1185 : (Jvm.Cond.instanceMethod ({ cls := "CranePadsModel", name := "readOf", desc := "(II)I" } : Jvm.MethodName)) ∈ GG := gg_mem 1185 (by decide +kernel) rfl
theorem w_1186 : (Jvm.Cond.code ({ cls := "CranePadsModel", name := "readOf", desc := "(II)I" } : Jvm.MethodName) prog_14_method_27_code (5 : Nat) (Option.some Jvm.ClassFile.FieldType.int)) ∈ GG := gg_mem 1186 (by decide +kernel) rfl
theorem w_1191 : (Jvm.Cond.methodLink "CranePadsModel" (162 : Nat) ({ cls := "CranePadsModel", name := "isDirection", desc := "(I)Z" } : Jvm.MethodName)) ∈ GG := gg_mem 1191 (by decide +kernel) rfl
theorem w_1192 : (Jvm.Cond.static ({ cls := "CranePadsModel", name := "isDirection", desc := "(I)Z" } : Jvm.MethodName)) ∈ GG := gg_mem 1192 (by decide +kernel) rfl
theorem w_1193 : (Jvm.Cond.code ({ cls := "CranePadsModel", name := "isDirection", desc := "(I)Z" } : Jvm.MethodName) prog_14_method_30_code (1 : Nat) (Option.some Jvm.ClassFile.FieldType.boolean)) ∈ GG := gg_mem 1193 (by decide +kernel) rfl
theorem w_1194 : (Jvm.Cond.methodLink "CranePadsModel" (165 : Nat) ({ cls := "CranePadsModel", name := "allowedAt", desc := "(II)I" } : Jvm.MethodName)) ∈ GG := gg_mem 1194 (by decide +kernel) rfl
theorem w_1196 : (Jvm.Cond.instanceMethod ({ cls := "CranePadsModel", name := "allowedAt", desc := "(II)I" } : Jvm.MethodName)) ∈ GG := gg_mem 1196 (by decide +kernel) rfl
theorem w_1197 : (Jvm.Cond.code ({ cls := "CranePadsModel", name := "allowedAt", desc := "(II)I" } : Jvm.MethodName) prog_14_method_29_code (4 : Nat) (Option.some Jvm.ClassFile.FieldType.int)) ∈ GG := gg_mem 1197 (by decide +kernel) rfl
theorem w_1198 : (Jvm.Cond.methodLink "CranePadsModel" (157 : Nat) ({ cls := "java/lang/Math", name := "max", desc := "(II)I" } : Jvm.MethodName)) ∈ GG := gg_mem 1198 (by decide +kernel) rfl
theorem w_1203 : (Jvm.Cond.methodLink "CranePadsModel" (193 : Nat) ({ cls := "CranePadsModel", name := "looks", desc := "()V" } : Jvm.MethodName)) ∈ GG := gg_mem 1203 (by decide +kernel) rfl
theorem w_1205 : (Jvm.Cond.instanceMethod ({ cls := "CranePadsModel", name := "looks", desc := "()V" } : Jvm.MethodName)) ∈ GG := gg_mem 1205 (by decide +kernel) rfl
theorem w_1206 : (Jvm.Cond.code ({ cls := "CranePadsModel", name := "looks", desc := "()V" } : Jvm.MethodName) prog_14_method_37_code (4 : Nat) (Option.none : Option Jvm.ClassFile.FieldType)) ∈ GG := gg_mem 1206 (by decide +kernel) rfl
theorem w_1207 : (Jvm.Cond.methodLink "CranePadsModel" (174 : Nat) ({ cls := "CranePadsModel", name := "cos", desc := "(I)I" } : Jvm.MethodName)) ∈ GG := gg_mem 1207 (by decide +kernel) rfl
theorem w_1208 : (Jvm.Cond.static ({ cls := "CranePadsModel", name := "cos", desc := "(I)I" } : Jvm.MethodName)) ∈ GG := gg_mem 1208 (by decide +kernel) rfl
theorem w_1209 : (Jvm.Cond.code ({ cls := "CranePadsModel", name := "cos", desc := "(I)I" } : Jvm.MethodName) prog_14_method_34_code (1 : Nat) (Option.some Jvm.ClassFile.FieldType.int)) ∈ GG := gg_mem 1209 (by decide +kernel) rfl
theorem w_1210 : (Jvm.Cond.methodLink "CranePadsModel" (168 : Nat) ({ cls := "CranePadsModel", name := "plainCos", desc := "(I)I" } : Jvm.MethodName)) ∈ GG := gg_mem 1210 (by decide +kernel) rfl
theorem w_1211 : (Jvm.Cond.static ({ cls := "CranePadsModel", name := "plainCos", desc := "(I)I" } : Jvm.MethodName)) ∈ GG := gg_mem 1211 (by decide +kernel) rfl
theorem w_1212 : (Jvm.Cond.code ({ cls := "CranePadsModel", name := "plainCos", desc := "(I)I" } : Jvm.MethodName) prog_14_method_32_code (1 : Nat) (Option.some Jvm.ClassFile.FieldType.int)) ∈ GG := gg_mem 1212 (by decide +kernel) rfl
theorem w_1213 : (Jvm.Cond.methodLink "CranePadsModel" (171 : Nat) ({ cls := "CranePadsModel", name := "plainSin", desc := "(I)I" } : Jvm.MethodName)) ∈ GG := gg_mem 1213 (by decide +kernel) rfl
theorem w_1214 : (Jvm.Cond.static ({ cls := "CranePadsModel", name := "plainSin", desc := "(I)I" } : Jvm.MethodName)) ∈ GG := gg_mem 1214 (by decide +kernel) rfl
theorem w_1215 : (Jvm.Cond.code ({ cls := "CranePadsModel", name := "plainSin", desc := "(I)I" } : Jvm.MethodName) prog_14_method_33_code (1 : Nat) (Option.some Jvm.ClassFile.FieldType.int)) ∈ GG := gg_mem 1215 (by decide +kernel) rfl
theorem w_1216 : (Jvm.Cond.methodLink "CranePadsModel" (180 : Nat) ({ cls := "CranePadsModel", name := "sin", desc := "(I)I" } : Jvm.MethodName)) ∈ GG := gg_mem 1216 (by decide +kernel) rfl
theorem w_1217 : (Jvm.Cond.static ({ cls := "CranePadsModel", name := "sin", desc := "(I)I" } : Jvm.MethodName)) ∈ GG := gg_mem 1217 (by decide +kernel) rfl
theorem w_1218 : (Jvm.Cond.code ({ cls := "CranePadsModel", name := "sin", desc := "(I)I" } : Jvm.MethodName) prog_14_method_35_code (1 : Nat) (Option.some Jvm.ClassFile.FieldType.int)) ∈ GG := gg_mem 1218 (by decide +kernel) rfl
theorem w_1219 : (Jvm.Cond.methodLink "CranePadsModel" (183 : Nat) ({ cls := "CranePadsModel", name := "lays", desc := "(IJJ)V" } : Jvm.MethodName)) ∈ GG := gg_mem 1219 (by decide +kernel) rfl
theorem w_1221 : (Jvm.Cond.instanceMethod ({ cls := "CranePadsModel", name := "lays", desc := "(IJJ)V" } : Jvm.MethodName)) ∈ GG := gg_mem 1221 (by decide +kernel) rfl
theorem w_1222 : (Jvm.Cond.code ({ cls := "CranePadsModel", name := "lays", desc := "(IJJ)V" } : Jvm.MethodName) prog_14_method_36_code (6 : Nat) (Option.none : Option Jvm.ClassFile.FieldType)) ∈ GG := gg_mem 1222 (by decide +kernel) rfl
theorem w_1223 : (Jvm.Cond.methodLink "CranePadsModel" (196 : Nat) ({ cls := "CranePadsModel", name := "sum", desc := "(I)J" } : Jvm.MethodName)) ∈ GG := gg_mem 1223 (by decide +kernel) rfl
theorem w_1225 : (Jvm.Cond.instanceMethod ({ cls := "CranePadsModel", name := "sum", desc := "(I)J" } : Jvm.MethodName)) ∈ GG := gg_mem 1225 (by decide +kernel) rfl
theorem w_1226 : (Jvm.Cond.code ({ cls := "CranePadsModel", name := "sum", desc := "(I)J" } : Jvm.MethodName) prog_14_method_38_code (5 : Nat) (Option.some Jvm.ClassFile.FieldType.long)) ∈ GG := gg_mem 1226 (by decide +kernel) rfl
theorem w_1231 : (Jvm.Cond.methodLink "CranePadsModel" (200 : Nat) ({ cls := "CranePadsModel", name := "isPart", desc := "(I)Z" } : Jvm.MethodName)) ∈ GG := gg_mem 1231 (by decide +kernel) rfl
theorem w_1232 : (Jvm.Cond.static ({ cls := "CranePadsModel", name := "isPart", desc := "(I)Z" } : Jvm.MethodName)) ∈ GG := gg_mem 1232 (by decide +kernel) rfl
theorem w_1233 : (Jvm.Cond.code ({ cls := "CranePadsModel", name := "isPart", desc := "(I)Z" } : Jvm.MethodName) prog_14_method_5_code (1 : Nat) (Option.some Jvm.ClassFile.FieldType.boolean)) ∈ GG := gg_mem 1233 (by decide +kernel) rfl
theorem w_1234 : (Jvm.Cond.constantLong "CranePadsModel" (187 : Nat) (65 : Int64)) ∈ GG := gg_mem 1234 (by decide +kernel) rfl
theorem w_1235 : (Jvm.Cond.methodLink "CranePadsModel" (203 : Nat) ({ cls := "CranePadsModel", name := "part", desc := "(JJI)J" } : Jvm.MethodName)) ∈ GG := gg_mem 1235 (by decide +kernel) rfl
theorem w_1236 : (Jvm.Cond.static ({ cls := "CranePadsModel", name := "part", desc := "(JJI)J" } : Jvm.MethodName)) ∈ GG := gg_mem 1236 (by decide +kernel) rfl
theorem w_1237 : (Jvm.Cond.code ({ cls := "CranePadsModel", name := "part", desc := "(JJI)J" } : Jvm.MethodName) prog_14_method_4_code (5 : Nat) (Option.some Jvm.ClassFile.FieldType.long)) ∈ GG := gg_mem 1237 (by decide +kernel) rfl
theorem w_1238 : (Jvm.Cond.methodLink "CranePadsModel" (91 : Nat) ({ cls := "CranePadsModel", name := "divisor", desc := "(JJ)J" } : Jvm.MethodName)) ∈ GG := gg_mem 1238 (by decide +kernel) rfl
theorem w_1239 : (Jvm.Cond.static ({ cls := "CranePadsModel", name := "divisor", desc := "(JJ)J" } : Jvm.MethodName)) ∈ GG := gg_mem 1239 (by decide +kernel) rfl
theorem w_1240 : (Jvm.Cond.code ({ cls := "CranePadsModel", name := "divisor", desc := "(JJ)J" } : Jvm.MethodName) prog_14_method_3_code (10 : Nat) (Option.some Jvm.ClassFile.FieldType.long)) ∈ GG := gg_mem 1240 (by decide +kernel) rfl
theorem w_1245 : (Jvm.Cond.methodLink "CranePadsModel" (207 : Nat) ({ cls := "CranePadsModel", name := "moments", desc := "(II)J" } : Jvm.MethodName)) ∈ GG := gg_mem 1245 (by decide +kernel) rfl
theorem w_1247 : (Jvm.Cond.instanceMethod ({ cls := "CranePadsModel", name := "moments", desc := "(II)J" } : Jvm.MethodName)) ∈ GG := gg_mem 1247 (by decide +kernel) rfl
theorem w_1248 : (Jvm.Cond.code ({ cls := "CranePadsModel", name := "moments", desc := "(II)J" } : Jvm.MethodName) prog_14_method_40_code (8 : Nat) (Option.some Jvm.ClassFile.FieldType.long)) ∈ GG := gg_mem 1248 (by decide +kernel) rfl
theorem w_1249 : (Jvm.Cond.methodLink "CranePadsModel" (189 : Nat) ({ cls := "CranePadsModel", name := "momentOf", desc := "(II)J" } : Jvm.MethodName)) ∈ GG := gg_mem 1249 (by decide +kernel) rfl
theorem w_1251 : (Jvm.Cond.instanceMethod ({ cls := "CranePadsModel", name := "momentOf", desc := "(II)J" } : Jvm.MethodName)) ∈ GG := gg_mem 1251 (by decide +kernel) rfl
theorem w_1252 : (Jvm.Cond.code ({ cls := "CranePadsModel", name := "momentOf", desc := "(II)J" } : Jvm.MethodName) prog_14_method_39_code (7 : Nat) (Option.some Jvm.ClassFile.FieldType.long)) ∈ GG := gg_mem 1252 (by decide +kernel) rfl
theorem w_1261 : (Jvm.Cond.methodLink "CranePadsModel" (232 : Nat) ({ cls := "CranePadsModel", name := "pushes", desc := "()I" } : Jvm.MethodName)) ∈ GG := gg_mem 1261 (by decide +kernel) rfl
theorem w_1263 : (Jvm.Cond.instanceMethod ({ cls := "CranePadsModel", name := "pushes", desc := "()I" } : Jvm.MethodName)) ∈ GG := gg_mem 1263 (by decide +kernel) rfl
theorem w_1264 : (Jvm.Cond.code ({ cls := "CranePadsModel", name := "pushes", desc := "()I" } : Jvm.MethodName) prog_14_method_49_code (1 : Nat) (Option.some Jvm.ClassFile.FieldType.int)) ∈ GG := gg_mem 1264 (by decide +kernel) rfl
theorem w_1265 : (Jvm.Cond.methodLink "CranePadsModel" (221 : Nat) ({ cls := "CranePadsModel", name := "tips", desc := "()Z" } : Jvm.MethodName)) ∈ GG := gg_mem 1265 (by decide +kernel) rfl
theorem w_1267 : (Jvm.Cond.instanceMethod ({ cls := "CranePadsModel", name := "tips", desc := "()Z" } : Jvm.MethodName)) ∈ GG := gg_mem 1267 (by decide +kernel) rfl
theorem w_1268 : (Jvm.Cond.code ({ cls := "CranePadsModel", name := "tips", desc := "()Z" } : Jvm.MethodName) prog_14_method_45_code (2 : Nat) (Option.some Jvm.ClassFile.FieldType.boolean)) ∈ GG := gg_mem 1268 (by decide +kernel) rfl
theorem w_1269 : (Jvm.Cond.methodLink "CranePadsModel" (224 : Nat) ({ cls := "CranePadsModel", name := "plane", desc := "(I)V" } : Jvm.MethodName)) ∈ GG := gg_mem 1269 (by decide +kernel) rfl
theorem w_1271 : (Jvm.Cond.instanceMethod ({ cls := "CranePadsModel", name := "plane", desc := "(I)V" } : Jvm.MethodName)) ∈ GG := gg_mem 1271 (by decide +kernel) rfl
theorem w_1272 : (Jvm.Cond.code ({ cls := "CranePadsModel", name := "plane", desc := "(I)V" } : Jvm.MethodName) prog_14_method_47_code (29 : Nat) (Option.none : Option Jvm.ClassFile.FieldType)) ∈ GG := gg_mem 1272 (by decide +kernel) rfl
theorem w_1273 : (Jvm.Cond.methodLink "CranePadsModel" (210 : Nat) ({ cls := "CranePadsModel", name := "determinant", desc := "(JJJJJJJJJ)J" } : Jvm.MethodName)) ∈ GG := gg_mem 1273 (by decide +kernel) rfl
theorem w_1274 : (Jvm.Cond.static ({ cls := "CranePadsModel", name := "determinant", desc := "(JJJJJJJJJ)J" } : Jvm.MethodName)) ∈ GG := gg_mem 1274 (by decide +kernel) rfl
theorem w_1275 : (Jvm.Cond.code ({ cls := "CranePadsModel", name := "determinant", desc := "(JJJJJJJJJ)J" } : Jvm.MethodName) prog_14_method_46_code (18 : Nat) (Option.some Jvm.ClassFile.FieldType.long)) ∈ GG := gg_mem 1275 (by decide +kernel) rfl
theorem w_1276 : (Jvm.Cond.methodLink "CranePadsModel" (228 : Nat) ({ cls := "CranePadsModel", name := "least", desc := "()I" } : Jvm.MethodName)) ∈ GG := gg_mem 1276 (by decide +kernel) rfl
theorem w_1278 : (Jvm.Cond.instanceMethod ({ cls := "CranePadsModel", name := "least", desc := "()I" } : Jvm.MethodName)) ∈ GG := gg_mem 1278 (by decide +kernel) rfl
theorem w_1279 : (Jvm.Cond.code ({ cls := "CranePadsModel", name := "least", desc := "()I" } : Jvm.MethodName) prog_14_method_48_code (3 : Nat) (Option.some Jvm.ClassFile.FieldType.int)) ∈ GG := gg_mem 1279 (by decide +kernel) rfl
theorem w_1292 : (Jvm.Cond.methodLink "CranePadsModel" (241 : Nat) ({ cls := "CranePadsModel", name := "whyNow", desc := "()I" } : Jvm.MethodName)) ∈ GG := gg_mem 1292 (by decide +kernel) rfl
theorem w_1294 : (Jvm.Cond.instanceMethod ({ cls := "CranePadsModel", name := "whyNow", desc := "()I" } : Jvm.MethodName)) ∈ GG := gg_mem 1294 (by decide +kernel) rfl
theorem w_1295 : (Jvm.Cond.code ({ cls := "CranePadsModel", name := "whyNow", desc := "()I" } : Jvm.MethodName) prog_14_method_52_code (2 : Nat) (Option.some Jvm.ClassFile.FieldType.int)) ∈ GG := gg_mem 1295 (by decide +kernel) rfl
theorem w_1296 : (Jvm.Cond.methodLink "CranePadsModel" (235 : Nat) ({ cls := "CranePadsModel", name := "isAboveLimit", desc := "()Z" } : Jvm.MethodName)) ∈ GG := gg_mem 1296 (by decide +kernel) rfl
theorem w_1298 : (Jvm.Cond.instanceMethod ({ cls := "CranePadsModel", name := "isAboveLimit", desc := "()Z" } : Jvm.MethodName)) ∈ GG := gg_mem 1298 (by decide +kernel) rfl
theorem w_1299 : (Jvm.Cond.code ({ cls := "CranePadsModel", name := "isAboveLimit", desc := "()Z" } : Jvm.MethodName) prog_14_method_50_code (2 : Nat) (Option.some Jvm.ClassFile.FieldType.boolean)) ∈ GG := gg_mem 1299 (by decide +kernel) rfl
theorem w_1300 : (Jvm.Cond.methodLink "CranePadsModel" (238 : Nat) ({ cls := "CranePadsModel", name := "spareNow", desc := "()I" } : Jvm.MethodName)) ∈ GG := gg_mem 1300 (by decide +kernel) rfl
theorem w_1302 : (Jvm.Cond.instanceMethod ({ cls := "CranePadsModel", name := "spareNow", desc := "()I" } : Jvm.MethodName)) ∈ GG := gg_mem 1302 (by decide +kernel) rfl
theorem w_1303 : (Jvm.Cond.code ({ cls := "CranePadsModel", name := "spareNow", desc := "()I" } : Jvm.MethodName) prog_14_method_51_code (1 : Nat) (Option.some Jvm.ClassFile.FieldType.int)) ∈ GG := gg_mem 1303 (by decide +kernel) rfl
theorem w_1308 : (Jvm.Cond.methodLink "CranePadsModel" (244 : Nat) ({ cls := "CranePadsModel", name := "may", desc := "()Z" } : Jvm.MethodName)) ∈ GG := gg_mem 1308 (by decide +kernel) rfl
theorem w_1310 : (Jvm.Cond.instanceMethod ({ cls := "CranePadsModel", name := "may", desc := "()Z" } : Jvm.MethodName)) ∈ GG := gg_mem 1310 (by decide +kernel) rfl
theorem w_1311 : (Jvm.Cond.code ({ cls := "CranePadsModel", name := "may", desc := "()Z" } : Jvm.MethodName) prog_14_method_53_code (1 : Nat) (Option.some Jvm.ClassFile.FieldType.boolean)) ∈ GG := gg_mem 1311 (by decide +kernel) rfl
theorem w_1316 : (Jvm.Cond.methodLink "CranePadsModel" (247 : Nat) ({ cls := "CranePadsModel", name := "mayAt", desc := "(II)Z" } : Jvm.MethodName)) ∈ GG := gg_mem 1316 (by decide +kernel) rfl
theorem w_1318 : (Jvm.Cond.instanceMethod ({ cls := "CranePadsModel", name := "mayAt", desc := "(II)Z" } : Jvm.MethodName)) ∈ GG := gg_mem 1318 (by decide +kernel) rfl
theorem w_1319 : (Jvm.Cond.code ({ cls := "CranePadsModel", name := "mayAt", desc := "(II)Z" } : Jvm.MethodName) prog_14_method_59_code (6 : Nat) (Option.some Jvm.ClassFile.FieldType.boolean)) ∈ GG := gg_mem 1319 (by decide +kernel) rfl
theorem w_1328 : (Jvm.Cond.methodLink "CranePadsModel" (253 : Nat) ({ cls := "CranePadsModel", name := "comesTo", desc := "(III)V" } : Jvm.MethodName)) ∈ GG := gg_mem 1328 (by decide +kernel) rfl
theorem w_1330 : (Jvm.Cond.instanceMethod ({ cls := "CranePadsModel", name := "comesTo", desc := "(III)V" } : Jvm.MethodName)) ∈ GG := gg_mem 1330 (by decide +kernel) rfl
theorem w_1331 : (Jvm.Cond.code ({ cls := "CranePadsModel", name := "comesTo", desc := "(III)V" } : Jvm.MethodName) prog_14_method_62_code (5 : Nat) (Option.none : Option Jvm.ClassFile.FieldType)) ∈ GG := gg_mem 1331 (by decide +kernel) rfl
theorem w_1348 : (Jvm.Cond.methodLink "CranePadsModel" (300 : Nat) ({ cls := "CranePadsModel", name := "reads", desc := "()I" } : Jvm.MethodName)) ∈ GG := gg_mem 1348 (by decide +kernel) rfl
theorem w_1350 : (Jvm.Cond.instanceMethod ({ cls := "CranePadsModel", name := "reads", desc := "()I" } : Jvm.MethodName)) ∈ GG := gg_mem 1350 (by decide +kernel) rfl
theorem w_1351 : (Jvm.Cond.code ({ cls := "CranePadsModel", name := "reads", desc := "()I" } : Jvm.MethodName) prog_14_method_72_code (4 : Nat) (Option.some Jvm.ClassFile.FieldType.int)) ∈ GG := gg_mem 1351 (by decide +kernel) rfl
theorem w_1352 : (Jvm.Cond.methodLink "CranePadsModel" (295 : Nat) ({ cls := "CranePadsModel", name := "readStep", desc := "(I)I" } : Jvm.MethodName)) ∈ GG := gg_mem 1352 (by decide +kernel) rfl
theorem w_1354 : (Jvm.Cond.instanceMethod ({ cls := "CranePadsModel", name := "readStep", desc := "(I)I" } : Jvm.MethodName)) ∈ GG := gg_mem 1354 (by decide +kernel) rfl
theorem w_1355 : (Jvm.Cond.code ({ cls := "CranePadsModel", name := "readStep", desc := "(I)I" } : Jvm.MethodName) prog_14_method_71_code (6 : Nat) (Option.some Jvm.ClassFile.FieldType.int)) ∈ GG := gg_mem 1355 (by decide +kernel) rfl
theorem w_1356 : (Jvm.Cond.methodLink "CranePadsModel" (281 : Nat) ({ cls := "CranePadsModel", name := "here", desc := "()I" } : Jvm.MethodName)) ∈ GG := gg_mem 1356 (by decide +kernel) rfl
theorem w_1358 : (Jvm.Cond.instanceMethod ({ cls := "CranePadsModel", name := "here", desc := "()I" } : Jvm.MethodName)) ∈ GG := gg_mem 1358 (by decide +kernel) rfl
theorem w_1359 : (Jvm.Cond.code ({ cls := "CranePadsModel", name := "here", desc := "()I" } : Jvm.MethodName) prog_14_method_67_code (1 : Nat) (Option.some Jvm.ClassFile.FieldType.int)) ∈ GG := gg_mem 1359 (by decide +kernel) rfl
theorem w_1360 : (Jvm.Cond.methodLink "CranePadsModel" (284 : Nat) ({ cls := "CranePadsModel", name := "word", desc := "(I)Ljava/lang/String;" } : Jvm.MethodName)) ∈ GG := gg_mem 1360 (by decide +kernel) rfl
theorem w_1361 : (Jvm.Cond.static ({ cls := "CranePadsModel", name := "word", desc := "(I)Ljava/lang/String;" } : Jvm.MethodName)) ∈ GG := gg_mem 1361 (by decide +kernel) rfl
theorem w_1362 : (Jvm.Cond.code ({ cls := "CranePadsModel", name := "word", desc := "(I)Ljava/lang/String;" } : Jvm.MethodName) prog_14_method_68_code (1 : Nat) (Option.some (Jvm.ClassFile.FieldType.object "java/lang/String"))) ∈ GG := gg_mem 1362 (by decide +kernel) rfl
theorem w_1368 : (Jvm.Cond.methodLink "CranePadsModel" (288 : Nat) ({ cls := "CranePadsModel", name := "isWord", desc := "(ILjava/lang/String;)Z" } : Jvm.MethodName)) ∈ GG := gg_mem 1368 (by decide +kernel) rfl
theorem w_1370 : (Jvm.Cond.instanceMethod ({ cls := "CranePadsModel", name := "isWord", desc := "(ILjava/lang/String;)Z" } : Jvm.MethodName)) ∈ GG := gg_mem 1370 (by decide +kernel) rfl
theorem w_1371 : (Jvm.Cond.code ({ cls := "CranePadsModel", name := "isWord", desc := "(ILjava/lang/String;)Z" } : Jvm.MethodName) prog_14_method_69_code (4 : Nat) (Option.some Jvm.ClassFile.FieldType.boolean)) ∈ GG := gg_mem 1371 (by decide +kernel) rfl
theorem w_1372 : (Jvm.Cond.methodLink "CranePadsModel" (272 : Nat) ({ cls := "java/lang/String", name := "length", desc := "()I" } : Jvm.MethodName)) ∈ GG := gg_mem 1372 (by decide +kernel) rfl
theorem w_1373 : (Jvm.Cond.methodLink "CranePadsModel" (277 : Nat) ({ cls := "java/lang/String", name := "charAt", desc := "(I)C" } : Jvm.MethodName)) ∈ GG := gg_mem 1373 (by decide +kernel) rfl
theorem w_1374 : (Jvm.Cond.methodLink "CranePadsModel" (292 : Nat) ({ cls := "CranePadsModel", name := "whatOf", desc := "(I)I" } : Jvm.MethodName)) ∈ GG := gg_mem 1374 (by decide +kernel) rfl
theorem w_1375 : (Jvm.Cond.static ({ cls := "CranePadsModel", name := "whatOf", desc := "(I)I" } : Jvm.MethodName)) ∈ GG := gg_mem 1375 (by decide +kernel) rfl
theorem w_1376 : (Jvm.Cond.code ({ cls := "CranePadsModel", name := "whatOf", desc := "(I)I" } : Jvm.MethodName) prog_14_method_70_code (1 : Nat) (Option.some Jvm.ClassFile.FieldType.int)) ∈ GG := gg_mem 1376 (by decide +kernel) rfl
theorem w_1381 : (Jvm.Cond.methodLink "CranePadsModel" (344 : Nat) ({ cls := "CranePadsModel", name := "checks", desc := "()V" } : Jvm.MethodName)) ∈ GG := gg_mem 1381 (by decide +kernel) rfl
theorem w_1383 : (Jvm.Cond.instanceMethod ({ cls := "CranePadsModel", name := "checks", desc := "()V" } : Jvm.MethodName)) ∈ GG := gg_mem 1383 (by decide +kernel) rfl
theorem w_1384 : (Jvm.Cond.code ({ cls := "CranePadsModel", name := "checks", desc := "()V" } : Jvm.MethodName) prog_14_method_82_code (1 : Nat) (Option.none : Option Jvm.ClassFile.FieldType)) ∈ GG := gg_mem 1384 (by decide +kernel) rfl
theorem w_1385 : (Jvm.Cond.methodLink "CranePadsModel" (335 : Nat) ({ cls := "CranePadsModel", name := "remembers", desc := "()V" } : Jvm.MethodName)) ∈ GG := gg_mem 1385 (by decide +kernel) rfl
theorem w_1387 : (Jvm.Cond.instanceMethod ({ cls := "CranePadsModel", name := "remembers", desc := "()V" } : Jvm.MethodName)) ∈ GG := gg_mem 1387 (by decide +kernel) rfl
theorem w_1388 : (Jvm.Cond.code ({ cls := "CranePadsModel", name := "remembers", desc := "()V" } : Jvm.MethodName) prog_14_method_79_code (2 : Nat) (Option.none : Option Jvm.ClassFile.FieldType)) ∈ GG := gg_mem 1388 (by decide +kernel) rfl
theorem w_1389 : (Jvm.Cond.methodLink "CranePadsModel" (338 : Nat) ({ cls := "CranePadsModel", name := "goesAll", desc := "()V" } : Jvm.MethodName)) ∈ GG := gg_mem 1389 (by decide +kernel) rfl
theorem w_1391 : (Jvm.Cond.instanceMethod ({ cls := "CranePadsModel", name := "goesAll", desc := "()V" } : Jvm.MethodName)) ∈ GG := gg_mem 1391 (by decide +kernel) rfl
theorem w_1392 : (Jvm.Cond.code ({ cls := "CranePadsModel", name := "goesAll", desc := "()V" } : Jvm.MethodName) prog_14_method_81_code (2 : Nat) (Option.none : Option Jvm.ClassFile.FieldType)) ∈ GG := gg_mem 1392 (by decide +kernel) rfl
theorem w_1393 : (Jvm.Cond.methodLink "CranePadsModel" (329 : Nat) ({ cls := "CranePadsModel", name := "begins", desc := "()V" } : Jvm.MethodName)) ∈ GG := gg_mem 1393 (by decide +kernel) rfl
theorem w_1395 : (Jvm.Cond.instanceMethod ({ cls := "CranePadsModel", name := "begins", desc := "()V" } : Jvm.MethodName)) ∈ GG := gg_mem 1395 (by decide +kernel) rfl
theorem w_1396 : (Jvm.Cond.code ({ cls := "CranePadsModel", name := "begins", desc := "()V" } : Jvm.MethodName) prog_14_method_74_code (1 : Nat) (Option.none : Option Jvm.ClassFile.FieldType)) ∈ GG := gg_mem 1396 (by decide +kernel) rfl
theorem w_1397 : (Jvm.Cond.methodLink "CranePadsModel" (314 : Nat) ({ cls := "CranePadsModel", name := "looksAt", desc := "(I)V" } : Jvm.MethodName)) ∈ GG := gg_mem 1397 (by decide +kernel) rfl
theorem w_1399 : (Jvm.Cond.instanceMethod ({ cls := "CranePadsModel", name := "looksAt", desc := "(I)V" } : Jvm.MethodName)) ∈ GG := gg_mem 1399 (by decide +kernel) rfl
theorem w_1400 : (Jvm.Cond.code ({ cls := "CranePadsModel", name := "looksAt", desc := "(I)V" } : Jvm.MethodName) prog_14_method_75_code (3 : Nat) (Option.none : Option Jvm.ClassFile.FieldType)) ∈ GG := gg_mem 1400 (by decide +kernel) rfl
theorem w_1401 : (Jvm.Cond.methodLink "CranePadsModel" (320 : Nat) ({ cls := "java/lang/Math", name := "min", desc := "(II)I" } : Jvm.MethodName)) ∈ GG := gg_mem 1401 (by decide +kernel) rfl
theorem w_1402 : (Jvm.Cond.methodLink "CranePadsModel" (332 : Nat) ({ cls := "CranePadsModel", name := "goesStep", desc := "(I)V" } : Jvm.MethodName)) ∈ GG := gg_mem 1402 (by decide +kernel) rfl
theorem w_1404 : (Jvm.Cond.instanceMethod ({ cls := "CranePadsModel", name := "goesStep", desc := "(I)V" } : Jvm.MethodName)) ∈ GG := gg_mem 1404 (by decide +kernel) rfl
theorem w_1405 : (Jvm.Cond.code ({ cls := "CranePadsModel", name := "goesStep", desc := "(I)V" } : Jvm.MethodName) prog_14_method_78_code (2 : Nat) (Option.none : Option Jvm.ClassFile.FieldType)) ∈ GG := gg_mem 1405 (by decide +kernel) rfl
theorem w_1406 : (Jvm.Cond.methodLink "CranePadsModel" (323 : Nat) ({ cls := "CranePadsModel", name := "slews", desc := "(II)V" } : Jvm.MethodName)) ∈ GG := gg_mem 1406 (by decide +kernel) rfl
theorem w_1408 : (Jvm.Cond.instanceMethod ({ cls := "CranePadsModel", name := "slews", desc := "(II)V" } : Jvm.MethodName)) ∈ GG := gg_mem 1408 (by decide +kernel) rfl
theorem w_1409 : (Jvm.Cond.code ({ cls := "CranePadsModel", name := "slews", desc := "(II)V" } : Jvm.MethodName) prog_14_method_76_code (5 : Nat) (Option.none : Option Jvm.ClassFile.FieldType)) ∈ GG := gg_mem 1409 (by decide +kernel) rfl
theorem w_1410 : (Jvm.Cond.methodLink "CranePadsModel" (326 : Nat) ({ cls := "CranePadsModel", name := "reaches", desc := "(II)V" } : Jvm.MethodName)) ∈ GG := gg_mem 1410 (by decide +kernel) rfl
theorem w_1412 : (Jvm.Cond.instanceMethod ({ cls := "CranePadsModel", name := "reaches", desc := "(II)V" } : Jvm.MethodName)) ∈ GG := gg_mem 1412 (by decide +kernel) rfl
theorem w_1413 : (Jvm.Cond.code ({ cls := "CranePadsModel", name := "reaches", desc := "(II)V" } : Jvm.MethodName) prog_14_method_77_code (3 : Nat) (Option.none : Option Jvm.ClassFile.FieldType)) ∈ GG := gg_mem 1413 (by decide +kernel) rfl
theorem w_1414 : (Jvm.Cond.methodLink "CranePadsModel" (341 : Nat) ({ cls := "CranePadsModel", name := "returns", desc := "()V" } : Jvm.MethodName)) ∈ GG := gg_mem 1414 (by decide +kernel) rfl
theorem w_1416 : (Jvm.Cond.instanceMethod ({ cls := "CranePadsModel", name := "returns", desc := "()V" } : Jvm.MethodName)) ∈ GG := gg_mem 1416 (by decide +kernel) rfl
theorem w_1417 : (Jvm.Cond.code ({ cls := "CranePadsModel", name := "returns", desc := "()V" } : Jvm.MethodName) prog_14_method_80_code (2 : Nat) (Option.none : Option Jvm.ClassFile.FieldType)) ∈ GG := gg_mem 1417 (by decide +kernel) rfl
theorem w_1434 : (Jvm.Cond.methodLink "CranePadsModel" (347 : Nat) ({ cls := "CranePadsModel", name := "isList", desc := "(I)Z" } : Jvm.MethodName)) ∈ GG := gg_mem 1434 (by decide +kernel) rfl
theorem w_1435 : (Jvm.Cond.static ({ cls := "CranePadsModel", name := "isList", desc := "(I)Z" } : Jvm.MethodName)) ∈ GG := gg_mem 1435 (by decide +kernel) rfl
theorem w_1436 : (Jvm.Cond.code ({ cls := "CranePadsModel", name := "isList", desc := "(I)Z" } : Jvm.MethodName) prog_14_method_87_code (1 : Nat) (Option.some Jvm.ClassFile.FieldType.boolean)) ∈ GG := gg_mem 1436 (by decide +kernel) rfl
theorem w_1437 : (Jvm.Cond.constantLong "CranePadsModel" (350 : Nat) (4 : Int64)) ∈ GG := gg_mem 1437 (by decide +kernel) rfl
theorem w_1438 : (Jvm.Cond.methodLink "CranePadsModel" (352 : Nat) ({ cls := "CranePadsModel", name := "isSeen", desc := "(I)Z" } : Jvm.MethodName)) ∈ GG := gg_mem 1438 (by decide +kernel) rfl
theorem w_1440 : (Jvm.Cond.instanceMethod ({ cls := "CranePadsModel", name := "isSeen", desc := "(I)Z" } : Jvm.MethodName)) ∈ GG := gg_mem 1440 (by decide +kernel) rfl
theorem w_1441 : (Jvm.Cond.code ({ cls := "CranePadsModel", name := "isSeen", desc := "(I)Z" } : Jvm.MethodName) prog_14_method_88_code (3 : Nat) (Option.some Jvm.ClassFile.FieldType.boolean)) ∈ GG := gg_mem 1441 (by decide +kernel) rfl
theorem w_1466 : (Jvm.Cond.methodLink "CranePadsModel" (358 : Nat) ({ cls := "CranePadsModel", name := "mayLift", desc := "(I)Z" } : Jvm.MethodName)) ∈ GG := gg_mem 1466 (by decide +kernel) rfl
theorem w_1468 : (Jvm.Cond.instanceMethod ({ cls := "CranePadsModel", name := "mayLift", desc := "(I)Z" } : Jvm.MethodName)) ∈ GG := gg_mem 1468 (by decide +kernel) rfl
theorem w_1469 : (Jvm.Cond.code ({ cls := "CranePadsModel", name := "mayLift", desc := "(I)Z" } : Jvm.MethodName) prog_14_method_95_code (4 : Nat) (Option.some Jvm.ClassFile.FieldType.boolean)) ∈ GG := gg_mem 1469 (by decide +kernel) rfl
theorem w_1487 : (Jvm.Cond.fieldLink "java/lang/String" (9 : Nat) "java/lang/String" "value" "[B") ∈ GG := gg_mem 1487 (by decide +kernel) rfl
theorem w_1488 : (Jvm.Cond.fieldLink "java/lang/String" (15 : Nat) "java/lang/String" "coder" "B") ∈ GG := gg_mem 1488 (by decide +kernel) rfl
theorem fl_RX0_21 : FW RX0 21 0 3 := ⟨RX0, TX0, 4, cp0, Nat.le_of_ble_eq_true rfl, w_392, rfl, rfl⟩
theorem fl_RX0_9 : FL RX0 9 0 0 := ⟨RX0, TX0, 4, cp0, Nat.le_of_ble_eq_true rfl, w_386, rfl⟩
theorem fl_RX0_15 : FL RX0 15 0 1 := ⟨RX0, TX0, 4, cp0, Nat.le_of_ble_eq_true rfl, w_388, rfl⟩
theorem fl_RX0_18 : FL RX0 18 0 2 := ⟨RX0, TX0, 4, cp0, Nat.le_of_ble_eq_true rfl, w_390, rfl⟩
theorem fl_RX1_9 : FL RX1 9 1 0 := ⟨RX1, TX1, 2, cp1, Nat.le_of_ble_eq_true rfl, w_218, rfl⟩
theorem fl_RX1_21 : FW RX1 21 1 1 := ⟨RX1, TX1, 2, cp1, Nat.le_of_ble_eq_true rfl, w_219, rfl, rfl⟩
theorem fl_RX4_9 : FL RX4 9 4 0 := ⟨RX4, TX4, 11, cp4, Nat.le_of_ble_eq_true rfl, w_108, rfl⟩
theorem fl_RX4_15 : FL RX4 15 4 1 := ⟨RX4, TX4, 11, cp4, Nat.le_of_ble_eq_true rfl, w_111, rfl⟩
theorem fl_RX4_18 : FL RX4 18 4 2 := ⟨RX4, TX4, 11, cp4, Nat.le_of_ble_eq_true rfl, w_114, rfl⟩
theorem fl_RX4_30 : FW RX4 30 4 3 := ⟨RX4, TX4, 11, cp4, Nat.le_of_ble_eq_true rfl, w_119, rfl, rfl⟩
theorem fl_RX4_34 : FW RX4 34 4 4 := ⟨RX4, TX4, 11, cp4, Nat.le_of_ble_eq_true rfl, w_120, rfl, rfl⟩
theorem fl_RX4_38 : FW RX4 38 4 5 := ⟨RX4, TX4, 11, cp4, Nat.le_of_ble_eq_true rfl, w_122, rfl, rfl⟩
theorem fl_RX4_41 : FW RX4 41 4 6 := ⟨RX4, TX4, 11, cp4, Nat.le_of_ble_eq_true rfl, w_124, rfl, rfl⟩
theorem fl_RX4_44 : FW RX4 44 4 7 := ⟨RX4, TX4, 11, cp4, Nat.le_of_ble_eq_true rfl, w_126, rfl, rfl⟩
theorem fl_RX4_47 : FW RX4 47 4 8 := ⟨RX4, TX4, 11, cp4, Nat.le_of_ble_eq_true rfl, w_128, rfl, rfl⟩
theorem fl_RX4_50 : FW RX4 50 4 9 := ⟨RX4, TX4, 11, cp4, Nat.le_of_ble_eq_true rfl, w_130, rfl, rfl⟩
theorem fl_RX4_53 : FW RX4 53 4 10 := ⟨RX4, TX4, 11, cp4, Nat.le_of_ble_eq_true rfl, w_132, rfl, rfl⟩
theorem fl_RX5_9 : FL RX5 9 5 0 := ⟨RX5, TX5, 10, cp5, Nat.le_of_ble_eq_true rfl, w_164, rfl⟩
theorem fl_RX5_15 : FL RX5 15 5 1 := ⟨RX5, TX5, 10, cp5, Nat.le_of_ble_eq_true rfl, w_167, rfl⟩
theorem fl_RX5_18 : FL RX5 18 5 2 := ⟨RX5, TX5, 10, cp5, Nat.le_of_ble_eq_true rfl, w_169, rfl⟩
theorem fl_RX5_21 : FL RX5 21 5 3 := ⟨RX5, TX5, 10, cp5, Nat.le_of_ble_eq_true rfl, w_171, rfl⟩
theorem fl_RX5_25 : FW RX5 25 5 4 := ⟨RX5, TX5, 10, cp5, Nat.le_of_ble_eq_true rfl, w_173, rfl, rfl⟩
theorem fl_RX5_33 : FW RX5 33 5 5 := ⟨RX5, TX5, 10, cp5, Nat.le_of_ble_eq_true rfl, w_177, rfl, rfl⟩
theorem fl_RX5_42 : FW RX5 42 5 6 := ⟨RX5, TX5, 10, cp5, Nat.le_of_ble_eq_true rfl, w_178, rfl, rfl⟩
theorem fl_RX5_45 : FW RX5 45 5 7 := ⟨RX5, TX5, 10, cp5, Nat.le_of_ble_eq_true rfl, w_180, rfl, rfl⟩
theorem fl_RX5_36 : FW RX5 36 5 8 := ⟨RX5, TX5, 10, cp5, Nat.le_of_ble_eq_true rfl, w_182, rfl, rfl⟩
theorem fl_RX5_39 : FW RX5 39 5 9 := ⟨RX5, TX5, 10, cp5, Nat.le_of_ble_eq_true rfl, w_184, rfl, rfl⟩
theorem fl_RX2_12 : FL RX2 12 2 0 := ⟨RX2, TX2, 4, cp2, Nat.le_of_ble_eq_true rfl, w_235, rfl⟩
theorem fl_RX2_21 : FL RX2 21 2 1 := ⟨RX2, TX2, 4, cp2, Nat.le_of_ble_eq_true rfl, w_238, rfl⟩
theorem fl_RX2_41 : FL RX2 41 2 3 := ⟨RX2, TX2, 4, cp2, Nat.le_of_ble_eq_true rfl, w_243, rfl⟩
theorem fl_RX2_27 : FL RX2 27 2 2 := ⟨RX2, TX2, 4, cp2, Nat.le_of_ble_eq_true rfl, w_241, rfl⟩
theorem fl_RX2_62 : FW RX2 62 5 5 := ⟨RX5, TX5, 10, cp5, Nat.le_of_ble_eq_true rfl, w_176, rfl, rfl⟩
theorem fl_RX3_69 : FL RX3 69 2 1 := ⟨RX2, TX2, 4, cp2, Nat.le_of_ble_eq_true rfl, w_240, rfl⟩
theorem fl_RX3_65 : FL RX3 65 2 3 := ⟨RX2, TX2, 4, cp2, Nat.le_of_ble_eq_true rfl, w_245, rfl⟩
theorem fl_RX3_79 : FW RX3 79 5 8 := ⟨RX5, TX5, 10, cp5, Nat.le_of_ble_eq_true rfl, w_183, rfl, rfl⟩
theorem fl_RX3_87 : FW RX3 87 5 9 := ⟨RX5, TX5, 10, cp5, Nat.le_of_ble_eq_true rfl, w_185, rfl, rfl⟩
theorem fl_RX3_31 : FW RX3 31 3 0 := ⟨RX3, TX3, 8, cp3, Nat.le_of_ble_eq_true rfl, w_263, rfl, rfl⟩
theorem fl_RX3_95 : FW RX3 95 5 6 := ⟨RX5, TX5, 10, cp5, Nat.le_of_ble_eq_true rfl, w_179, rfl, rfl⟩
theorem fl_RX3_98 : FW RX3 98 3 1 := ⟨RX3, TX3, 8, cp3, Nat.le_of_ble_eq_true rfl, w_265, rfl, rfl⟩
theorem fl_RX3_101 : FW RX3 101 5 7 := ⟨RX5, TX5, 10, cp5, Nat.le_of_ble_eq_true rfl, w_181, rfl, rfl⟩
theorem fl_RX3_104 : FW RX3 104 3 2 := ⟨RX3, TX3, 8, cp3, Nat.le_of_ble_eq_true rfl, w_267, rfl, rfl⟩
theorem fl_RX3_107 : FL RX3 107 4 0 := ⟨RX4, TX4, 11, cp4, Nat.le_of_ble_eq_true rfl, w_109, rfl⟩
theorem fl_RX3_110 : FL RX3 110 4 1 := ⟨RX4, TX4, 11, cp4, Nat.le_of_ble_eq_true rfl, w_112, rfl⟩
theorem fl_RX3_157 : FW RX3 157 4 4 := ⟨RX4, TX4, 11, cp4, Nat.le_of_ble_eq_true rfl, w_121, rfl, rfl⟩
theorem fl_RX3_160 : FW RX3 160 4 5 := ⟨RX4, TX4, 11, cp4, Nat.le_of_ble_eq_true rfl, w_123, rfl, rfl⟩
theorem fl_RX3_163 : FW RX3 163 4 6 := ⟨RX4, TX4, 11, cp4, Nat.le_of_ble_eq_true rfl, w_125, rfl, rfl⟩
theorem fl_RX3_166 : FW RX3 166 4 7 := ⟨RX4, TX4, 11, cp4, Nat.le_of_ble_eq_true rfl, w_127, rfl, rfl⟩
theorem fl_RX3_169 : FW RX3 169 4 8 := ⟨RX4, TX4, 11, cp4, Nat.le_of_ble_eq_true rfl, w_129, rfl, rfl⟩
theorem fl_RX3_172 : FW RX3 172 4 9 := ⟨RX4, TX4, 11, cp4, Nat.le_of_ble_eq_true rfl, w_131, rfl, rfl⟩
theorem fl_RX3_175 : FW RX3 175 4 10 := ⟨RX4, TX4, 11, cp4, Nat.le_of_ble_eq_true rfl, w_133, rfl, rfl⟩
theorem fl_RX3_117 : FW RX3 117 3 4 := ⟨RX3, TX3, 8, cp3, Nat.le_of_ble_eq_true rfl, w_271, rfl, rfl⟩
theorem fl_RX3_9 : FL RX3 9 3 3 := ⟨RX3, TX3, 8, cp3, Nat.le_of_ble_eq_true rfl, w_269, rfl⟩
theorem fl_RX3_154 : FL RX3 154 4 2 := ⟨RX4, TX4, 11, cp4, Nat.le_of_ble_eq_true rfl, w_116, rfl⟩
theorem fl_RX3_15 : FL RX3 15 2 0 := ⟨RX2, TX2, 4, cp2, Nat.le_of_ble_eq_true rfl, w_236, rfl⟩
theorem fl_RX3_21 : FW RX3 21 4 3 := ⟨RX4, TX4, 11, cp4, Nat.le_of_ble_eq_true rfl, w_117, rfl, rfl⟩
theorem fl_RX3_47 : FW RX3 47 3 5 := ⟨RX3, TX3, 8, cp3, Nat.le_of_ble_eq_true rfl, w_273, rfl, rfl⟩
theorem fl_RX3_123 : FW RX3 123 3 7 := ⟨RX3, TX3, 8, cp3, Nat.le_of_ble_eq_true rfl, w_277, rfl, rfl⟩
theorem fl_RX3_120 : FW RX3 120 3 6 := ⟨RX3, TX3, 8, cp3, Nat.le_of_ble_eq_true rfl, w_275, rfl, rfl⟩
theorem fl_RX3_126 : FW RX3 126 5 4 := ⟨RX5, TX5, 10, cp5, Nat.le_of_ble_eq_true rfl, w_175, rfl, rfl⟩
theorem fl_RX3_129 : FL RX3 129 5 3 := ⟨RX5, TX5, 10, cp5, Nat.le_of_ble_eq_true rfl, w_172, rfl⟩
theorem fl_RX3_133 : FL RX3 133 5 1 := ⟨RX5, TX5, 10, cp5, Nat.le_of_ble_eq_true rfl, w_168, rfl⟩
theorem fl_RX3_136 : FL RX3 136 5 2 := ⟨RX5, TX5, 10, cp5, Nat.le_of_ble_eq_true rfl, w_170, rfl⟩
theorem fl_RX3_139 : FL RX3 139 5 0 := ⟨RX5, TX5, 10, cp5, Nat.le_of_ble_eq_true rfl, w_166, rfl⟩
theorem fl_RX6_18 : FW RX6 18 6 2 := ⟨RX6, TX6, 3, cp6, Nat.le_of_ble_eq_true rfl, w_342, rfl, rfl⟩
theorem fl_RX6_9 : FL RX6 9 6 0 := ⟨RX6, TX6, 3, cp6, Nat.le_of_ble_eq_true rfl, w_338, rfl⟩
theorem fl_RX6_15 : FL RX6 15 6 1 := ⟨RX6, TX6, 3, cp6, Nat.le_of_ble_eq_true rfl, w_340, rfl⟩
theorem fl_RX6_32 : FL RX6 32 2 3 := ⟨RX2, TX2, 4, cp2, Nat.le_of_ble_eq_true rfl, w_247, rfl⟩
theorem fl_RX7_15 : FL RX7 15 7 1 := ⟨RX7, TX7, 3, cp7, Nat.le_of_ble_eq_true rfl, w_305, rfl⟩
theorem fl_RX7_9 : FL RX7 9 7 0 := ⟨RX7, TX7, 3, cp7, Nat.le_of_ble_eq_true rfl, w_303, rfl⟩
theorem fl_RX7_18 : FL RX7 18 7 2 := ⟨RX7, TX7, 3, cp7, Nat.le_of_ble_eq_true rfl, w_306, rfl⟩
theorem fl_RX8_16 : FL RX8 16 8 1 := ⟨RX8, TX8, 2, cp8, Nat.le_of_ble_eq_true rfl, w_413, rfl⟩
theorem fl_RX8_11 : FL RX8 11 8 0 := ⟨RX8, TX8, 2, cp8, Nat.le_of_ble_eq_true rfl, w_411, rfl⟩
theorem fl_RX9_9 : FL RX9 9 9 0 := ⟨RX9, TX9, 3, cp9, Nat.le_of_ble_eq_true rfl, w_320, rfl⟩
theorem fl_RX9_15 : FW RX9 15 9 1 := ⟨RX9, TX9, 3, cp9, Nat.le_of_ble_eq_true rfl, w_321, rfl, rfl⟩
theorem fl_RX9_22 : FW RX9 22 9 2 := ⟨RX9, TX9, 3, cp9, Nat.le_of_ble_eq_true rfl, w_323, rfl, rfl⟩
theorem fl_RX9_19 : FW RX9 19 6 2 := ⟨RX6, TX6, 3, cp6, Nat.le_of_ble_eq_true rfl, w_344, rfl, rfl⟩
theorem fl_RX10_27 : FW RX10 27 10 4 := ⟨RX10, TX10, 5, cp10, Nat.le_of_ble_eq_true rfl, w_367, rfl, rfl⟩
theorem fl_RX10_9 : FW RX10 9 10 0 := ⟨RX10, TX10, 5, cp10, Nat.le_of_ble_eq_true rfl, w_359, rfl, rfl⟩
theorem fl_RX10_21 : FW RX10 21 10 3 := ⟨RX10, TX10, 5, cp10, Nat.le_of_ble_eq_true rfl, w_365, rfl, rfl⟩
theorem fl_RX10_15 : FW RX10 15 10 1 := ⟨RX10, TX10, 5, cp10, Nat.le_of_ble_eq_true rfl, w_361, rfl, rfl⟩
theorem fl_RX10_18 : FW RX10 18 10 2 := ⟨RX10, TX10, 5, cp10, Nat.le_of_ble_eq_true rfl, w_363, rfl, rfl⟩
theorem fl_RX10_34 : FW RX10 34 6 2 := ⟨RX6, TX6, 3, cp6, Nat.le_of_ble_eq_true rfl, w_343, rfl, rfl⟩
theorem fl_RX10_39 : FL RX10 39 6 0 := ⟨RX6, TX6, 3, cp6, Nat.le_of_ble_eq_true rfl, w_339, rfl⟩
theorem fl_RX10_43 : FL RX10 43 6 1 := ⟨RX6, TX6, 3, cp6, Nat.le_of_ble_eq_true rfl, w_341, rfl⟩
theorem fl_RX10_50 : FL RX10 50 2 3 := ⟨RX2, TX2, 4, cp2, Nat.le_of_ble_eq_true rfl, w_244, rfl⟩
theorem fl_RX11_12 : FL RX11 12 11 0 := ⟨RX11, TX11, 12, cp11, Nat.le_of_ble_eq_true rfl, w_420, rfl⟩
theorem fl_RX11_88 : FL RX11 88 2 0 := ⟨RX2, TX2, 4, cp2, Nat.le_of_ble_eq_true rfl, w_237, rfl⟩
theorem fl_RX11_98 : FW RX11 98 4 3 := ⟨RX4, TX4, 11, cp4, Nat.le_of_ble_eq_true rfl, w_118, rfl, rfl⟩
theorem fl_RX11_104 : FL RX11 104 2 1 := ⟨RX2, TX2, 4, cp2, Nat.le_of_ble_eq_true rfl, w_239, rfl⟩
theorem fl_RX11_108 : FW RX11 108 5 4 := ⟨RX5, TX5, 10, cp5, Nat.le_of_ble_eq_true rfl, w_174, rfl, rfl⟩
theorem fl_RX11_121 : FL RX11 121 5 0 := ⟨RX5, TX5, 10, cp5, Nat.le_of_ble_eq_true rfl, w_165, rfl⟩
theorem fl_RX11_136 : FL RX11 136 2 3 := ⟨RX2, TX2, 4, cp2, Nat.le_of_ble_eq_true rfl, w_246, rfl⟩
theorem fl_RX11_141 : FL RX11 141 4 0 := ⟨RX4, TX4, 11, cp4, Nat.le_of_ble_eq_true rfl, w_110, rfl⟩
theorem fl_RX11_144 : FL RX11 144 4 1 := ⟨RX4, TX4, 11, cp4, Nat.le_of_ble_eq_true rfl, w_113, rfl⟩
theorem fl_RX11_147 : FL RX11 147 4 2 := ⟨RX4, TX4, 11, cp4, Nat.le_of_ble_eq_true rfl, w_115, rfl⟩
theorem fl_RX11_153 : FL RX11 153 2 2 := ⟨RX2, TX2, 4, cp2, Nat.le_of_ble_eq_true rfl, w_242, rfl⟩
theorem fl_RX11_160 : FW RX11 160 1 1 := ⟨RX1, TX1, 2, cp1, Nat.le_of_ble_eq_true rfl, w_220, rfl, rfl⟩
theorem fl_RX11_27 : FL RX11 27 11 3 := ⟨RX11, TX11, 12, cp11, Nat.le_of_ble_eq_true rfl, w_423, rfl⟩
theorem fl_RX11_183 : FW RX11 183 3 0 := ⟨RX3, TX3, 8, cp3, Nat.le_of_ble_eq_true rfl, w_264, rfl, rfl⟩
theorem fl_RX11_190 : FW RX11 190 3 2 := ⟨RX3, TX3, 8, cp3, Nat.le_of_ble_eq_true rfl, w_268, rfl, rfl⟩
theorem fl_RX11_187 : FW RX11 187 3 1 := ⟨RX3, TX3, 8, cp3, Nat.le_of_ble_eq_true rfl, w_266, rfl, rfl⟩
theorem fl_RX11_210 : FW RX11 210 3 7 := ⟨RX3, TX3, 8, cp3, Nat.le_of_ble_eq_true rfl, w_278, rfl, rfl⟩
theorem fl_RX11_213 : FW RX11 213 3 6 := ⟨RX3, TX3, 8, cp3, Nat.le_of_ble_eq_true rfl, w_276, rfl, rfl⟩
theorem fl_RX11_220 : FL RX11 220 3 3 := ⟨RX3, TX3, 8, cp3, Nat.le_of_ble_eq_true rfl, w_270, rfl⟩
theorem fl_RX11_224 : FW RX11 224 3 4 := ⟨RX3, TX3, 8, cp3, Nat.le_of_ble_eq_true rfl, w_272, rfl, rfl⟩
theorem fl_RX11_227 : FW RX11 227 3 5 := ⟨RX3, TX3, 8, cp3, Nat.le_of_ble_eq_true rfl, w_274, rfl, rfl⟩
theorem fl_RX11_21 : FL RX11 21 11 2 := ⟨RX11, TX11, 12, cp11, Nat.le_of_ble_eq_true rfl, w_422, rfl⟩
theorem fl_RX11_34 : FL RX11 34 11 4 := ⟨RX11, TX11, 12, cp11, Nat.le_of_ble_eq_true rfl, w_424, rfl⟩
theorem fl_RX11_241 : FL RX11 241 7 0 := ⟨RX7, TX7, 3, cp7, Nat.le_of_ble_eq_true rfl, w_304, rfl⟩
theorem fl_RX11_41 : FL RX11 41 11 5 := ⟨RX11, TX11, 12, cp11, Nat.le_of_ble_eq_true rfl, w_425, rfl⟩
theorem fl_RX11_250 : FW RX11 250 9 1 := ⟨RX9, TX9, 3, cp9, Nat.le_of_ble_eq_true rfl, w_322, rfl, rfl⟩
theorem fl_RX11_52 : FL RX11 52 11 7 := ⟨RX11, TX11, 12, cp11, Nat.le_of_ble_eq_true rfl, w_427, rfl⟩
theorem fl_RX11_48 : FL RX11 48 11 6 := ⟨RX11, TX11, 12, cp11, Nat.le_of_ble_eq_true rfl, w_426, rfl⟩
theorem fl_RX11_260 : FW RX11 260 6 2 := ⟨RX6, TX6, 3, cp6, Nat.le_of_ble_eq_true rfl, w_345, rfl, rfl⟩
theorem fl_RX11_58 : FL RX11 58 11 8 := ⟨RX11, TX11, 12, cp11, Nat.le_of_ble_eq_true rfl, w_428, rfl⟩
theorem fl_RX11_265 : FW RX11 265 10 0 := ⟨RX10, TX10, 5, cp10, Nat.le_of_ble_eq_true rfl, w_360, rfl, rfl⟩
theorem fl_RX11_268 : FW RX11 268 10 1 := ⟨RX10, TX10, 5, cp10, Nat.le_of_ble_eq_true rfl, w_362, rfl, rfl⟩
theorem fl_RX11_271 : FW RX11 271 10 2 := ⟨RX10, TX10, 5, cp10, Nat.le_of_ble_eq_true rfl, w_364, rfl, rfl⟩
theorem fl_RX11_274 : FW RX11 274 10 3 := ⟨RX10, TX10, 5, cp10, Nat.le_of_ble_eq_true rfl, w_366, rfl, rfl⟩
theorem fl_RX11_277 : FW RX11 277 10 4 := ⟨RX10, TX10, 5, cp10, Nat.le_of_ble_eq_true rfl, w_368, rfl, rfl⟩
theorem fl_RX11_72 : FL RX11 72 11 10 := ⟨RX11, TX11, 12, cp11, Nat.le_of_ble_eq_true rfl, w_430, rfl⟩
theorem fl_RX11_294 : FL RX11 294 8 1 := ⟨RX8, TX8, 2, cp8, Nat.le_of_ble_eq_true rfl, w_414, rfl⟩
theorem fl_RX11_297 : FL RX11 297 8 0 := ⟨RX8, TX8, 2, cp8, Nat.le_of_ble_eq_true rfl, w_412, rfl⟩
theorem fl_RX11_65 : FL RX11 65 11 9 := ⟨RX11, TX11, 12, cp11, Nat.le_of_ble_eq_true rfl, w_429, rfl⟩
theorem fl_RX11_314 : FL RX11 314 0 0 := ⟨RX0, TX0, 4, cp0, Nat.le_of_ble_eq_true rfl, w_387, rfl⟩
theorem fl_RX11_317 : FL RX11 317 0 1 := ⟨RX0, TX0, 4, cp0, Nat.le_of_ble_eq_true rfl, w_389, rfl⟩
theorem fl_RX11_320 : FL RX11 320 0 2 := ⟨RX0, TX0, 4, cp0, Nat.le_of_ble_eq_true rfl, w_391, rfl⟩
theorem fl_RX11_313 : FW RX11 313 0 3 := ⟨RX0, TX0, 4, cp0, Nat.le_of_ble_eq_true rfl, w_393, rfl, rfl⟩
theorem fl_RX11_18 : FL RX11 18 11 1 := ⟨RX11, TX11, 12, cp11, Nat.le_of_ble_eq_true rfl, w_421, rfl⟩
theorem fl_RX11_76 : FW RX11 76 11 11 := ⟨RX11, TX11, 12, cp11, Nat.le_of_ble_eq_true rfl, w_431, rfl, rfl⟩
theorem fl_RX12_9 : FL RX12 9 12 0 := ⟨RX12, TX12, 41, cp12, Nat.le_of_ble_eq_true rfl, w_973, rfl⟩
theorem fl_RX12_114 : FW RX12 114 12 1 := ⟨RX12, TX12, 41, cp12, Nat.le_of_ble_eq_true rfl, w_974, rfl, rfl⟩
theorem fl_RX12_15 : FL RX12 15 12 2 := ⟨RX12, TX12, 41, cp12, Nat.le_of_ble_eq_true rfl, w_975, rfl⟩
theorem fl_RX12_18 : FL RX12 18 12 3 := ⟨RX12, TX12, 41, cp12, Nat.le_of_ble_eq_true rfl, w_976, rfl⟩
theorem fl_RX12_21 : FL RX12 21 12 4 := ⟨RX12, TX12, 41, cp12, Nat.le_of_ble_eq_true rfl, w_977, rfl⟩
theorem fl_RX12_24 : FL RX12 24 12 5 := ⟨RX12, TX12, 41, cp12, Nat.le_of_ble_eq_true rfl, w_978, rfl⟩
theorem fl_RX12_36 : FL RX12 36 12 9 := ⟨RX12, TX12, 41, cp12, Nat.le_of_ble_eq_true rfl, w_982, rfl⟩
theorem fl_RX12_27 : FL RX12 27 12 6 := ⟨RX12, TX12, 41, cp12, Nat.le_of_ble_eq_true rfl, w_979, rfl⟩
theorem fl_RX12_30 : FL RX12 30 12 7 := ⟨RX12, TX12, 41, cp12, Nat.le_of_ble_eq_true rfl, w_980, rfl⟩
theorem fl_RX12_33 : FL RX12 33 12 8 := ⟨RX12, TX12, 41, cp12, Nat.le_of_ble_eq_true rfl, w_981, rfl⟩
theorem fl_RX12_42 : FL RX12 42 12 13 := ⟨RX12, TX12, 41, cp12, Nat.le_of_ble_eq_true rfl, w_986, rfl⟩
theorem fl_RX12_177 : FW RX12 177 12 12 := ⟨RX12, TX12, 41, cp12, Nat.le_of_ble_eq_true rfl, w_985, rfl, rfl⟩
theorem fl_RX12_45 : FL RX12 45 12 14 := ⟨RX12, TX12, 41, cp12, Nat.le_of_ble_eq_true rfl, w_987, rfl⟩
theorem fl_RX12_49 : FL RX12 49 12 15 := ⟨RX12, TX12, 41, cp12, Nat.le_of_ble_eq_true rfl, w_988, rfl⟩
theorem fl_RX12_214 : FW RX12 214 12 17 := ⟨RX12, TX12, 41, cp12, Nat.le_of_ble_eq_true rfl, w_990, rfl, rfl⟩
theorem fl_RX12_52 : FL RX12 52 12 16 := ⟨RX12, TX12, 41, cp12, Nat.le_of_ble_eq_true rfl, w_989, rfl⟩
theorem fl_RX12_218 : FW RX12 218 12 18 := ⟨RX12, TX12, 41, cp12, Nat.le_of_ble_eq_true rfl, w_991, rfl, rfl⟩
theorem fl_RX12_55 : FL RX12 55 12 19 := ⟨RX12, TX12, 41, cp12, Nat.le_of_ble_eq_true rfl, w_992, rfl⟩
theorem fl_RX12_58 : FL RX12 58 12 20 := ⟨RX12, TX12, 41, cp12, Nat.le_of_ble_eq_true rfl, w_993, rfl⟩
theorem fl_RX12_250 : FW RX12 250 12 21 := ⟨RX12, TX12, 41, cp12, Nat.le_of_ble_eq_true rfl, w_994, rfl, rfl⟩
theorem fl_RX12_256 : FW RX12 256 12 23 := ⟨RX12, TX12, 41, cp12, Nat.le_of_ble_eq_true rfl, w_996, rfl, rfl⟩
theorem fl_RX12_61 : FL RX12 61 12 22 := ⟨RX12, TX12, 41, cp12, Nat.le_of_ble_eq_true rfl, w_995, rfl⟩
theorem fl_RX12_259 : FW RX12 259 12 29 := ⟨RX12, TX12, 41, cp12, Nat.le_of_ble_eq_true rfl, w_1002, rfl, rfl⟩
theorem fl_RX12_70 : FL RX12 70 12 27 := ⟨RX12, TX12, 41, cp12, Nat.le_of_ble_eq_true rfl, w_1000, rfl⟩
theorem fl_RX12_73 : FL RX12 73 12 28 := ⟨RX12, TX12, 41, cp12, Nat.le_of_ble_eq_true rfl, w_1001, rfl⟩
theorem fl_RX12_297 : FW RX12 297 12 24 := ⟨RX12, TX12, 41, cp12, Nat.le_of_ble_eq_true rfl, w_997, rfl, rfl⟩
theorem fl_RX12_64 : FL RX12 64 12 25 := ⟨RX12, TX12, 41, cp12, Nat.le_of_ble_eq_true rfl, w_998, rfl⟩
theorem fl_RX12_67 : FL RX12 67 12 26 := ⟨RX12, TX12, 41, cp12, Nat.le_of_ble_eq_true rfl, w_999, rfl⟩
theorem fl_RX12_303 : FW RX12 303 12 30 := ⟨RX12, TX12, 41, cp12, Nat.le_of_ble_eq_true rfl, w_1003, rfl, rfl⟩
theorem fl_RX12_317 : FW RX12 317 12 34 := ⟨RX12, TX12, 41, cp12, Nat.le_of_ble_eq_true rfl, w_1007, rfl, rfl⟩
theorem fl_RX12_305 : FW RX12 305 12 31 := ⟨RX12, TX12, 41, cp12, Nat.le_of_ble_eq_true rfl, w_1004, rfl, rfl⟩
theorem fl_RX12_308 : FW RX12 308 12 32 := ⟨RX12, TX12, 41, cp12, Nat.le_of_ble_eq_true rfl, w_1005, rfl, rfl⟩
theorem fl_RX12_311 : FW RX12 311 12 33 := ⟨RX12, TX12, 41, cp12, Nat.le_of_ble_eq_true rfl, w_1006, rfl, rfl⟩
theorem fl_RX12_76 : FL RX12 76 12 35 := ⟨RX12, TX12, 41, cp12, Nat.le_of_ble_eq_true rfl, w_1008, rfl⟩
theorem fl_RX12_79 : FL RX12 79 12 36 := ⟨RX12, TX12, 41, cp12, Nat.le_of_ble_eq_true rfl, w_1009, rfl⟩
theorem fl_RX12_85 : FL RX12 85 12 38 := ⟨RX12, TX12, 41, cp12, Nat.le_of_ble_eq_true rfl, w_1011, rfl⟩
theorem fl_RX12_82 : FL RX12 82 12 37 := ⟨RX12, TX12, 41, cp12, Nat.le_of_ble_eq_true rfl, w_1010, rfl⟩
theorem fl_RX12_355 : FW RX12 355 12 39 := ⟨RX12, TX12, 41, cp12, Nat.le_of_ble_eq_true rfl, w_1012, rfl, rfl⟩
theorem fl_RX12_88 : FL RX12 88 12 40 := ⟨RX12, TX12, 41, cp12, Nat.le_of_ble_eq_true rfl, w_1013, rfl⟩
theorem fl_RX12_361 : FW RX12 361 12 11 := ⟨RX12, TX12, 41, cp12, Nat.le_of_ble_eq_true rfl, w_984, rfl, rfl⟩
theorem fl_RX12_39 : FL RX12 39 12 10 := ⟨RX12, TX12, 41, cp12, Nat.le_of_ble_eq_true rfl, w_983, rfl⟩
theorem mi_X0_dropEldest : MI yX0_dropEldest cX0_dropEldest 1 (none) 0 0 := ⟨⟨TX0, 4, cp0⟩, w_913, w_13, w_67, w_914, by decide, by decide, by decide +kernel⟩
theorem mi_X1_has : MI yX1_has cX1_has 2 (some .boolean) 1 1 := ⟨⟨TX1, 2, cp1⟩, w_526, w_527, w_60, w_528, by decide, by decide, by decide +kernel⟩
theorem mi_X4_placeAs : MI yX4_placeAs cX4_placeAs 2 (none) 1 4 := ⟨⟨TX4, 11, cp4⟩, w_678, w_679, w_58, w_680, by decide, by decide, by decide +kernel⟩
theorem mi_X5_weighAs : MI yX5_weighAs cX5_weighAs 2 (none) 1 5 := ⟨⟨TX5, 10, cp5⟩, w_685, w_686, w_59, w_687, by decide, by decide, by decide +kernel⟩
theorem mi_X1_readAs : MI yX1_readAs cX1_readAs 2 (none) 1 1 := ⟨⟨TX1, 2, cp1⟩, w_690, w_691, w_60, w_692, by decide, by decide, by decide +kernel⟩
theorem mi_X2_hanging : MI yX2_hanging cX2_hanging 1 (some .int) 0 2 := ⟨⟨TX2, 4, cp2⟩, w_563, w_564, w_57, w_565, by decide, by decide, by decide +kernel⟩
theorem mi_X1_at : MI yX1_at cX1_at 4 (some .int) 1 1 := ⟨⟨TX1, 2, cp1⟩, w_539, w_540, w_60, w_541, by decide, by decide, by decide +kernel⟩
theorem mi_X2_mayHang : MI yX2_mayHang cX2_mayHang 5 (some .int) 2 2 := ⟨⟨TX2, 4, cp2⟩, w_547, w_548, w_57, w_549, by decide, by decide, by decide +kernel⟩
theorem mi_J9_floorMod_7cf53 : MS yJ9_floorMod_7cf53 cJ9_floorMod_7cf53 3 (some .int) 2 := ⟨w_856, w_70, w_857, by decide, by decide, by decide +kernel⟩
theorem mi_X2_wholeMass : MI yX2_wholeMass cX2_wholeMass 1 (some .int) 0 2 := ⟨⟨TX2, 4, cp2⟩, w_559, w_560, w_57, w_561, by decide, by decide, by decide +kernel⟩
theorem mi_X11_next : MS yX11_next cX11_next 1 (some .int) 1 := ⟨w_105, w_56, w_106, by decide, by decide, by decide +kernel⟩
theorem mi_X3_about : MI yX3_about cX3_about 8 (some .long) 3 3 := ⟨⟨TX3, 8, cp3⟩, w_599, w_600, w_62, w_601, by decide, by decide, by decide +kernel⟩
theorem mi_X4_span : MI yX4_span cX4_span 4 (some .long) 1 4 := ⟨⟨TX4, 11, cp4⟩, w_101, w_102, w_58, w_103, by decide, by decide, by decide +kernel⟩
theorem mi_X3_gather : MI yX3_gather cX3_gather 11 (none) 1 3 := ⟨⟨TX3, 8, cp3⟩, w_571, w_572, w_62, w_573, by decide, by decide, by decide +kernel⟩
theorem mi_X3_tipsOver : MI yX3_tipsOver cX3_tipsOver 3 (some .boolean) 1 3 := ⟨⟨TX3, 8, cp3⟩, w_631, w_2, w_62, w_632, by decide, by decide, by decide +kernel⟩
theorem mi_X3_shareByPlane : MI yX3_shareByPlane cX3_shareByPlane 9 (none) 1 3 := ⟨⟨TX3, 8, cp3⟩, w_636, w_3, w_62, w_637, by decide, by decide, by decide +kernel⟩
theorem mi_X3_lowestBelowNothing : MI yX3_lowestBelowNothing cX3_lowestBelowNothing 5 (some .int) 0 3 := ⟨⟨TX3, 8, cp3⟩, w_640, w_4, w_62, w_641, by decide, by decide, by decide +kernel⟩
theorem mi_X3_isOverLimit : MI yX3_isOverLimit cX3_isOverLimit 3 (some .boolean) 1 3 := ⟨⟨TX3, 8, cp3⟩, w_649, w_6, w_62, w_650, by decide, by decide, by decide +kernel⟩
theorem mi_X2_room : MI yX2_room cX2_room 1 (some .int) 0 2 := ⟨⟨TX2, 4, cp2⟩, w_652, w_653, w_57, w_654, by decide, by decide, by decide +kernel⟩
theorem mi_X3_shareByThree : MI yX3_shareByThree cX3_shareByThree 6 (some .boolean) 2 3 := ⟨⟨TX3, 8, cp3⟩, w_644, w_5, w_62, w_645, by decide, by decide, by decide +kernel⟩
theorem mi_X3_verdict : MI yX3_verdict cX3_verdict 2 (some .int) 1 3 := ⟨⟨TX3, 8, cp3⟩, w_625, w_626, w_62, w_627, by decide, by decide, by decide +kernel⟩
theorem mi_X3_wholeShare : MI yX3_wholeShare cX3_wholeShare 2 (some .long) 1 3 := ⟨⟨TX3, 8, cp3⟩, w_895, w_896, w_62, w_897, by decide, by decide, by decide +kernel⟩
theorem mi_X3_addMoment : MI yX3_addMoment cX3_addMoment 15 (none) 5 3 := ⟨⟨TX3, 8, cp3⟩, w_613, w_1, w_62, w_614, by decide, by decide, by decide +kernel⟩
theorem mi_X4_measure : MI yX4_measure cX4_measure 12 (none) 0 4 := ⟨⟨TX4, 11, cp4⟩, w_98, w_0, w_58, w_99, by decide, by decide, by decide +kernel⟩
theorem mi_X5_reweigh : MI yX5_reweigh cX5_reweigh 4 (none) 2 5 := ⟨⟨TX5, 10, cp5⟩, w_483, w_484, w_59, w_485, by decide, by decide, by decide +kernel⟩
theorem mi_X6_isMove : MI yX6_isMove cX6_isMove 2 (some .boolean) 1 6 := ⟨⟨TX6, 3, cp6⟩, w_848, w_849, w_65, w_850, by decide, by decide, by decide +kernel⟩
theorem mi_J7_fill_53178 : MS yJ7_fill_53178 cJ7_fill_53178 4 (none) 2 := ⟨w_216, w_61, w_217, by decide, by decide, by decide +kernel⟩
theorem mi_X7_spread : MI yX7_spread cX7_spread 7 (some .boolean) 0 7 := ⟨⟨TX7, 3, cp7⟩, w_722, w_7, w_63, w_723, by decide, by decide, by decide +kernel⟩
theorem mi_J7_fill_d0a16 : MS yJ7_fill_d0a16 cJ7_fill_d0a16 5 (none) 2 := ⟨w_941, w_61, w_942, by decide, by decide, by decide +kernel⟩
theorem mi_X9_spells : MI yX9_spells cX9_spells 4 (some .boolean) 2 9 := ⟨⟨TX9, 3, cp9⟩, w_756, w_9, w_64, w_757, by decide, by decide, by decide +kernel⟩
theorem mi_X11_within : MS yX11_within cX11_within 3 (some .boolean) 3 := ⟨w_465, w_56, w_466, by decide, by decide, by decide +kernel⟩
theorem mi_X11_fitsDial : MS yX11_fitsDial cX11_fitsDial 2 (some .boolean) 2 := ⟨w_503, w_56, w_504, by decide, by decide, by decide +kernel⟩
theorem mi_X6_append : MI yX6_append cX6_append 3 (none) 2 6 := ⟨⟨TX6, 3, cp6⟩, w_807, w_808, w_65, w_809, by decide, by decide, by decide +kernel⟩
theorem mi_X9_dialOfWord : MI yX9_dialOfWord cX9_dialOfWord 2 (some .int) 1 9 := ⟨⟨TX9, 3, cp9⟩, w_812, w_10, w_64, w_813, by decide, by decide, by decide +kernel⟩
theorem mi_X9_readNumber : MI yX9_readNumber cX9_readNumber 6 (some .int) 2 9 := ⟨⟨TX9, 3, cp9⟩, w_820, w_11, w_64, w_821, by decide, by decide, by decide +kernel⟩
theorem mi_X9_readStep : MI yX9_readStep cX9_readStep 4 (some .int) 1 9 := ⟨⟨TX9, 3, cp9⟩, w_751, w_8, w_64, w_752, by decide, by decide, by decide +kernel⟩
theorem mi_X10_meet : MI yX10_meet cX10_meet 5 (none) 3 10 := ⟨⟨TX10, 5, cp10⟩, w_842, w_12, w_66, w_843, by decide, by decide, by decide +kernel⟩
theorem mi_X2_approach : MI yX2_approach cX2_approach 5 (none) 2 2 := ⟨⟨TX2, 4, cp2⟩, w_852, w_853, w_57, w_854, by decide, by decide, by decide +kernel⟩
theorem mi_X11_isPad : MS yX11_isPad cX11_isPad 1 (some .boolean) 1 := ⟨w_462, w_56, w_463, by decide, by decide, by decide +kernel⟩
theorem mi_X4_place : MI yX4_place cX4_place 5 (none) 4 4 := ⟨⟨TX4, 11, cp4⟩, w_468, w_469, w_58, w_470, by decide, by decide, by decide +kernel⟩
theorem mi_X11_isMass : MS yX11_isMass cX11_isMass 1 (some .boolean) 1 := ⟨w_476, w_56, w_477, by decide, by decide, by decide +kernel⟩
theorem mi_X5_append : MI yX5_append cX5_append 6 (some .int) 4 5 := ⟨⟨TX5, 10, cp5⟩, w_479, w_480, w_59, w_481, by decide, by decide, by decide +kernel⟩
theorem mi_X5_has : MI yX5_has cX5_has 2 (some .boolean) 1 5 := ⟨⟨TX5, 10, cp5⟩, w_491, w_492, w_59, w_493, by decide, by decide, by decide +kernel⟩
theorem mi_X11_isDial : MS yX11_isDial cX11_isDial 1 (some .boolean) 1 := ⟨w_500, w_56, w_501, by decide, by decide, by decide +kernel⟩
theorem mi_X11_isChart : MS yX11_isChart cX11_isChart 1 (some .boolean) 1 := ⟨w_523, w_56, w_524, by decide, by decide, by decide +kernel⟩
theorem mi_X1_write : MI yX1_write cX1_write 3 (none) 2 1 := ⟨⟨TX1, 2, cp1⟩, w_530, w_531, w_60, w_532, by decide, by decide, by decide +kernel⟩
theorem mi_X11_commonDivisor : MS yX11_commonDivisor cX11_commonDivisor 11 (some .long) 2 := ⟨w_591, w_56, w_592, by decide, by decide, by decide +kernel⟩
theorem mi_X11_isSide : MS yX11_isSide cX11_isSide 1 (some .boolean) 1 := ⟨w_582, w_56, w_583, by decide, by decide, by decide +kernel⟩
theorem mi_X11_inLowestTerms : MS yX11_inLowestTerms cX11_inLowestTerms 7 (some .long) 3 := ⟨w_585, w_56, w_586, by decide, by decide, by decide +kernel⟩
theorem mi_X3_splitMoments : MI yX3_splitMoments cX3_splitMoments 14 (none) 2 3 := ⟨⟨TX3, 8, cp3⟩, w_608, w_609, w_62, w_610, by decide, by decide, by decide +kernel⟩
theorem mi_X3_finds : MI yX3_finds cX3_finds 3 (some .boolean) 1 3 := ⟨⟨TX3, 8, cp3⟩, w_621, w_622, w_62, w_623, by decide, by decide, by decide +kernel⟩
theorem mi_X2_become : MI yX2_become cX2_become 3 (none) 1 2 := ⟨⟨TX2, 4, cp2⟩, w_674, w_675, w_57, w_676, by decide, by decide, by decide +kernel⟩
theorem mi_X3_lawfulDirections : MI yX3_lawfulDirections cX3_lawfulDirections 5 (some .int) 2 3 := ⟨⟨TX3, 8, cp3⟩, w_700, w_701, w_62, w_702, by decide, by decide, by decide +kernel⟩
theorem mi_X7_begin : MI yX7_begin cX7_begin 3 (none) 2 7 := ⟨⟨TX7, 3, cp7⟩, w_712, w_713, w_63, w_714, by decide, by decide, by decide +kernel⟩
theorem mi_X7_movesTo : MI yX7_movesTo cX7_movesTo 5 (some .int) 2 7 := ⟨⟨TX7, 3, cp7⟩, w_717, w_718, w_63, w_719, by decide, by decide, by decide +kernel⟩
theorem mi_X9_append : MI yX9_append cX9_append 2 (some .int) 1 9 := ⟨⟨TX9, 3, cp9⟩, w_734, w_735, w_64, w_736, by decide, by decide, by decide +kernel⟩
theorem mi_X9_readInto : MI yX9_readInto cX9_readInto 4 (some .int) 1 9 := ⟨⟨TX9, 3, cp9⟩, w_746, w_747, w_64, w_748, by decide, by decide, by decide +kernel⟩
theorem mi_X6_become : MI yX6_become cX6_become 2 (none) 1 6 := ⟨⟨TX6, 3, cp6⟩, w_827, w_828, w_65, w_829, by decide, by decide, by decide +kernel⟩
theorem mi_X10_go : MI yX10_go cX10_go 8 (none) 3 10 := ⟨⟨TX10, 5, cp10⟩, w_836, w_837, w_66, w_838, by decide, by decide, by decide +kernel⟩
theorem mi_X6_onlyMoves : MI yX6_onlyMoves cX6_onlyMoves 2 (some .boolean) 0 6 := ⟨⟨TX6, 3, cp6⟩, w_871, w_872, w_65, w_873, by decide, by decide, by decide +kernel⟩
theorem mi_X6_turnBack : MI yX6_turnBack cX6_turnBack 5 (none) 2 6 := ⟨⟨TX6, 3, cp6⟩, w_876, w_877, w_65, w_878, by decide, by decide, by decide +kernel⟩
theorem mi_X11_isList : MS yX11_isList cX11_isList 1 (some .boolean) 1 := ⟨w_884, w_56, w_885, by decide, by decide, by decide +kernel⟩
theorem mi_X8_holds : MI yX8_holds cX8_holds 2 (some .boolean) 1 8 := ⟨⟨TX8, 2, cp8⟩, w_887, w_888, w_68, w_889, by decide, by decide, by decide +kernel⟩
theorem mi_X3_sharesAre : MI yX3_sharesAre cX3_sharesAre 4 (some .boolean) 2 3 := ⟨⟨TX3, 8, cp3⟩, w_891, w_892, w_62, w_893, by decide, by decide, by decide +kernel⟩
theorem mi_X0_keep : MI yX0_keep cX0_keep 4 (some .int) 3 0 := ⟨⟨TX0, 4, cp0⟩, w_908, w_909, w_67, w_910, by decide, by decide, by decide +kernel⟩
theorem mi_X11_mayBeAsBooked : MI yX11_mayBeAsBooked cX11_mayBeAsBooked 2 (some .boolean) 1 11 := ⟨⟨TX11, 12, cp11⟩, w_922, w_14, w_56, w_923, by decide, by decide, by decide +kernel⟩
theorem mi_X0_withMost : MI yX0_withMost cX0_withMost 4 (some .int) 0 0 := ⟨⟨TX0, 4, cp0⟩, w_929, w_930, w_67, w_931, by decide, by decide, by decide +kernel⟩
theorem mi_X8_begin : MI yX8_begin cX8_begin 3 (none) 2 8 := ⟨⟨TX8, 2, cp8⟩, w_937, w_938, w_68, w_939, by decide, by decide, by decide +kernel⟩
theorem mi_X8_hasPlace : MI yX8_hasPlace cX8_hasPlace 3 (some .boolean) 2 8 := ⟨⟨TX8, 2, cp8⟩, w_948, w_949, w_68, w_950, by decide, by decide, by decide +kernel⟩
theorem mi_X12_divisor : MS yX12_divisor cX12_divisor 10 (some .long) 2 := ⟨w_1239, w_69, w_1240, by decide, by decide, by decide +kernel⟩
theorem mi_X12_in : MS yX12_in cX12_in 3 (some .boolean) 3 := ⟨w_1105, w_69, w_1106, by decide, by decide, by decide +kernel⟩
theorem mi_X12_x : MI yX12_x cX12_x 2 (some .int) 1 12 := ⟨⟨TX12, 41, cp12⟩, w_1113, w_16, w_69, w_1114, by decide, by decide, by decide +kernel⟩
theorem mi_X12_y : MI yX12_y cX12_y 2 (some .int) 1 12 := ⟨⟨TX12, 41, cp12⟩, w_1117, w_17, w_69, w_1118, by decide, by decide, by decide +kernel⟩
theorem mi_X12_isPad : MS yX12_isPad cX12_isPad 1 (some .boolean) 1 := ⟨w_1102, w_69, w_1103, by decide, by decide, by decide +kernel⟩
theorem mi_X12_stands : MI yX12_stands cX12_stands 3 (some .boolean) 0 12 := ⟨⟨TX12, 41, cp12⟩, w_1109, w_15, w_69, w_1110, by decide, by decide, by decide +kernel⟩
theorem mi_X12_isPartOf : MI yX12_isPartOf cX12_isPartOf 2 (some .boolean) 1 12 := ⟨⟨TX12, 41, cp12⟩, w_1129, w_18, w_69, w_1130, by decide, by decide, by decide +kernel⟩
theorem mi_X12_most : MS yX12_most cX12_most 1 (some .int) 1 := ⟨w_1142, w_69, w_1143, by decide, by decide, by decide +kernel⟩
theorem mi_X12_isWhat : MS yX12_isWhat cX12_isWhat 1 (some .boolean) 1 := ⟨w_1136, w_69, w_1137, by decide, by decide, by decide +kernel⟩
theorem mi_X12_isFor : MS yX12_isFor cX12_isFor 2 (some .boolean) 2 := ⟨w_1139, w_69, w_1140, by decide, by decide, by decide +kernel⟩
theorem mi_X12_isChart : MS yX12_isChart cX12_isChart 1 (some .boolean) 1 := ⟨w_1158, w_69, w_1159, by decide, by decide, by decide +kernel⟩
theorem mi_X12_isReach : MS yX12_isReach cX12_isReach 1 (some .boolean) 1 := ⟨w_1161, w_69, w_1162, by decide, by decide, by decide +kernel⟩
theorem mi_X12_placeOf : MI yX12_placeOf cX12_placeOf 4 (some .int) 2 12 := ⟨⟨TX12, 41, cp12⟩, w_1165, w_19, w_69, w_1166, by decide, by decide, by decide +kernel⟩
theorem mi_X12_isThere : MI yX12_isThere cX12_isThere 4 (some .boolean) 3 12 := ⟨⟨TX12, 41, cp12⟩, w_1169, w_20, w_69, w_1170, by decide, by decide, by decide +kernel⟩
theorem mi_X12_comes : MI yX12_comes cX12_comes 5 (none) 3 12 := ⟨⟨TX12, 41, cp12⟩, w_1177, w_22, w_69, w_1178, by decide, by decide, by decide +kernel⟩
theorem mi_X12_goes : MI yX12_goes cX12_goes 4 (none) 2 12 := ⟨⟨TX12, 41, cp12⟩, w_1173, w_21, w_69, w_1174, by decide, by decide, by decide +kernel⟩
theorem mi_X12_readOf : MI yX12_readOf cX12_readOf 5 (some .int) 2 12 := ⟨⟨TX12, 41, cp12⟩, w_1185, w_23, w_69, w_1186, by decide, by decide, by decide +kernel⟩
theorem mi_X12_isDirection : MS yX12_isDirection cX12_isDirection 1 (some .boolean) 1 := ⟨w_1192, w_69, w_1193, by decide, by decide, by decide +kernel⟩
theorem mi_X12_allowedAt : MI yX12_allowedAt cX12_allowedAt 4 (some .int) 2 12 := ⟨⟨TX12, 41, cp12⟩, w_1196, w_24, w_69, w_1197, by decide, by decide, by decide +kernel⟩
theorem mi_X12_plainCos : MS yX12_plainCos cX12_plainCos 1 (some .int) 1 := ⟨w_1211, w_69, w_1212, by decide, by decide, by decide +kernel⟩
theorem mi_X12_plainSin : MS yX12_plainSin cX12_plainSin 1 (some .int) 1 := ⟨w_1214, w_69, w_1215, by decide, by decide, by decide +kernel⟩
theorem mi_X12_cos : MS yX12_cos cX12_cos 1 (some .int) 1 := ⟨w_1208, w_69, w_1209, by decide, by decide, by decide +kernel⟩
theorem mi_X12_sin : MS yX12_sin cX12_sin 1 (some .int) 1 := ⟨w_1217, w_69, w_1218, by decide, by decide, by decide +kernel⟩
theorem mi_X12_lays : MI yX12_lays cX12_lays 6 (none) 3 12 := ⟨⟨TX12, 41, cp12⟩, w_1221, w_26, w_69, w_1222, by decide, by decide, by decide +kernel⟩
theorem mi_X12_momentOf : MI yX12_momentOf cX12_momentOf 7 (some .long) 2 12 := ⟨⟨TX12, 41, cp12⟩, w_1251, w_29, w_69, w_1252, by decide, by decide, by decide +kernel⟩
theorem mi_X12_looks : MI yX12_looks cX12_looks 4 (none) 0 12 := ⟨⟨TX12, 41, cp12⟩, w_1205, w_25, w_69, w_1206, by decide, by decide, by decide +kernel⟩
theorem mi_X12_sum : MI yX12_sum cX12_sum 5 (some .long) 1 12 := ⟨⟨TX12, 41, cp12⟩, w_1225, w_27, w_69, w_1226, by decide, by decide, by decide +kernel⟩
theorem mi_X12_isPart : MS yX12_isPart cX12_isPart 1 (some .boolean) 1 := ⟨w_1232, w_69, w_1233, by decide, by decide, by decide +kernel⟩
theorem mi_X12_part : MS yX12_part cX12_part 5 (some .long) 3 := ⟨w_1236, w_69, w_1237, by decide, by decide, by decide +kernel⟩
theorem mi_X12_moments : MI yX12_moments cX12_moments 8 (some .long) 2 12 := ⟨⟨TX12, 41, cp12⟩, w_1247, w_28, w_69, w_1248, by decide, by decide, by decide +kernel⟩
theorem mi_X12_determinant : MS yX12_determinant cX12_determinant 18 (some .long) 9 := ⟨w_1274, w_69, w_1275, by decide, by decide, by decide +kernel⟩
theorem mi_X12_tips : MI yX12_tips cX12_tips 2 (some .boolean) 0 12 := ⟨⟨TX12, 41, cp12⟩, w_1267, w_31, w_69, w_1268, by decide, by decide, by decide +kernel⟩
theorem mi_X12_plane : MI yX12_plane cX12_plane 29 (none) 1 12 := ⟨⟨TX12, 41, cp12⟩, w_1271, w_32, w_69, w_1272, by decide, by decide, by decide +kernel⟩
theorem mi_X12_least : MI yX12_least cX12_least 3 (some .int) 0 12 := ⟨⟨TX12, 41, cp12⟩, w_1278, w_33, w_69, w_1279, by decide, by decide, by decide +kernel⟩
theorem mi_X12_pushes : MI yX12_pushes cX12_pushes 1 (some .int) 0 12 := ⟨⟨TX12, 41, cp12⟩, w_1263, w_30, w_69, w_1264, by decide, by decide, by decide +kernel⟩
theorem mi_X12_isAboveLimit : MI yX12_isAboveLimit cX12_isAboveLimit 2 (some .boolean) 0 12 := ⟨⟨TX12, 41, cp12⟩, w_1298, w_35, w_69, w_1299, by decide, by decide, by decide +kernel⟩
theorem mi_X12_spareNow : MI yX12_spareNow cX12_spareNow 1 (some .int) 0 12 := ⟨⟨TX12, 41, cp12⟩, w_1302, w_36, w_69, w_1303, by decide, by decide, by decide +kernel⟩
theorem mi_X12_whyNow : MI yX12_whyNow cX12_whyNow 2 (some .int) 0 12 := ⟨⟨TX12, 41, cp12⟩, w_1294, w_34, w_69, w_1295, by decide, by decide, by decide +kernel⟩
theorem mi_X12_may : MI yX12_may cX12_may 1 (some .boolean) 0 12 := ⟨⟨TX12, 41, cp12⟩, w_1310, w_37, w_69, w_1311, by decide, by decide, by decide +kernel⟩
theorem mi_X12_mayAt : MI yX12_mayAt cX12_mayAt 6 (some .boolean) 2 12 := ⟨⟨TX12, 41, cp12⟩, w_1318, w_38, w_69, w_1319, by decide, by decide, by decide +kernel⟩
theorem mi_X12_comesTo : MI yX12_comesTo cX12_comesTo 5 (none) 3 12 := ⟨⟨TX12, 41, cp12⟩, w_1330, w_39, w_69, w_1331, by decide, by decide, by decide +kernel⟩
theorem mi_X12_here : MI yX12_here cX12_here 1 (some .int) 0 12 := ⟨⟨TX12, 41, cp12⟩, w_1358, w_42, w_69, w_1359, by decide, by decide, by decide +kernel⟩
theorem mi_X12_whatOf : MS yX12_whatOf cX12_whatOf 1 (some .int) 1 := ⟨w_1375, w_69, w_1376, by decide, by decide, by decide +kernel⟩
theorem mi_X12_word : MS yX12_word cX12_word 1 (some (.object "java/lang/String")) 1 := ⟨w_1361, w_69, w_1362, by decide, by decide, by decide +kernel⟩
theorem mi_X12_isWord : MI yX12_isWord cX12_isWord 4 (some .boolean) 2 12 := ⟨⟨TX12, 41, cp12⟩, w_1370, w_43, w_69, w_1371, by decide, by decide, by decide +kernel⟩
theorem mi_X12_readStep : MI yX12_readStep cX12_readStep 6 (some .int) 1 12 := ⟨⟨TX12, 41, cp12⟩, w_1354, w_41, w_69, w_1355, by decide, by decide, by decide +kernel⟩
theorem mi_X12_reads : MI yX12_reads cX12_reads 4 (some .int) 0 12 := ⟨⟨TX12, 41, cp12⟩, w_1350, w_40, w_69, w_1351, by decide, by decide, by decide +kernel⟩
theorem mi_X12_looksAt : MI yX12_looksAt cX12_looksAt 3 (none) 1 12 := ⟨⟨TX12, 41, cp12⟩, w_1399, w_48, w_69, w_1400, by decide, by decide, by decide +kernel⟩
theorem mi_X12_reaches : MI yX12_reaches cX12_reaches 3 (none) 2 12 := ⟨⟨TX12, 41, cp12⟩, w_1412, w_51, w_69, w_1413, by decide, by decide, by decide +kernel⟩
theorem mi_X12_slews : MI yX12_slews cX12_slews 5 (none) 2 12 := ⟨⟨TX12, 41, cp12⟩, w_1408, w_50, w_69, w_1409, by decide, by decide, by decide +kernel⟩
theorem mi_X12_begins : MI yX12_begins cX12_begins 1 (none) 0 12 := ⟨⟨TX12, 41, cp12⟩, w_1395, w_47, w_69, w_1396, by decide, by decide, by decide +kernel⟩
theorem mi_X12_goesStep : MI yX12_goesStep cX12_goesStep 2 (none) 1 12 := ⟨⟨TX12, 41, cp12⟩, w_1404, w_49, w_69, w_1405, by decide, by decide, by decide +kernel⟩
theorem mi_X12_remembers : MI yX12_remembers cX12_remembers 2 (none) 0 12 := ⟨⟨TX12, 41, cp12⟩, w_1387, w_45, w_69, w_1388, by decide, by decide, by decide +kernel⟩
theorem mi_X12_goesAll : MI yX12_goesAll cX12_goesAll 2 (none) 0 12 := ⟨⟨TX12, 41, cp12⟩, w_1391, w_46, w_69, w_1392, by decide, by decide, by decide +kernel⟩
theorem mi_X12_returns : MI yX12_returns cX12_returns 2 (none) 0 12 := ⟨⟨TX12, 41, cp12⟩, w_1416, w_52, w_69, w_1417, by decide, by decide, by decide +kernel⟩
theorem mi_X12_checks : MI yX12_checks cX12_checks 1 (none) 0 12 := ⟨⟨TX12, 41, cp12⟩, w_1383, w_44, w_69, w_1384, by decide, by decide, by decide +kernel⟩
theorem mi_X12_isList : MS yX12_isList cX12_isList 1 (some .boolean) 1 := ⟨w_1435, w_69, w_1436, by decide, by decide, by decide +kernel⟩
theorem mi_X12_isSeen : MI yX12_isSeen cX12_isSeen 3 (some .boolean) 1 12 := ⟨⟨TX12, 41, cp12⟩, w_1440, w_53, w_69, w_1441, by decide, by decide, by decide +kernel⟩
theorem mi_X12_mayLift : MI yX12_mayLift cX12_mayLift 4 (some .boolean) 1 12 := ⟨⟨TX12, 41, cp12⟩, w_1468, w_54, w_69, w_1469, by decide, by decide, by decide +kernel⟩
theorem mg_max : Cond.static Lib.Math.max.name ∈ GG ∧ Cond.initialized "java/lang/Math" ∈ GG ∧ Cond.code Lib.Math.max.name Lib.Math.max.code 2 (some .int) ∈ GG := ⟨w_552, w_70, w_553⟩
theorem mg_min : Cond.static Lib.Math.min.name ∈ GG ∧ Cond.initialized "java/lang/Math" ∈ GG ∧ Cond.code Lib.Math.min.name Lib.Math.min.code 2 (some .int) ∈ GG := ⟨w_823, w_70, w_824⟩
theorem mg_abs : Cond.static Lib.MathLoose.abs_long.x ∈ GG ∧ Cond.initialized "java/lang/Math" ∈ GG ∧ Cond.code Lib.MathLoose.abs_long.x Lib.MathLoose.abs_long.code 2 (some .long) ∈ GG := ⟨w_588, w_70, w_589⟩
theorem mi_check3 : MS yJ3_checkIndex_8e157 cJ3_checkIndex_8e157 3 (some .int) 3 := ⟨w_785, w_74, w_786, by decide, by decide, by decide +kernel⟩
theorem mi_check0 : MS yJ0_checkIndex_df160 cJ0_checkIndex_df160 2 (none) 2 := ⟨w_780, w_72, w_781, by decide, by decide, by decide +kernel⟩
theorem mi_lat : MS yJ1_charAt_3b067 cJ1_charAt_3b067 2 (some .char) 2 := ⟨w_777, w_73, w_778, by decide, by decide, by decide +kernel⟩
end
section
theorem dJ0_length_8abf5_0 : decode cJ0_length_8abf5 0 = .ok (.aload_n 0, 1) := by decide +kernel
theorem dJ0_length_8abf5_1 : decode cJ0_length_8abf5 1 = .ok (.getfield 9, 3) := by decide +kernel
theorem dJ0_length_8abf5_4 : decode cJ0_length_8abf5 4 = .ok (.arraylength, 1) := by decide +kernel
theorem dJ0_length_8abf5_5 : decode cJ0_length_8abf5 5 = .ok (.aload_n 0, 1) := by decide +kernel
theorem dJ0_length_8abf5_6 : decode cJ0_length_8abf5 6 = .ok (.invokevirtual 335, 3) := by decide +kernel
theorem dJ0_length_8abf5_9 : decode cJ0_length_8abf5 9 = .ok (.ishr, 1) := by decide +kernel
theorem dJ0_length_8abf5_10 : decode cJ0_length_8abf5 10 = .ok (.ireturn, 1) := by decide +kernel
theorem dJ0_coder_7d493_0 : decode cJ0_coder_7d493 0 = .ok (.getstatic 38, 3) := by decide +kernel
theorem dJ0_coder_7d493_3 : decode cJ0_coder_7d493 3 = .ok (.ifCond .eq 10, 3) := by decide +kernel
theorem dJ0_coder_7d493_6 : decode cJ0_coder_7d493 6 = .ok (.aload_n 0, 1) := by decide +kernel
theorem dJ0_coder_7d493_7 : decode cJ0_coder_7d493 7 = .ok (.getfield 15, 3) := by decide +kernel
theorem dJ0_coder_7d493_10 : decode cJ0_coder_7d493 10 = .ok (.goto 4, 3) := by decide +kernel
theorem dJ0_coder_7d493_13 : decode cJ0_coder_7d493 13 = .ok (.iconst 1, 1) := by decide +kernel
theorem dJ0_coder_7d493_14 : decode cJ0_coder_7d493 14 = .ok (.ireturn, 1) := by decide +kernel
theorem dJ0_charAt_5068e_0 : decode cJ0_charAt_5068e 0 = .ok (.aload_n 0, 1) := by decide +kernel
theorem dJ0_charAt_5068e_1 : decode cJ0_charAt_5068e 1 = .ok (.invokevirtual 492, 3) := by decide +kernel
theorem dJ0_charAt_5068e_4 : decode cJ0_charAt_5068e 4 = .ok (.ifCond .eq 12, 3) := by decide +kernel
theorem dJ0_charAt_5068e_7 : decode cJ0_charAt_5068e 7 = .ok (.aload_n 0, 1) := by decide +kernel
theorem dJ0_charAt_5068e_8 : decode cJ0_charAt_5068e 8 = .ok (.getfield 9, 3) := by decide +kernel
theorem dJ0_charAt_5068e_11 : decode cJ0_charAt_5068e 11 = .ok (.iload_n 1, 1) := by decide +kernel
theorem dJ0_charAt_5068e_12 : decode cJ0_charAt_5068e 12 = .ok (.invokestatic 495, 3) := by decide +kernel
theorem dJ0_charAt_5068e_15 : decode cJ0_charAt_5068e 15 = .ok (.ireturn, 1) := by decide +kernel
theorem dJ0_charAt_5068e_16 : decode cJ0_charAt_5068e 16 = .ok (.aload_n 0, 1) := by decide +kernel
theorem dJ0_charAt_5068e_17 : decode cJ0_charAt_5068e 17 = .ok (.getfield 9, 3) := by decide +kernel
theorem dJ0_charAt_5068e_20 : decode cJ0_charAt_5068e 20 = .ok (.iload_n 1, 1) := by decide +kernel
theorem dJ0_charAt_5068e_21 : decode cJ0_charAt_5068e 21 = .ok (.invokestatic 498, 3) := by decide +kernel
theorem dJ0_charAt_5068e_24 : decode cJ0_charAt_5068e 24 = .ok (.ireturn, 1) := by decide +kernel
theorem dJ0_isLatin1_aae02_0 : decode cJ0_isLatin1_aae02 0 = .ok (.getstatic 38, 3) := by decide +kernel
theorem dJ0_isLatin1_aae02_3 : decode cJ0_isLatin1_aae02 3 = .ok (.ifCond .eq 14, 3) := by decide +kernel
theorem dJ0_isLatin1_aae02_6 : decode cJ0_isLatin1_aae02 6 = .ok (.aload_n 0, 1) := by decide +kernel
theorem dJ0_isLatin1_aae02_7 : decode cJ0_isLatin1_aae02 7 = .ok (.getfield 15, 3) := by decide +kernel
theorem dJ0_isLatin1_aae02_10 : decode cJ0_isLatin1_aae02 10 = .ok (.ifCond .ne 7, 3) := by decide +kernel
theorem dJ0_isLatin1_aae02_13 : decode cJ0_isLatin1_aae02 13 = .ok (.iconst 1, 1) := by decide +kernel
theorem dJ0_isLatin1_aae02_14 : decode cJ0_isLatin1_aae02 14 = .ok (.goto 4, 3) := by decide +kernel
theorem dJ0_isLatin1_aae02_17 : decode cJ0_isLatin1_aae02 17 = .ok (.iconst 0, 1) := by decide +kernel
theorem dJ0_isLatin1_aae02_18 : decode cJ0_isLatin1_aae02 18 = .ok (.ireturn, 1) := by decide +kernel
theorem dJ1_charAt_3b067_0 : decode cJ1_charAt_3b067 0 = .ok (.iload_n 1, 1) := by decide +kernel
theorem dJ1_charAt_3b067_1 : decode cJ1_charAt_3b067 1 = .ok (.aload_n 0, 1) := by decide +kernel
theorem dJ1_charAt_3b067_2 : decode cJ1_charAt_3b067 2 = .ok (.arraylength, 1) := by decide +kernel
theorem dJ1_charAt_3b067_3 : decode cJ1_charAt_3b067 3 = .ok (.invokestatic 9, 3) := by decide +kernel
theorem dJ1_charAt_3b067_6 : decode cJ1_charAt_3b067 6 = .ok (.aload_n 0, 1) := by decide +kernel
theorem dJ1_charAt_3b067_7 : decode cJ1_charAt_3b067 7 = .ok (.iload_n 1, 1) := by decide +kernel
theorem dJ1_charAt_3b067_8 : decode cJ1_charAt_3b067 8 = .ok (.baload, 1) := by decide +kernel
theorem dJ1_charAt_3b067_9 : decode cJ1_charAt_3b067 9 = .ok (.sipush 255, 3) := by decide +kernel
theorem dJ1_charAt_3b067_12 : decode cJ1_charAt_3b067 12 = .ok (.iand, 1) := by decide +kernel
theorem dJ1_charAt_3b067_13 : decode cJ1_charAt_3b067 13 = .ok (.i2c, 1) := by decide +kernel
theorem dJ1_charAt_3b067_14 : decode cJ1_charAt_3b067 14 = .ok (.ireturn, 1) := by decide +kernel
theorem dJ0_checkIndex_df160_0 : decode cJ0_checkIndex_df160 0 = .ok (.iload_n 0, 1) := by decide +kernel
theorem dJ0_checkIndex_df160_1 : decode cJ0_checkIndex_df160 1 = .ok (.iload_n 1, 1) := by decide +kernel
theorem dJ0_checkIndex_df160_2 : decode cJ0_checkIndex_df160 2 = .ok (.getstatic 1053, 3) := by decide +kernel
theorem dJ0_checkIndex_df160_5 : decode cJ0_checkIndex_df160 5 = .ok (.invokestatic 1059, 3) := by decide +kernel
theorem dJ0_checkIndex_df160_8 : decode cJ0_checkIndex_df160 8 = .ok (.pop, 1) := by decide +kernel
theorem dJ0_checkIndex_df160_9 : decode cJ0_checkIndex_df160 9 = .ok (.return_, 1) := by decide +kernel
theorem dJ3_checkIndex_8e157_0 : decode cJ3_checkIndex_8e157 0 = .ok (.iload_n 0, 1) := by decide +kernel
theorem dJ3_checkIndex_8e157_1 : decode cJ3_checkIndex_8e157 1 = .ok (.ifCond .lt 8, 3) := by decide +kernel
theorem dJ3_checkIndex_8e157_4 : decode cJ3_checkIndex_8e157 4 = .ok (.iload_n 0, 1) := by decide +kernel
theorem dJ3_checkIndex_8e157_5 : decode cJ3_checkIndex_8e157 5 = .ok (.iload_n 1, 1) := by decide +kernel
theorem dJ3_checkIndex_8e157_6 : decode cJ3_checkIndex_8e157 6 = .ok (.if_icmp .lt 10, 3) := by decide +kernel
theorem dJ3_checkIndex_8e157_9 : decode cJ3_checkIndex_8e157 9 = .ok (.aload_n 2, 1) := by decide +kernel
theorem dJ3_checkIndex_8e157_10 : decode cJ3_checkIndex_8e157 10 = .ok (.iload_n 0, 1) := by decide +kernel
theorem dJ3_checkIndex_8e157_11 : decode cJ3_checkIndex_8e157 11 = .ok (.iload_n 1, 1) := by decide +kernel
theorem dJ3_checkIndex_8e157_12 : decode cJ3_checkIndex_8e157 12 = .ok (.invokestatic 95, 3) := by decide +kernel
theorem dJ3_checkIndex_8e157_15 : decode cJ3_checkIndex_8e157 15 = .ok (.athrow, 1) := by decide +kernel
theorem dJ3_checkIndex_8e157_16 : decode cJ3_checkIndex_8e157 16 = .ok (.iload_n 0, 1) := by decide +kernel
theorem dJ3_checkIndex_8e157_17 : decode cJ3_checkIndex_8e157 17 = .ok (.ireturn, 1) := by decide +kernel
theorem acw : Cond.native arraycopyName ∈ GG ∧ Cond.static arraycopyName ∈ GG ∧ Cond.initialized "java/lang/System" ∈ GG := ⟨w_683, w_682, w_71⟩
def cpZ (S : SH) (o : Nat) (i : Int32) (o2 : Nat) (j n : Int32) (μ : Mem) : Option Mem := if (List.range n.toNatClampNeg).all (fun q => decide (μ.1 o (i.toNatClampNeg + q) = 0) || decide (μ.1 o (i.toNatClampNeg + q) = 1)) = true then cpI S .boolean o i o2 j n μ else none
section Rows3
variable {γ : GE} {p : Program} {l : Launch} {e : Env} {R : Room} {s : State} {m : MethodId} {args : Array Value} {below : List Frame} {meth : Method} {c : Code} {cc : ByteArray} {own : String} {nL : Nat} {cells slots : Nat} {Q : State → Prop} {S : SH} {μ : Mem} {pc : Nat} {lv : List (Nat × Value)} {st : List Value} {ρ : Type} {X : ρ} {idx : Nat}
theorem j_cpI (F : FX γ p s m args meth c cc own nL) {o o2 : Nat} {i j cnt : Int32} {K : Mem → Option ρ} (hlk : Cond.methodLink own idx arraycopyName ∈ GG) (hR : 1 ≤ R.frames ∧ (st.map fun v => v.category).sum + (nativeFrameWords "java/lang/System" "arraycopy" 5 + 11) ≤ R.locals) (hd : decode cc pc = .ok (.invokestatic idx, 3)) (h : (cpI S .int o i o2 j cnt μ).bind K = some X) (k : ∀ ν, K ν = some X → JJ γ p l e R s m args below meth c nL cells slots Q S ν (pc + 3) lv st) : JJ γ p l e R s m args below meth c nL cells slots Q S μ pc lv (.int cnt :: .int j :: .ref (gb γ + o2) :: .int i :: .ref (gb γ + o) :: st) :=
  j_cp F 0 rfl rfl rfl hlk acw hR (fun _ _ => rfl) hd h k
theorem j_cpZ (F : FX γ p s m args meth c cc own nL) {o o2 : Nat} {i j cnt : Int32} {K : Mem → Option ρ} (hlk : Cond.methodLink own idx arraycopyName ∈ GG) (hR : 1 ≤ R.frames ∧ (st.map fun v => v.category).sum + (nativeFrameWords "java/lang/System" "arraycopy" 5 + 11) ≤ R.locals) (hd : decode cc pc = .ok (.invokestatic idx, 3)) (h : (cpZ S o i o2 j cnt μ).bind K = some X) (k : ∀ ν, K ν = some X → JJ γ p l e R s m args below meth c nL cells slots Q S ν (pc + 3) lv st) : JJ γ p l e R s m args below meth c nL cells slots Q S μ pc lv (.int cnt :: .int j :: .ref (gb γ + o2) :: .int i :: .ref (gb γ + o) :: st) := by
  obtain ⟨ν, hv, h⟩ := bd_some h
  obtain ⟨hb, hv⟩ := if_some hv
  refine j_cp F 3 rfl rfl rfl hlk acw hR (fun q hq => ?_) hd (K := K) (by rw [hv]; exact h) k
  have := List.all_eq_true.mp hb q (List.mem_range.mpr hq)
  simp only [Bool.or_eq_true, decide_eq_true_eq] at this
  rcases this with z | z <;> rw [z] <;> rfl
/-! ===== String.length(), String.charAt(k) of the constants ===== -/
theorem j_sV (F : FX γ p s m args meth c cc own nL) {i : Nat} (hi : i < 10) (hw : Cond.fieldLink own idx "java/lang/String" "value" "[B" ∈ GG) (hd : decode cc pc = .ok (.getfield idx, 3)) (k : JJ γ p l e R s m args below meth c nL cells slots Q S μ (pc + 3) lv (.ref (gV γ i) :: st)) : JJ γ p l e R s m args below meth c nL cells slots Q S μ pc lv (.ref (gK γ i) :: st) :=
  fun H locs ls hW hS hl => vk_getf F.1 F.2.1 (F.2.2.2.2.2.1.2.2.2.2.1 i hi).2.2.1 hS F.2.2.2.1 (F.2.2.2.2.1 _ hw) (fun _ h9 => h9) hd (k H locs ls hW hS hl)
theorem j_sC (F : FX γ p s m args meth c cc own nL) {i : Nat} (hi : i < 10) (hw : Cond.fieldLink own idx "java/lang/String" "coder" "B" ∈ GG) (hd : decode cc pc = .ok (.getfield idx, 3)) (k : JJ γ p l e R s m args below meth c nL cells slots Q S μ (pc + 3) lv (.int 0 :: st)) : JJ γ p l e R s m args below meth c nL cells slots Q S μ pc lv (.ref (gK γ i) :: st) :=
  fun H locs ls hW hS hl => vk_getf F.1 F.2.1 (F.2.2.2.2.2.1.2.2.2.2.1 i hi).2.1 hS F.2.2.2.1 (F.2.2.2.2.1 _ hw) (fun _ h9 => h9) hd (k H locs ls hW hS hl)
theorem j_sZ (F : FX γ p s m args meth c cc own nL) (hw : Cond.fieldLink own idx "java/lang/String" "COMPACT_STRINGS" "Z" ∈ GG) (hd : decode cc pc = .ok (.getstatic idx, 3)) (k : JJ γ p l e R s m args below meth c nL cells slots Q S μ (pc + 3) lv (.int 1 :: st)) : JJ γ p l e R s m args below meth c nL cells slots Q S μ pc lv st :=
  fun H locs ls hW hS hl => va_gets F.1 F.2.1 F.2.2.2.2.2.1.2.2.2.2.2.2.1 hS F.2.2.2.1 (F.2.2.2.2.1 _ hw) (fun _ h9 => h9) hd (k H locs ls hW hS hl)
theorem j_sF (F : FX γ p s m args meth c cc own nL) (hw : Cond.fieldLink own idx "jdk/internal/util/Preconditions" "SIOOBE_FORMATTER" "Ljava/util/function/BiFunction;" ∈ GG) (hd : decode cc pc = .ok (.getstatic idx, 3)) (k : ∀ v : Value, (v = .null ∨ ∃ t, v = .ref t) → JJ γ p l e R s m args below meth c nL cells slots Q S μ (pc + 3) lv (v :: st)) : JJ γ p l e R s m args below meth c nL cells slots Q S μ pc lv st := by
  intro H locs ls hW hS hl
  rcases F.2.2.2.2.2.1.2.2.2.2.2.2.2 with hz | ⟨t, hz⟩
  · exact va_gets F.1 F.2.1 hz hS F.2.2.2.1 (F.2.2.2.2.1 _ hw) (fun _ h9 => h9) hd (k _ (Or.inl rfl) H locs ls hW hS hl)
  · exact va_gets F.1 F.2.1 hz hS F.2.2.2.1 (F.2.2.2.2.1 _ hw) (fun _ h9 => h9) hd (k _ (Or.inr ⟨t, rfl⟩) H locs ls hW hS hl)
theorem j_sN (F : FX γ p s m args meth c cc own nL) {i : Nat} (hi : i < 10) (hd : decode cc pc = .ok (.arraylength, 1)) (k : JJ γ p l e R s m args below meth c nL cells slots Q S μ (pc + 1) lv (.int (Int32.ofNat (ksB i).length) :: st)) : JJ γ p l e R s m args below meth c nL cells slots Q S μ pc lv (.ref (gV γ i) :: st) :=
  fun H locs ls hW hS hl => va_tlen F.1 F.2.1 (F.2.2.2.2.2.1.2.2.2.2.1 i hi).2.2.2 hS rfl hd (k H locs ls hW hS hl)
theorem j_sB (F : FX γ p s m args meth c cc own nL) {i : Nat} {x : Int32} (hi : i < 10) (hx : inb x (ksB i).length = true) (hd : decode cc pc = .ok (.baload, 1)) (k : JJ γ p l e R s m args below meth c nL cells slots Q S μ (pc + 1) lv (.int ((ksB i).getD x.toNatClampNeg 0) :: st)) : JJ γ p l e R s m args below meth c nL cells slots Q S μ pc lv (.int x :: .ref (gV γ i) :: st) :=
  fun H locs ls hW hS hl => va_tb F.1 F.2.1 (F.2.2.2.2.2.1.2.2.2.2.1 i hi).2.2.2 hS (inb_in hx) rfl hd (k H locs ls hW hS hl)
theorem j_i2c (F : FX γ p s m args meth c cc own nL) {x : Int32} (hd : decode cc pc = .ok (.i2c, 1)) (k : JJ γ p l e R s m args below meth c nL cells slots Q S μ (pc + 1) lv (.int (x.toUInt32 % 65536).toInt32 :: st)) : JJ γ p l e R s m args below meth c nL cells slots Q S μ pc lv (.int x :: st) :=
  fun H locs ls hW hS hl => lv_i2c F.1 F.2.1 hd rfl (k H locs ls hW hS hl)
theorem j_pop (F : FX γ p s m args meth c cc own nL) {v : Value} (hc : v.category = 1) (hd : decode cc pc = .ok (.pop, 1)) (k : JJ γ p l e R s m args below meth c nL cells slots Q S μ (pc + 1) lv st) : JJ γ p l e R s m args below meth c nL cells slots Q S μ pc lv (v :: st) :=
  fun H locs ls hW hS hl => lv_pop F.1 F.2.1 hd hc (k H locs ls hW hS hl)
theorem j_xret (F : FX γ p s m args meth c cc own nL) {v : Int32} (ty : FieldType) (hr : meth.sig.returnType = some ty) (hn : narrow ty (.int v) = .int v) (hd : decode cc pc = .ok (.ireturn, 1)) : JJ γ p l e R s m args below meth c nL cells slots (MQ below (Qm γ S μ (some (.int v))) args s cells slots (AA γ)) S μ pc lv [.int v] :=
  fun H locs ls hW hS hl => W.zret (ty := ty) F.1 F.2.1 hr hn (fun t ht hw => ⟨rfl, by rw [ht]; exact hW, hS.F ht⟩) hS.2.2 hd F.2.2.2.2.2.2
theorem j_vret0 (F : FX γ p s m args meth c cc own nL) (hr : meth.sig.returnType = none) (hd : decode cc pc = .ok (.return_, 1)) : JJ γ p l e R s m args below meth c nL cells slots (MQ below (Qm γ S μ none) args s cells slots (AA γ)) S μ pc lv [] :=
  fun H locs ls hW hS hl => W.vret F.1 F.2.1 hr (fun t ht hw => ⟨rfl, by rw [ht]; exact hW, hS.F ht⟩) hS.2.2 hd F.2.2.2.2.2.2
/-- a method of String -/
def MT (y : MethodName) (cc : ByteArray) (nL : Nat) (ret : Option FieldType) (n : Nat) : Prop := y.cls = "java/lang/String" ∧ Cond.instanceMethod y ∈ GG ∧ Cond.selects "java/lang/String" y y ∈ GG ∧ Cond.initialized y.cls ∈ GG ∧ Cond.code y cc nL ret ∈ GG ∧ y.cls ≠ "java/lang/invoke/MethodHandle" ∧ y.cls ≠ "java/lang/invoke/VarHandle" ∧ (parseMethodDescriptor y.desc).map (fun d => d.parameters.length) = some n
theorem j_callT (F : FX γ p s m args meth c cc own nL) {y : MethodName} {cc' : ByteArray} {nL' : Nat} {ret : Option FieldType} {rm : Room} {n i : Nat} {As rest : List Value} {r : Option Value} (hi : i < 10) (hM : MT y cc' nL' ret n) (hlk : Cond.methodLink own idx y ∈ GG) (hct : Ct l γ y cc' nL' ret rm (.ref (gK γ i) :: As) S μ S μ r) (st0 : List Value) (hst : st0 = As.reverse ++ .ref (gK γ i) :: rest) (hn : As.length = n) (hr : (rest.map fun v => v.category).sum ≤ 8) (hR : rm.frames + 1 ≤ R.frames ∧ 8 + (nL' + 11) + rm.locals ≤ R.locals) (hc : cells ≤ R.cells ∧ slots ≤ R.slots) (hz : rm.cells = 0 ∧ rm.slots = 0) (hd : decode cc pc = .ok (.invokevirtual idx, 3)) (k : JJ γ p l e R s m args below meth c nL cells slots Q S μ (pc + 3) lv (r.toList ++ rest)) : JJ γ p l e R s m args below meth c nL cells slots Q S μ pc lv st0 := by
  obtain ⟨m0, m1, m2, m3, m4, m5⟩ := hM
  have hts := F.2.2.2.2.1
  refine j_cont (mc := rm.cells) (ms := rm.slots) (a := (Value.ref (gK γ i) :: As).toArray) (fun H locs ls hW hS hl => ?_) (by rw [hz.1, hz.2]; exact k)
  exact va_runV (As := As) (rest := rest) (C := "java/lang/String") ⟨F.1, F.2.1, F.2.2.1, F.2.2.2.1, hts⟩ hct ⟨callB_of n hts (gg_call m4) rfl rfl rfl (hts _ m3) (hts _ hlk) m5 hR, hts _ m1, hts _ m2⟩ ⟨Pm.blind, (by
    obtain ⟨cell, h1, h2, h3, -⟩ := (F.2.2.2.2.2.1.2.2.2.2.1 i hi).1.kept hS.2.1
    exact ⟨cell, h1, h2, h3⟩), fun U hU hw => j_pre F hW hS hU hw⟩ rfl hn hl.1 hst (lv_room hr) hd (by rw [hz.1, hz.2]; exact hc)
end Rows3
theorem mt_coder : MT yJ0_coder_7d493 cJ0_coder_7d493 1 (some .byte) 0 := ⟨rfl, w_763, w_764, w_72, w_765, by decide, by decide, by decide +kernel⟩
theorem mt_isLatin1 : MT yJ0_isLatin1_aae02 cJ0_isLatin1_aae02 1 (some .boolean) 0 := ⟨rfl, w_773, w_774, w_72, w_775, by decide, by decide, by decide +kernel⟩
theorem mt_slen : MT yJ0_length_8abf5 cJ0_length_8abf5 1 (some .int) 0 := ⟨rfl, w_759, w_760, w_72, w_761, by decide, by decide, by decide +kernel⟩
theorem mt_sat : MT yJ0_charAt_5068e cJ0_charAt_5068e 2 (some .char) 1 := ⟨rfl, w_769, w_770, w_72, w_771, by decide, by decide, by decide +kernel⟩
def rmS (f n : Nat) : Room := { frames := f, cells := 0, slots := 0, locals := n }
theorem c_coder {l : Launch} {γ : GE} {S : SH} {μ : Mem} {i : Nat} (hi : i < 10) : Ct l γ yJ0_coder_7d493 cJ0_coder_7d493 1 (some .byte) (rmS 0 0) [.ref (gK γ i)] S μ S μ (some (.int 0)) :=
  ct_of (by decide +kernel) (Nat.le_of_ble_eq_true rfl) (fun p e s m args below meth c F hr _ => by
    show JJ γ p l e (rmS 0 0) s m args below meth c 1 0 0 _ S μ 0 [(0, .ref (gK γ i))] []
    refine j_sZ F w_766 dJ0_coder_7d493_0 ?_
    refine j_ifeq (ρ := Unit) (X := ()) F 13 dJ0_coder_7d493_3 (by decide) (a := none) (b := some ()) (by rw [if_neg (by decide)]) (fun q _ => absurd q (by decide)) (fun _ _ => ?_)
    refine j_aload_n F 0 dJ0_coder_7d493_6 rfl ?_
    refine j_sC F hi w_1488 dJ0_coder_7d493_7 ?_
    refine j_goto F 14 dJ0_coder_7d493_10 (by decide) ?_
    exact j_xret F .byte hr rfl dJ0_coder_7d493_14)
theorem c_isLatin1 {l : Launch} {γ : GE} {S : SH} {μ : Mem} {i : Nat} (hi : i < 10) : Ct l γ yJ0_isLatin1_aae02 cJ0_isLatin1_aae02 1 (some .boolean) (rmS 0 0) [.ref (gK γ i)] S μ S μ (some (.int 1)) :=
  ct_of (by decide +kernel) (Nat.le_of_ble_eq_true rfl) (fun p e s m args below meth c F hr _ => by
    show JJ γ p l e (rmS 0 0) s m args below meth c 1 0 0 _ S μ 0 [(0, .ref (gK γ i))] []
    refine j_sZ F w_766 dJ0_isLatin1_aae02_0 ?_
    refine j_ifeq (ρ := Unit) (X := ()) F 17 dJ0_isLatin1_aae02_3 (by decide) (a := none) (b := some ()) (by rw [if_neg (by decide)]) (fun q _ => absurd q (by decide)) (fun _ _ => ?_)
    refine j_aload_n F 0 dJ0_isLatin1_aae02_6 rfl ?_
    refine j_sC F hi w_1488 dJ0_isLatin1_aae02_7 ?_
    refine j_ifne (ρ := Unit) (X := ()) F 17 dJ0_isLatin1_aae02_10 (by decide) (a := some ()) (b := none) (by rw [if_pos rfl]) (fun q _ => absurd rfl q) (fun _ _ => ?_)
    refine j_iconst F 1 dJ0_isLatin1_aae02_13 (by decide) ?_
    refine j_goto F 18 dJ0_isLatin1_aae02_14 (by decide) ?_
    exact j_xret F .boolean hr rfl dJ0_isLatin1_aae02_18)
theorem ks_shr : ∀ i, i < 10 → Int32.ofNat (ksB i).length >>> ((0 : Int32) &&& 31) = Int32.ofNat (ksB i).length := by decide +kernel
theorem c_slen {l : Launch} {γ : GE} {S : SH} {μ : Mem} {i : Nat} (hi : i < 10) : Ct l γ yJ0_length_8abf5 cJ0_length_8abf5 1 (some .int) (rmS 1 40) [.ref (gK γ i)] S μ S μ (some (.int (Int32.ofNat (ksB i).length))) :=
  ct_of (by decide +kernel) (Nat.le_of_ble_eq_true rfl) (fun p e s m args below meth c F hr _ => by
    show JJ γ p l e (rmS 1 40) s m args below meth c 1 0 0 _ S μ 0 [(0, .ref (gK γ i))] []
    refine j_aload_n F 0 dJ0_length_8abf5_0 rfl ?_
    refine j_sV F hi w_1487 dJ0_length_8abf5_1 ?_
    refine j_sN F hi dJ0_length_8abf5_4 ?_
    refine j_aload_n F 0 dJ0_length_8abf5_5 rfl ?_
    refine j_callT F hi mt_coder w_762 (c_coder hi) (rest := [.int (Int32.ofNat (ksB i).length)]) _ rfl rfl (Nat.le_of_ble_eq_true rfl) ⟨Nat.le_of_ble_eq_true rfl, Nat.le_of_ble_eq_true rfl⟩ ⟨Nat.le_of_ble_eq_true rfl, Nat.le_of_ble_eq_true rfl⟩ ⟨rfl, rfl⟩ dJ0_length_8abf5_6 ?_
    refine j_ishr F dJ0_length_8abf5_9 ?_
    rw [ks_shr i hi]
    exact j_xret F .int hr rfl dJ0_length_8abf5_10)
theorem c_check3 {l : Launch} {γ : GE} {S : SH} {μ : Mem} {x n : Int32} {v : Value} (hv : v = .null ∨ ∃ t, v = .ref t) (h0 : ¬ x < 0) (h1 : x < n) : Ct l γ yJ3_checkIndex_8e157 cJ3_checkIndex_8e157 3 (some .int) (rmS 0 0) [.int x, .int n, v] S μ S μ (some (.int x)) :=
  ct_of (by decide +kernel) (by rcases hv with rfl | ⟨t, rfl⟩ <;> exact Nat.le_of_ble_eq_true rfl) (fun p e s m args below meth c F hr _ => by
    show JJ γ p l e (rmS 0 0) s m args below meth c 3 0 0 _ S μ 0 [(0, .int x), (1, .int n), (2, v)] []
    refine j_iload_n F 0 dJ3_checkIndex_8e157_0 rfl ?_
    refine j_iflt (ρ := Unit) (X := ()) F 9 dJ3_checkIndex_8e157_1 (by decide) (a := none) (b := some ()) (by rw [if_neg h0]) (fun q _ => absurd q h0) (fun _ _ => ?_)
    refine j_iload_n F 0 dJ3_checkIndex_8e157_4 rfl ?_
    refine j_iload_n F 1 dJ3_checkIndex_8e157_5 rfl ?_
    refine j_icmplt (ρ := Unit) (X := ()) F 16 dJ3_checkIndex_8e157_6 (by decide) (a := some ()) (b := none) (by rw [if_pos h1]) (fun _ _ => ?_) (fun q _ => absurd h1 q)
    refine j_iload_n F 0 dJ3_checkIndex_8e157_16 rfl ?_
    exact j_xret F .int hr rfl dJ3_checkIndex_8e157_17)
theorem c_check0 {l : Launch} {γ : GE} {S : SH} {μ : Mem} {x n : Int32} (h0 : ¬ x < 0) (h1 : x < n) : Ct l γ yJ0_checkIndex_df160 cJ0_checkIndex_df160 2 none (rmS 1 40) [.int x, .int n] S μ S μ none :=
  ct_of (by decide +kernel) (Nat.le_of_ble_eq_true rfl) (fun p e s m args below meth c F hr _ => by
    show JJ γ p l e (rmS 1 40) s m args below meth c 2 0 0 _ S μ 0 [(0, .int x), (1, .int n)] []
    refine j_iload_n F 0 dJ0_checkIndex_df160_0 rfl ?_
    refine j_iload_n F 1 dJ0_checkIndex_df160_1 rfl ?_
    refine j_sF F w_782 dJ0_checkIndex_df160_2 (fun v hv => ?_)
    refine j_callS F mi_check3 w_784 (c_check3 hv h0 h1) (rest := []) _ rfl rfl (Nat.le_of_ble_eq_true rfl) ⟨Nat.le_of_ble_eq_true rfl, Nat.le_of_ble_eq_true rfl⟩ ⟨Nat.le_of_ble_eq_true rfl, Nat.le_of_ble_eq_true rfl⟩ dJ0_checkIndex_df160_5 ?_
    refine j_pop F rfl dJ0_checkIndex_df160_8 ?_
    exact j_vret0 F hr dJ0_checkIndex_df160_9)
theorem ks_chr : ∀ i, i < 10 → ∀ j, j < (ksB i).length → ((((ksB i).getD j 0) &&& 255).toUInt32 % 65536).toInt32 = (ksB i).getD j 0 ∧ narrow .char (.int ((ksB i).getD j 0)) = .int ((ksB i).getD j 0) := by decide +kernel
theorem ks_len : ∀ i, i < 10 → (ksB i).length < 10 := by decide +kernel
theorem ks_in {i : Nat} {x : Int32} (hi : i < 10) (hx : inb x (ksB i).length = true) : ¬ x < 0 ∧ x < Int32.ofNat (ksB i).length ∧ x.toNatClampNeg < (ksB i).length := by
  have h := inb_in hx
  have hl := ks_len i hi
  have h0 : ¬ x < 0 := fun q => h (Or.inl q)
  have h1 : x.toNatClampNeg < (ksB i).length := Nat.not_le.mp fun q => h (Or.inr q)
  obtain ⟨j, hj, rfl⟩ := nI_of h0
  rw [nI_clamp hj] at h1
  exact ⟨h0, nI_lt h1 (by omega), by rw [nI_clamp hj]; exact h1⟩
theorem c_lat {l : Launch} {γ : GE} {S : SH} {μ : Mem} {i : Nat} {x : Int32} (hi : i < 10) (hx : inb x (ksB i).length = true) : Ct l γ yJ1_charAt_3b067 cJ1_charAt_3b067 2 (some .char) (rmS 2 80) [.ref (gV γ i), .int x] S μ S μ (some (.int ((ksB i).getD x.toNatClampNeg 0))) :=
  ct_of (by decide +kernel) (Nat.le_of_ble_eq_true rfl) (fun p e s m args below meth c F hr _ => by
    show JJ γ p l e (rmS 2 80) s m args below meth c 2 0 0 _ S μ 0 [(0, .ref (gV γ i)), (1, .int x)] []
    obtain ⟨h0, h1, h2⟩ := ks_in hi hx
    refine j_iload_n F 1 dJ1_charAt_3b067_0 rfl ?_
    refine j_aload_n F 0 dJ1_charAt_3b067_1 rfl ?_
    refine j_sN F hi dJ1_charAt_3b067_2 ?_
    refine j_callS F mi_check0 w_779 (c_check0 h0 h1) (rest := []) _ rfl rfl (Nat.le_of_ble_eq_true rfl) ⟨Nat.le_of_ble_eq_true rfl, Nat.le_of_ble_eq_true rfl⟩ ⟨Nat.le_of_ble_eq_true rfl, Nat.le_of_ble_eq_true rfl⟩ dJ1_charAt_3b067_3 ?_
    refine j_aload_n F 0 dJ1_charAt_3b067_6 rfl ?_
    refine j_iload_n F 1 dJ1_charAt_3b067_7 rfl ?_
    refine j_sB F hi hx dJ1_charAt_3b067_8 ?_
    refine j_sipush F 255 dJ1_charAt_3b067_9 (by decide) ?_
    refine j_iand F dJ1_charAt_3b067_12 ?_
    refine j_i2c F dJ1_charAt_3b067_13 ?_
    rw [(ks_chr i hi _ h2).1]
    exact j_xret F .char hr (ks_chr i hi _ h2).2 dJ1_charAt_3b067_14)
theorem c_sat {l : Launch} {γ : GE} {S : SH} {μ : Mem} {i : Nat} {x : Int32} (hi : i < 10) (hx : inb x (ksB i).length = true) : Ct l γ yJ0_charAt_5068e cJ0_charAt_5068e 2 (some .char) (rmS 3 110) [.ref (gK γ i), .int x] S μ S μ (some (.int ((ksB i).getD x.toNatClampNeg 0))) :=
  ct_of (by decide +kernel) (Nat.le_of_ble_eq_true rfl) (fun p e s m args below meth c F hr _ => by
    show JJ γ p l e (rmS 3 110) s m args below meth c 2 0 0 _ S μ 0 [(0, .ref (gK γ i)), (1, .int x)] []
    obtain ⟨h0, h1, h2⟩ := ks_in hi hx
    refine j_aload_n F 0 dJ0_charAt_5068e_0 rfl ?_
    refine j_callT F hi mt_isLatin1 w_772 (c_isLatin1 hi) (rest := []) _ rfl rfl (Nat.le_of_ble_eq_true rfl) ⟨Nat.le_of_ble_eq_true rfl, Nat.le_of_ble_eq_true rfl⟩ ⟨Nat.le_of_ble_eq_true rfl, Nat.le_of_ble_eq_true rfl⟩ ⟨rfl, rfl⟩ dJ0_charAt_5068e_1 ?_
    refine j_ifeq (ρ := Unit) (X := ()) F 16 dJ0_charAt_5068e_4 (by decide) (a := none) (b := some ()) (by rw [if_neg (by decide)]) (fun q _ => absurd q (by decide)) (fun _ _ => ?_)
    refine j_aload_n F 0 dJ0_charAt_5068e_7 rfl ?_
    refine j_sV F hi w_1487 dJ0_charAt_5068e_8 ?_
    refine j_iload_n F 1 dJ0_charAt_5068e_11 rfl ?_
    refine j_callS F mi_lat w_776 (c_lat hi hx) (rest := []) _ rfl rfl (Nat.le_of_ble_eq_true rfl) ⟨Nat.le_of_ble_eq_true rfl, Nat.le_of_ble_eq_true rfl⟩ ⟨Nat.le_of_ble_eq_true rfl, Nat.le_of_ble_eq_true rfl⟩ dJ0_charAt_5068e_12 ?_
    exact j_xret F .char hr (ks_chr i hi _ h2).2 dJ0_charAt_5068e_15)
section Rows4
variable {γ : GE} {p : Program} {l : Launch} {e : Env} {R : Room} {s : State} {m : MethodId} {args : Array Value} {below : List Frame} {meth : Method} {c : Code} {cc : ByteArray} {own : String} {nL : Nat} {cells slots : Nat} {Q : State → Prop} {S : SH} {μ : Mem} {pc : Nat} {lv : List (Nat × Value)} {st rest : List Value} {ρ : Type} {X : ρ} {idx : Nat}
theorem j_slen (F : FX γ p s m args meth c cc own nL) {i : Nat} {K : Int32 → Option ρ} (hlk : Cond.methodLink own idx yJ0_length_8abf5 ∈ GG) (hr : (rest.map fun v => v.category).sum ≤ 8) (hR : (rmS 1 40).frames + 1 ≤ R.frames ∧ 8 + (1 + 11) + (rmS 1 40).locals ≤ R.locals) (hc : cells ≤ R.cells ∧ slots ≤ R.slots) (hd : decode cc pc = .ok (.invokevirtual idx, 3)) (h : (tLen i).bind K = some X) (k : ∀ v, K v = some X → JJ γ p l e R s m args below meth c nL cells slots Q S μ (pc + 3) lv (.int v :: rest)) : JJ γ p l e R s m args below meth c nL cells slots Q S μ pc lv (.ref (gK γ i) :: rest) := by
  obtain ⟨v, hv, h⟩ := bd_some h
  obtain ⟨hi, hv⟩ := if_some hv
  cases hv
  exact j_callT F hi mt_slen hlk (c_slen hi) (As := []) _ rfl rfl hr hR hc ⟨rfl, rfl⟩ hd (k _ h)
theorem j_sat (F : FX γ p s m args meth c cc own nL) {i : Nat} {x : Int32} {K : Int32 → Option ρ} (hlk : Cond.methodLink own idx yJ0_charAt_5068e ∈ GG) (hr : (rest.map fun v => v.category).sum ≤ 8) (hR : (rmS 3 110).frames + 1 ≤ R.frames ∧ 8 + (2 + 11) + (rmS 3 110).locals ≤ R.locals) (hc : cells ≤ R.cells ∧ slots ≤ R.slots) (hd : decode cc pc = .ok (.invokevirtual idx, 3)) (h : (tAt i x).bind K = some X) (k : ∀ v, K v = some X → JJ γ p l e R s m args below meth c nL cells slots Q S μ (pc + 3) lv (.int v :: rest)) : JJ γ p l e R s m args below meth c nL cells slots Q S μ pc lv (.int x :: .ref (gK γ i) :: rest) := by
  obtain ⟨v, hv, h⟩ := bd_some h
  obtain ⟨⟨hi, hx⟩, hv⟩ := if_some hv
  cases hv
  exact j_callT F hi mt_sat hlk (c_sat hi hx) (As := [.int x]) _ rfl rfl hr hR hc ⟨rfl, rfl⟩ hd (k _ h)
end Rows4
end
section
/-- a contract out of the judgement at the entry, of a class that has natives -/
theorem ct_ofF {l : Launch} {γ : GE} {y : MethodName} {cc : ByteArray} {nL : Nat} {ret : Option FieldType} {rm : Room} {av : List Value} {S : SH} {μ : Mem} {S' : SH} {μ' : Mem} {r : Option Value} (hy : plainFor y = true) (hlen : (lg_sl av).length ≤ nL)
    (body : ∀ (p : Program) (e : Env) (s : State) (m : MethodId) (args : Array Value) (below : List Frame) (meth : Method) (c : Code), FX γ p s m args meth c cc y.cls nL → meth.sig.returnType = ret → meth.name = y.name → JJ γ p l e rm s m args below meth c nL 0 0 (MQ below (Qm γ S' μ' r) args s rm.cells rm.slots (AA γ)) S μ 0 (lv_args 0 av) []) : Ct l γ y cc nL ret rm av S μ S' μ' r := by
  refine va_MetF (cc := cc) (maxL := nL) (ret := ret) hy rfl ?_
  intro p e s m args below meth c s₁ B hml hv
  obtain ⟨rfl, hK, hW⟩ := hv
  have hts := atoms_spec (ws := Cond.code y cc nL ret :: GG) B.pre
  have hin : meth.name = y.name := (name_of_methodNamed B.named B.method).1
  have hl := lv_entry av (n := nL) hlen
  rw [lg_entry_eq]
  exact body p e s m av.toArray below meth c ⟨B.exec, B.bytes, hml, findClass_of_methodNamed B.named, fun w hw => hts w (List.mem_cons_of_mem _ hw), hK, B.notSynchronized⟩ B.returns hin s.heap [] _ hW va_S.rf hl
end
section
def rm_X0_dropEldest : Room := { frames := 1, cells := 0, slots := 0, locals := 60 }
theorem dX0_dropEldest_0 : decode cX0_dropEldest 0 = .ok (.aload_n 0, 1) := by decide +kernel
theorem dX0_dropEldest_1 : decode cX0_dropEldest 1 = .ok (.dup, 1) := by decide +kernel
theorem dX0_dropEldest_2 : decode cX0_dropEldest 2 = .ok (.getfield 21, 3) := by decide +kernel
theorem dX0_dropEldest_5 : decode cX0_dropEldest 5 = .ok (.iconst 1, 1) := by decide +kernel
theorem dX0_dropEldest_6 : decode cX0_dropEldest 6 = .ok (.isub, 1) := by decide +kernel
theorem dX0_dropEldest_7 : decode cX0_dropEldest 7 = .ok (.putfield 21, 3) := by decide +kernel
theorem dX0_dropEldest_10 : decode cX0_dropEldest 10 = .ok (.aload_n 0, 1) := by decide +kernel
theorem dX0_dropEldest_11 : decode cX0_dropEldest 11 = .ok (.getfield 9, 3) := by decide +kernel
theorem dX0_dropEldest_14 : decode cX0_dropEldest 14 = .ok (.iconst 1, 1) := by decide +kernel
theorem dX0_dropEldest_15 : decode cX0_dropEldest 15 = .ok (.aload_n 0, 1) := by decide +kernel
theorem dX0_dropEldest_16 : decode cX0_dropEldest 16 = .ok (.getfield 9, 3) := by decide +kernel
theorem dX0_dropEldest_19 : decode cX0_dropEldest 19 = .ok (.iconst 0, 1) := by decide +kernel
theorem dX0_dropEldest_20 : decode cX0_dropEldest 20 = .ok (.aload_n 0, 1) := by decide +kernel
theorem dX0_dropEldest_21 : decode cX0_dropEldest 21 = .ok (.getfield 21, 3) := by decide +kernel
theorem dX0_dropEldest_24 : decode cX0_dropEldest 24 = .ok (.invokestatic 28, 3) := by decide +kernel
theorem dX0_dropEldest_27 : decode cX0_dropEldest 27 = .ok (.aload_n 0, 1) := by decide +kernel
theorem dX0_dropEldest_28 : decode cX0_dropEldest 28 = .ok (.getfield 15, 3) := by decide +kernel
theorem dX0_dropEldest_31 : decode cX0_dropEldest 31 = .ok (.iconst 1, 1) := by decide +kernel
theorem dX0_dropEldest_32 : decode cX0_dropEldest 32 = .ok (.aload_n 0, 1) := by decide +kernel
theorem dX0_dropEldest_33 : decode cX0_dropEldest 33 = .ok (.getfield 15, 3) := by decide +kernel
theorem dX0_dropEldest_36 : decode cX0_dropEldest 36 = .ok (.iconst 0, 1) := by decide +kernel
theorem dX0_dropEldest_37 : decode cX0_dropEldest 37 = .ok (.aload_n 0, 1) := by decide +kernel
theorem dX0_dropEldest_38 : decode cX0_dropEldest 38 = .ok (.getfield 21, 3) := by decide +kernel
theorem dX0_dropEldest_41 : decode cX0_dropEldest 41 = .ok (.invokestatic 28, 3) := by decide +kernel
theorem dX0_dropEldest_44 : decode cX0_dropEldest 44 = .ok (.aload_n 0, 1) := by decide +kernel
theorem dX0_dropEldest_45 : decode cX0_dropEldest 45 = .ok (.getfield 18, 3) := by decide +kernel
theorem dX0_dropEldest_48 : decode cX0_dropEldest 48 = .ok (.iconst 1, 1) := by decide +kernel
theorem dX0_dropEldest_49 : decode cX0_dropEldest 49 = .ok (.aload_n 0, 1) := by decide +kernel
theorem dX0_dropEldest_50 : decode cX0_dropEldest 50 = .ok (.getfield 18, 3) := by decide +kernel
theorem dX0_dropEldest_53 : decode cX0_dropEldest 53 = .ok (.iconst 0, 1) := by decide +kernel
theorem dX0_dropEldest_54 : decode cX0_dropEldest 54 = .ok (.aload_n 0, 1) := by decide +kernel
theorem dX0_dropEldest_55 : decode cX0_dropEldest 55 = .ok (.getfield 21, 3) := by decide +kernel
theorem dX0_dropEldest_58 : decode cX0_dropEldest 58 = .ok (.invokestatic 28, 3) := by decide +kernel
theorem dX0_dropEldest_61 : decode cX0_dropEldest 61 = .ok (.return_, 1) := by decide +kernel
def f_X0_dropEldest (S : SH) (a0 : Nat) (μ : Mem) : Option (Unit × Mem) :=
  if isO S 0 a0 = true then
  (gI S 0 a0 3 μ).bind fun v1 =>
  (pI S 0 a0 3 (v1 - 1) μ).bind fun ν2 =>
  (gR S 0 a0 0).bind fun v3 =>
  (gR S 0 a0 0).bind fun v4 =>
  (gI S 0 a0 3 ν2).bind fun v5 =>
  (cpI S .int v3 1 v4 0 v5 ν2).bind fun ν6 =>
  (gR S 0 a0 1).bind fun v7 =>
  (gR S 0 a0 1).bind fun v8 =>
  (gI S 0 a0 3 ν6).bind fun v9 =>
  (cpI S .int v7 1 v8 0 v9 ν6).bind fun ν10 =>
  (gR S 0 a0 2).bind fun v11 =>
  (gR S 0 a0 2).bind fun v12 =>
  (gI S 0 a0 3 ν10).bind fun v13 =>
  (cpI S .int v11 1 v12 0 v13 ν10).bind fun ν14 =>
  some ((), ν14)
  else none
set_option maxRecDepth 100000 in
set_option maxHeartbeats 4000000 in
theorem c_X0_dropEldest {l : Launch} {γ : GE} {S : SH} {a0 : Nat} {μ : Mem} {X : (Unit × Mem)} (h : f_X0_dropEldest S a0 μ = some X) : isO S 0 a0 = true ∧ Ct l γ yX0_dropEldest cX0_dropEldest 1 (none) rm_X0_dropEldest [.ref (gb γ + a0)] S μ S X.2 none := by
  unfold f_X0_dropEldest at h
  obtain ⟨h0, h⟩ := if_some h
  refine ⟨h0, ?_⟩
  have hJ : ∀ (p : Program) (e : Env) (s : State) (m : MethodId) (args : Array Value) (below : List Frame) (meth : Method) (c : Code), FX γ p s m args meth c cX0_dropEldest RX0 1 → meth.sig.returnType = (none) → JJ γ p l e rm_X0_dropEldest s m args below meth c 1 0 0 (QV below γ S X args s 0 0) S μ 0 [(0, .ref (gb γ + a0))] [] := by
    intro p e s m args below meth c F hr
    refine j_aload_n F 0 dX0_dropEldest_0 rfl ?_
    refine j_dup F dX0_dropEldest_1 rfl ?_
    refine j_gI F fl_RX0_21.l rfl dX0_dropEldest_2 h (fun v1 h => ?_)
    refine j_iconst F 1 dX0_dropEldest_5 (by decide) ?_
    refine j_isub F dX0_dropEldest_6 ?_
    refine j_pI F fl_RX0_21 rfl dX0_dropEldest_7 h (fun ν2 h => ?_)
    refine j_aload_n F 0 dX0_dropEldest_10 rfl ?_
    refine j_gR F fl_RX0_9 rfl dX0_dropEldest_11 h (fun v3 h => ?_)
    refine j_iconst F 1 dX0_dropEldest_14 (by decide) ?_
    refine j_aload_n F 0 dX0_dropEldest_15 rfl ?_
    refine j_gR F fl_RX0_9 rfl dX0_dropEldest_16 h (fun v4 h => ?_)
    refine j_iconst F 0 dX0_dropEldest_19 (by decide) ?_
    refine j_aload_n F 0 dX0_dropEldest_20 rfl ?_
    refine j_gI F fl_RX0_21.l rfl dX0_dropEldest_21 h (fun v5 h => ?_)
    refine j_cpI F w_915 ⟨Nat.le_of_ble_eq_true rfl, Nat.le_of_ble_eq_true rfl⟩ dX0_dropEldest_24 h (fun ν6 h => ?_)
    refine j_aload_n F 0 dX0_dropEldest_27 rfl ?_
    refine j_gR F fl_RX0_15 rfl dX0_dropEldest_28 h (fun v7 h => ?_)
    refine j_iconst F 1 dX0_dropEldest_31 (by decide) ?_
    refine j_aload_n F 0 dX0_dropEldest_32 rfl ?_
    refine j_gR F fl_RX0_15 rfl dX0_dropEldest_33 h (fun v8 h => ?_)
    refine j_iconst F 0 dX0_dropEldest_36 (by decide) ?_
    refine j_aload_n F 0 dX0_dropEldest_37 rfl ?_
    refine j_gI F fl_RX0_21.l rfl dX0_dropEldest_38 h (fun v9 h => ?_)
    refine j_cpI F w_915 ⟨Nat.le_of_ble_eq_true rfl, Nat.le_of_ble_eq_true rfl⟩ dX0_dropEldest_41 h (fun ν10 h => ?_)
    refine j_aload_n F 0 dX0_dropEldest_44 rfl ?_
    refine j_gR F fl_RX0_18 rfl dX0_dropEldest_45 h (fun v11 h => ?_)
    refine j_iconst F 1 dX0_dropEldest_48 (by decide) ?_
    refine j_aload_n F 0 dX0_dropEldest_49 rfl ?_
    refine j_gR F fl_RX0_18 rfl dX0_dropEldest_50 h (fun v12 h => ?_)
    refine j_iconst F 0 dX0_dropEldest_53 (by decide) ?_
    refine j_aload_n F 0 dX0_dropEldest_54 rfl ?_
    refine j_gI F fl_RX0_21.l rfl dX0_dropEldest_55 h (fun v13 h => ?_)
    refine j_cpI F w_915 ⟨Nat.le_of_ble_eq_true rfl, Nat.le_of_ble_eq_true rfl⟩ dX0_dropEldest_58 h (fun ν14 h => ?_)
    exact j_vret F hr dX0_dropEldest_61 h
  exact ct_of (by decide +kernel) (Nat.le_of_ble_eq_true rfl) (fun p e s m args below meth c F hr _ => hJ p e s m args below meth c F hr)
def rm_X0_keep : Room := { frames := 2, cells := 0, slots := 0, locals := 80 }
theorem dX0_keep_0 : decode cX0_keep 0 = .ok (.aload_n 0, 1) := by decide +kernel
theorem dX0_keep_1 : decode cX0_keep 1 = .ok (.getfield 21, 3) := by decide +kernel
theorem dX0_keep_4 : decode cX0_keep 4 = .ok (.bipush 8, 2) := by decide +kernel
theorem dX0_keep_6 : decode cX0_keep 6 = .ok (.if_icmp .ne 7, 3) := by decide +kernel
theorem dX0_keep_9 : decode cX0_keep 9 = .ok (.aload_n 0, 1) := by decide +kernel
theorem dX0_keep_10 : decode cX0_keep 10 = .ok (.invokevirtual 25, 3) := by decide +kernel
theorem dX0_keep_13 : decode cX0_keep 13 = .ok (.aload_n 0, 1) := by decide +kernel
theorem dX0_keep_14 : decode cX0_keep 14 = .ok (.getfield 9, 3) := by decide +kernel
theorem dX0_keep_17 : decode cX0_keep 17 = .ok (.aload_n 0, 1) := by decide +kernel
theorem dX0_keep_18 : decode cX0_keep 18 = .ok (.getfield 21, 3) := by decide +kernel
theorem dX0_keep_21 : decode cX0_keep 21 = .ok (.iload_n 1, 1) := by decide +kernel
theorem dX0_keep_22 : decode cX0_keep 22 = .ok (.iastore, 1) := by decide +kernel
theorem dX0_keep_23 : decode cX0_keep 23 = .ok (.aload_n 0, 1) := by decide +kernel
theorem dX0_keep_24 : decode cX0_keep 24 = .ok (.getfield 15, 3) := by decide +kernel
theorem dX0_keep_27 : decode cX0_keep 27 = .ok (.aload_n 0, 1) := by decide +kernel
theorem dX0_keep_28 : decode cX0_keep 28 = .ok (.getfield 21, 3) := by decide +kernel
theorem dX0_keep_31 : decode cX0_keep 31 = .ok (.iload_n 2, 1) := by decide +kernel
theorem dX0_keep_32 : decode cX0_keep 32 = .ok (.iastore, 1) := by decide +kernel
theorem dX0_keep_33 : decode cX0_keep 33 = .ok (.aload_n 0, 1) := by decide +kernel
theorem dX0_keep_34 : decode cX0_keep 34 = .ok (.getfield 18, 3) := by decide +kernel
theorem dX0_keep_37 : decode cX0_keep 37 = .ok (.aload_n 0, 1) := by decide +kernel
theorem dX0_keep_38 : decode cX0_keep 38 = .ok (.getfield 21, 3) := by decide +kernel
theorem dX0_keep_41 : decode cX0_keep 41 = .ok (.iload_n 3, 1) := by decide +kernel
theorem dX0_keep_42 : decode cX0_keep 42 = .ok (.iastore, 1) := by decide +kernel
theorem dX0_keep_43 : decode cX0_keep 43 = .ok (.aload_n 0, 1) := by decide +kernel
theorem dX0_keep_44 : decode cX0_keep 44 = .ok (.dup, 1) := by decide +kernel
theorem dX0_keep_45 : decode cX0_keep 45 = .ok (.getfield 21, 3) := by decide +kernel
theorem dX0_keep_48 : decode cX0_keep 48 = .ok (.iconst 1, 1) := by decide +kernel
theorem dX0_keep_49 : decode cX0_keep 49 = .ok (.iadd, 1) := by decide +kernel
theorem dX0_keep_50 : decode cX0_keep 50 = .ok (.putfield 21, 3) := by decide +kernel
theorem dX0_keep_53 : decode cX0_keep 53 = .ok (.aload_n 0, 1) := by decide +kernel
theorem dX0_keep_54 : decode cX0_keep 54 = .ok (.getfield 21, 3) := by decide +kernel
theorem dX0_keep_57 : decode cX0_keep 57 = .ok (.ireturn, 1) := by decide +kernel
def b_X0_keep_13 (S : SH) (a0 : Nat) (a1 : Int32) (a2 : Int32) (a3 : Int32) (μ : Mem) : Option (Int32 × Mem) :=
 (gR S 0 a0 0).bind fun v2 =>
 (gI S 0 a0 3 μ).bind fun v3 =>
 (sI S v2 v3 a1 μ).bind fun ν4 =>
 (gR S 0 a0 1).bind fun v5 =>
 (gI S 0 a0 3 ν4).bind fun v6 =>
 (sI S v5 v6 a2 ν4).bind fun ν7 =>
 (gR S 0 a0 2).bind fun v8 =>
 (gI S 0 a0 3 ν7).bind fun v9 =>
 (sI S v8 v9 a3 ν7).bind fun ν10 =>
 (gI S 0 a0 3 ν10).bind fun v11 =>
 (pI S 0 a0 3 (v11 + 1) ν10).bind fun ν12 =>
 (gI S 0 a0 3 ν12).bind fun v13 =>
 some (v13, ν12)
set_option maxRecDepth 100000 in
set_option maxHeartbeats 4000000 in
theorem s_X0_keep_13 {γ : GE} {p : Program} {l : Launch} {e : Env} {s : State} {m : MethodId} {args : Array Value} {below : List Frame} {meth : Method} {c : Code} {S : SH} {X : (Int32 × Mem)} (F : FX γ p s m args meth c cX0_keep RX0 4) (hr : meth.sig.returnType = (some .int))  (a0 : Nat) (a1 : Int32) (a2 : Int32) (a3 : Int32)  (μ : Mem) (h : b_X0_keep_13 S a0 a1 a2 a3 μ = some X) : JJ γ p l e rm_X0_keep s m args below meth c 4 0 0 (QI below γ S X args s 0 0) S μ 13 [(0, .ref (gb γ + a0)), (1, .int a1), (2, .int a2), (3, .int a3)] [] := by
  unfold b_X0_keep_13 at h
  refine j_aload_n F 0 dX0_keep_13 rfl ?_
  refine j_gR F fl_RX0_9 rfl dX0_keep_14 h (fun v2 h => ?_)
  refine j_aload_n F 0 dX0_keep_17 rfl ?_
  refine j_gI F fl_RX0_21.l rfl dX0_keep_18 h (fun v3 h => ?_)
  refine j_iload_n F 1 dX0_keep_21 rfl ?_
  refine j_iast F dX0_keep_22 h (fun ν4 h => ?_)
  refine j_aload_n F 0 dX0_keep_23 rfl ?_
  refine j_gR F fl_RX0_15 rfl dX0_keep_24 h (fun v5 h => ?_)
  refine j_aload_n F 0 dX0_keep_27 rfl ?_
  refine j_gI F fl_RX0_21.l rfl dX0_keep_28 h (fun v6 h => ?_)
  refine j_iload_n F 2 dX0_keep_31 rfl ?_
  refine j_iast F dX0_keep_32 h (fun ν7 h => ?_)
  refine j_aload_n F 0 dX0_keep_33 rfl ?_
  refine j_gR F fl_RX0_18 rfl dX0_keep_34 h (fun v8 h => ?_)
  refine j_aload_n F 0 dX0_keep_37 rfl ?_
  refine j_gI F fl_RX0_21.l rfl dX0_keep_38 h (fun v9 h => ?_)
  refine j_iload_n F 3 dX0_keep_41 rfl ?_
  refine j_iast F dX0_keep_42 h (fun ν10 h => ?_)
  refine j_aload_n F 0 dX0_keep_43 rfl ?_
  refine j_dup F dX0_keep_44 rfl ?_
  refine j_gI F fl_RX0_21.l rfl dX0_keep_45 h (fun v11 h => ?_)
  refine j_iconst F 1 dX0_keep_48 (by decide) ?_
  refine j_iadd F dX0_keep_49 ?_
  refine j_pI F fl_RX0_21 rfl dX0_keep_50 h (fun ν12 h => ?_)
  refine j_aload_n F 0 dX0_keep_53 rfl ?_
  refine j_gI F fl_RX0_21.l rfl dX0_keep_54 h (fun v13 h => ?_)
  exact j_iret F hr dX0_keep_57 h
def f_X0_keep (S : SH) (a0 : Nat) (a1 : Int32) (a2 : Int32) (a3 : Int32) (μ : Mem) : Option (Int32 × Mem) :=
  if isO S 0 a0 = true then
  (gI S 0 a0 3 μ).bind fun v1 =>
  (if v1 = 8 then
  (f_X0_dropEldest S a0 μ).bind fun q14 =>
  b_X0_keep_13 S a0 a1 a2 a3 q14.2
  else
  b_X0_keep_13 S a0 a1 a2 a3 μ)
  else none
set_option maxRecDepth 100000 in
set_option maxHeartbeats 4000000 in
theorem c_X0_keep {l : Launch} {γ : GE} {S : SH} {a0 : Nat} {a1 : Int32} {a2 : Int32} {a3 : Int32} {μ : Mem} {X : (Int32 × Mem)} (h : f_X0_keep S a0 a1 a2 a3 μ = some X) : isO S 0 a0 = true ∧ Ct l γ yX0_keep cX0_keep 4 (some .int) rm_X0_keep [.ref (gb γ + a0), .int a1, .int a2, .int a3] S μ S X.2 (some (.int X.1)) := by
  unfold f_X0_keep at h
  obtain ⟨h0, h⟩ := if_some h
  refine ⟨h0, ?_⟩
  have hJ : ∀ (p : Program) (e : Env) (s : State) (m : MethodId) (args : Array Value) (below : List Frame) (meth : Method) (c : Code), FX γ p s m args meth c cX0_keep RX0 4 → meth.sig.returnType = (some .int) → JJ γ p l e rm_X0_keep s m args below meth c 4 0 0 (QI below γ S X args s 0 0) S μ 0 [(0, .ref (gb γ + a0)), (1, .int a1), (2, .int a2), (3, .int a3)] [] := by
    intro p e s m args below meth c F hr
    refine j_aload_n F 0 dX0_keep_0 rfl ?_
    refine j_gI F fl_RX0_21.l rfl dX0_keep_1 h (fun v1 h => ?_)
    refine j_bipush F 8 dX0_keep_4 (by decide) ?_
    refine j_icmpne F 13 dX0_keep_6 (by decide) h (fun _ h => ?_) (fun _ h => ?_)
    · exact s_X0_keep_13 F hr _ _ _ _ _ h
    · refine j_aload_n F 0 dX0_keep_9 rfl ?_
      refine j_cVV F mi_X0_dropEldest w_911 (rest := []) h (fun _ g => c_X0_dropEldest g) rfl rfl (Nat.le_of_ble_eq_true rfl) ⟨Nat.le_of_ble_eq_true rfl, Nat.le_of_ble_eq_true rfl⟩ ⟨Nat.le_of_ble_eq_true rfl, Nat.le_of_ble_eq_true rfl⟩ dX0_keep_10 (fun q14 h => ?_)
      exact s_X0_keep_13 F hr _ _ _ _ _ h
  exact ct_of (by decide +kernel) (Nat.le_of_ble_eq_true rfl) (fun p e s m args below meth c F hr _ => hJ p e s m args below meth c F hr)
def rm_X0_withMost : Room := { frames := 0, cells := 0, slots := 0, locals := 0 }
theorem dX0_withMost_0 : decode cX0_withMost 0 = .ok (.bipush (-5), 2) := by decide +kernel
theorem dX0_withMost_2 : decode cX0_withMost 2 = .ok (.istore_n 1, 1) := by decide +kernel
theorem dX0_withMost_3 : decode cX0_withMost 3 = .ok (.iconst (-1), 1) := by decide +kernel
theorem dX0_withMost_4 : decode cX0_withMost 4 = .ok (.istore_n 2, 1) := by decide +kernel
theorem dX0_withMost_5 : decode cX0_withMost 5 = .ok (.iconst 0, 1) := by decide +kernel
theorem dX0_withMost_6 : decode cX0_withMost 6 = .ok (.istore_n 3, 1) := by decide +kernel
theorem dX0_withMost_7 : decode cX0_withMost 7 = .ok (.iload_n 3, 1) := by decide +kernel
theorem dX0_withMost_8 : decode cX0_withMost 8 = .ok (.aload_n 0, 1) := by decide +kernel
theorem dX0_withMost_9 : decode cX0_withMost 9 = .ok (.getfield 21, 3) := by decide +kernel
theorem dX0_withMost_12 : decode cX0_withMost 12 = .ok (.if_icmp .ge 42, 3) := by decide +kernel
theorem dX0_withMost_15 : decode cX0_withMost 15 = .ok (.aload_n 0, 1) := by decide +kernel
theorem dX0_withMost_16 : decode cX0_withMost 16 = .ok (.getfield 9, 3) := by decide +kernel
theorem dX0_withMost_19 : decode cX0_withMost 19 = .ok (.iload_n 3, 1) := by decide +kernel
theorem dX0_withMost_20 : decode cX0_withMost 20 = .ok (.iaload, 1) := by decide +kernel
theorem dX0_withMost_21 : decode cX0_withMost 21 = .ok (.aload_n 0, 1) := by decide +kernel
theorem dX0_withMost_22 : decode cX0_withMost 22 = .ok (.getfield 18, 3) := by decide +kernel
theorem dX0_withMost_25 : decode cX0_withMost 25 = .ok (.iload_n 3, 1) := by decide +kernel
theorem dX0_withMost_26 : decode cX0_withMost 26 = .ok (.iaload, 1) := by decide +kernel
theorem dX0_withMost_27 : decode cX0_withMost 27 = .ok (.imul, 1) := by decide +kernel
theorem dX0_withMost_28 : decode cX0_withMost 28 = .ok (.iload_n 2, 1) := by decide +kernel
theorem dX0_withMost_29 : decode cX0_withMost 29 = .ok (.if_icmp .le 19, 3) := by decide +kernel
theorem dX0_withMost_32 : decode cX0_withMost 32 = .ok (.aload_n 0, 1) := by decide +kernel
theorem dX0_withMost_33 : decode cX0_withMost 33 = .ok (.getfield 9, 3) := by decide +kernel
theorem dX0_withMost_36 : decode cX0_withMost 36 = .ok (.iload_n 3, 1) := by decide +kernel
theorem dX0_withMost_37 : decode cX0_withMost 37 = .ok (.iaload, 1) := by decide +kernel
theorem dX0_withMost_38 : decode cX0_withMost 38 = .ok (.aload_n 0, 1) := by decide +kernel
theorem dX0_withMost_39 : decode cX0_withMost 39 = .ok (.getfield 18, 3) := by decide +kernel
theorem dX0_withMost_42 : decode cX0_withMost 42 = .ok (.iload_n 3, 1) := by decide +kernel
theorem dX0_withMost_43 : decode cX0_withMost 43 = .ok (.iaload, 1) := by decide +kernel
theorem dX0_withMost_44 : decode cX0_withMost 44 = .ok (.imul, 1) := by decide +kernel
theorem dX0_withMost_45 : decode cX0_withMost 45 = .ok (.istore_n 2, 1) := by decide +kernel
theorem dX0_withMost_46 : decode cX0_withMost 46 = .ok (.iload_n 3, 1) := by decide +kernel
theorem dX0_withMost_47 : decode cX0_withMost 47 = .ok (.istore_n 1, 1) := by decide +kernel
theorem dX0_withMost_48 : decode cX0_withMost 48 = .ok (.iinc 3 1, 3) := by decide +kernel
theorem dX0_withMost_51 : decode cX0_withMost 51 = .ok (.goto (-44), 3) := by decide +kernel
theorem dX0_withMost_54 : decode cX0_withMost 54 = .ok (.iload_n 1, 1) := by decide +kernel
theorem dX0_withMost_55 : decode cX0_withMost 55 = .ok (.ireturn, 1) := by decide +kernel
def l_X0_withMost_7 (S : SH) (a0 : Nat) (k7 : (Int32 × Int32 × Int32 × Mem) → Option (Int32 × Mem)) (x : (Int32 × Int32 × Int32 × Mem)) : Option (Int32 × Mem) :=
 (gI S 0 a0 3 x.2.2.2).bind fun v1 =>
 (if v1 ≤ x.2.2.1 then
 some (x.1, x.2.2.2)
 else
 (gR S 0 a0 0).bind fun v2 =>
 (aI S .int v2 x.2.2.1 x.2.2.2).bind fun v3 =>
 (gR S 0 a0 2).bind fun v4 =>
 (aI S .int v4 x.2.2.1 x.2.2.2).bind fun v5 =>
 (if (v3 * v5) ≤ x.2.1 then
 k7 (x.1, x.2.1, x.2.2.1 + 1, x.2.2.2)
 else
 (gR S 0 a0 0).bind fun v6 =>
 (aI S .int v6 x.2.2.1 x.2.2.2).bind fun v7 =>
 (gR S 0 a0 2).bind fun v8 =>
 (aI S .int v8 x.2.2.1 x.2.2.2).bind fun v9 =>
 (some (v7 * v9)).bind fun y10 =>
 k7 (x.2.2.1, y10, x.2.2.1 + 1, x.2.2.2)))
set_option maxRecDepth 100000 in
set_option maxHeartbeats 4000000 in
theorem t_X0_withMost_7 {γ : GE} {p : Program} {l : Launch} {e : Env} {s : State} {m : MethodId} {args : Array Value} {below : List Frame} {meth : Method} {c : Code} {S : SH} {X : (Int32 × Mem)} (F : FX γ p s m args meth c cX0_withMost RX0 4) (hr : meth.sig.returnType = (some .int)) (a0 : Nat) (k7 : (Int32 × Int32 × Int32 × Mem) → Option (Int32 × Mem)) (hk7 : ∀ x : (Int32 × Int32 × Int32 × Mem), k7 x = some X → JJ γ p l e rm_X0_withMost s m args below meth c 4 0 0 (QI below γ S X args s 0 0) S x.2.2.2 7 [(0, .ref (gb γ + a0)), (1, .int x.1), (2, .int x.2.1), (3, .int x.2.2.1)] []) (x : (Int32 × Int32 × Int32 × Mem)) (h : l_X0_withMost_7 S a0 k7 x = some X) : JJ γ p l e rm_X0_withMost s m args below meth c 4 0 0 (QI below γ S X args s 0 0) S x.2.2.2 7 [(0, .ref (gb γ + a0)), (1, .int x.1), (2, .int x.2.1), (3, .int x.2.2.1)] [] := by
  unfold l_X0_withMost_7 at h
  refine j_iload_n F 3 dX0_withMost_7 rfl ?_
  refine j_aload_n F 0 dX0_withMost_8 rfl ?_
  refine j_gI F fl_RX0_21.l rfl dX0_withMost_9 h (fun v1 h => ?_)
  refine j_icmpge F 54 dX0_withMost_12 (by decide) h (fun _ h => ?_) (fun _ h => ?_)
  · refine j_iload_n F 1 dX0_withMost_54 rfl ?_
    exact j_iret F hr dX0_withMost_55 h
  · refine j_aload_n F 0 dX0_withMost_15 rfl ?_
    refine j_gR F fl_RX0_9 rfl dX0_withMost_16 h (fun v2 h => ?_)
    refine j_iload_n F 3 dX0_withMost_19 rfl ?_
    refine j_iald F dX0_withMost_20 h (fun v3 h => ?_)
    refine j_aload_n F 0 dX0_withMost_21 rfl ?_
    refine j_gR F fl_RX0_18 rfl dX0_withMost_22 h (fun v4 h => ?_)
    refine j_iload_n F 3 dX0_withMost_25 rfl ?_
    refine j_iald F dX0_withMost_26 h (fun v5 h => ?_)
    refine j_imul F dX0_withMost_27 ?_
    refine j_iload_n F 2 dX0_withMost_28 rfl ?_
    refine j_icmple F 48 dX0_withMost_29 (by decide) h (fun _ h => ?_) (fun _ h => ?_)
    · refine j_iinc F 1 3 [(3, .int (x.2.2.1 + 1)), (0, .ref (gb γ + a0)), (1, .int x.1), (2, .int x.2.1)] dX0_withMost_48 rfl (by decide) (by decide) rfl ?_
      refine j_goto F 7 dX0_withMost_51 (by decide) ?_
      refine j_lv [(0, .ref (gb γ + a0)), (1, .int x.1), (2, .int x.2.1), (3, .int (x.2.2.1 + 1))] [1, 2, 3, 0] rfl ?_
      have h9 := hk7 _ h
      exact h9
    · refine j_aload_n F 0 dX0_withMost_32 rfl ?_
      refine j_gR F fl_RX0_9 rfl dX0_withMost_33 h (fun v6 h => ?_)
      refine j_iload_n F 3 dX0_withMost_36 rfl ?_
      refine j_iald F dX0_withMost_37 h (fun v7 h => ?_)
      refine j_aload_n F 0 dX0_withMost_38 rfl ?_
      refine j_gR F fl_RX0_18 rfl dX0_withMost_39 h (fun v8 h => ?_)
      refine j_iload_n F 3 dX0_withMost_42 rfl ?_
      refine j_iald F dX0_withMost_43 h (fun v9 h => ?_)
      refine j_imul F dX0_withMost_44 ?_
      refine j_nmI h (fun y10 h => ?_)
      refine j_istore_n F [(2, .int y10), (0, .ref (gb γ + a0)), (1, .int x.1), (3, .int x.2.2.1)] dX0_withMost_45 rfl (by decide) rfl ?_
      refine j_iload_n F 3 dX0_withMost_46 rfl ?_
      refine j_istore_n F [(1, .int x.2.2.1), (2, .int y10), (0, .ref (gb γ + a0)), (3, .int x.2.2.1)] dX0_withMost_47 rfl (by decide) rfl ?_
      refine j_iinc F 1 3 [(3, .int (x.2.2.1 + 1)), (1, .int x.2.2.1), (2, .int y10), (0, .ref (gb γ + a0))] dX0_withMost_48 rfl (by decide) (by decide) rfl ?_
      refine j_goto F 7 dX0_withMost_51 (by decide) ?_
      refine j_lv [(0, .ref (gb γ + a0)), (1, .int x.2.2.1), (2, .int y10), (3, .int (x.2.2.1 + 1))] [3, 1, 2, 0] rfl ?_
      have h9 := hk7 _ h
      exact h9
theorem s_X0_withMost_7 {γ : GE} {p : Program} {l : Launch} {e : Env} {s : State} {m : MethodId} {args : Array Value} {below : List Frame} {meth : Method} {c : Code} {S : SH} {X : (Int32 × Mem)} (F : FX γ p s m args meth c cX0_withMost RX0 4) (hr : meth.sig.returnType = (some .int)) (a0 : Nat) (x : (Int32 × Int32 × Int32 × Mem)) (h : lpN (l_X0_withMost_7 S a0) fu x = some X) : JJ γ p l e rm_X0_withMost s m args below meth c 4 0 0 (QI below γ S X args s 0 0) S x.2.2.2 7 [(0, .ref (gb γ + a0)), (1, .int x.1), (2, .int x.2.1), (3, .int x.2.2.1)] [] :=
 lpN_sound (fun x => JJ γ p l e rm_X0_withMost s m args below meth c 4 0 0 (QI below γ S X args s 0 0) S x.2.2.2 7 [(0, .ref (gb γ + a0)), (1, .int x.1), (2, .int x.2.1), (3, .int x.2.2.1)] []) (fun k7 hk7 x h => t_X0_withMost_7 F hr a0 k7 hk7 x h) fu x h
def f_X0_withMost (S : SH) (a0 : Nat) (μ : Mem) : Option (Int32 × Mem) :=
  if isO S 0 a0 = true then
  lpN (l_X0_withMost_7 S  a0) fu ((-5), (-1), 0, μ)
  else none
set_option maxRecDepth 100000 in
set_option maxHeartbeats 4000000 in
theorem c_X0_withMost {l : Launch} {γ : GE} {S : SH} {a0 : Nat} {μ : Mem} {X : (Int32 × Mem)} (h : f_X0_withMost S a0 μ = some X) : isO S 0 a0 = true ∧ Ct l γ yX0_withMost cX0_withMost 4 (some .int) rm_X0_withMost [.ref (gb γ + a0)] S μ S X.2 (some (.int X.1)) := by
  unfold f_X0_withMost at h
  obtain ⟨h0, h⟩ := if_some h
  refine ⟨h0, ?_⟩
  have hJ : ∀ (p : Program) (e : Env) (s : State) (m : MethodId) (args : Array Value) (below : List Frame) (meth : Method) (c : Code), FX γ p s m args meth c cX0_withMost RX0 4 → meth.sig.returnType = (some .int) → JJ γ p l e rm_X0_withMost s m args below meth c 4 0 0 (QI below γ S X args s 0 0) S μ 0 [(0, .ref (gb γ + a0))] [] := by
    intro p e s m args below meth c F hr
    refine j_bipush F (-5) dX0_withMost_0 (by decide) ?_
    refine j_istore_n F [(1, .int (-5)), (0, .ref (gb γ + a0))] dX0_withMost_2 rfl (by decide) rfl ?_
    refine j_iconst F (-1) dX0_withMost_3 (by decide) ?_
    refine j_istore_n F [(2, .int (-1)), (1, .int (-5)), (0, .ref (gb γ + a0))] dX0_withMost_4 rfl (by decide) rfl ?_
    refine j_iconst F 0 dX0_withMost_5 (by decide) ?_
    refine j_istore_n F [(3, .int 0), (2, .int (-1)), (1, .int (-5)), (0, .ref (gb γ + a0))] dX0_withMost_6 rfl (by decide) rfl ?_
    refine j_lv [(0, .ref (gb γ + a0)), (1, .int (-5)), (2, .int (-1)), (3, .int 0)] [3, 2, 1, 0] rfl ?_
    exact s_X0_withMost_7 F hr _ _ h
  exact ct_of (by decide +kernel) (Nat.le_of_ble_eq_true rfl) (fun p e s m args below meth c F hr _ => hJ p e s m args below meth c F hr)
def rm_X1_has : Room := { frames := 0, cells := 0, slots := 0, locals := 0 }
theorem dX1_has_0 : decode cX1_has 0 = .ok (.aload_n 0, 1) := by decide +kernel
theorem dX1_has_1 : decode cX1_has 1 = .ok (.getfield 9, 3) := by decide +kernel
theorem dX1_has_4 : decode cX1_has 4 = .ok (.iload_n 1, 1) := by decide +kernel
theorem dX1_has_5 : decode cX1_has 5 = .ok (.iaload, 1) := by decide +kernel
theorem dX1_has_6 : decode cX1_has 6 = .ok (.iconst (-1), 1) := by decide +kernel
theorem dX1_has_7 : decode cX1_has 7 = .ok (.if_icmp .eq 7, 3) := by decide +kernel
theorem dX1_has_10 : decode cX1_has 10 = .ok (.iconst 1, 1) := by decide +kernel
theorem dX1_has_11 : decode cX1_has 11 = .ok (.goto 4, 3) := by decide +kernel
theorem dX1_has_14 : decode cX1_has 14 = .ok (.iconst 0, 1) := by decide +kernel
theorem dX1_has_15 : decode cX1_has 15 = .ok (.ireturn, 1) := by decide +kernel
def f_X1_has (S : SH) (a0 : Nat) (a1 : Int32) (μ : Mem) : Option (Int32 × Mem) :=
  if isO S 1 a0 = true then
  (gR S 1 a0 0).bind fun v1 =>
  (aI S .int v1 a1 μ).bind fun v2 =>
  (if v2 = (-1) then
  some (0, μ)
  else
  some (1, μ))
  else none
set_option maxRecDepth 100000 in
set_option maxHeartbeats 4000000 in
theorem c_X1_has {l : Launch} {γ : GE} {S : SH} {a0 : Nat} {a1 : Int32} {μ : Mem} {X : (Int32 × Mem)} (h : f_X1_has S a0 a1 μ = some X) : isO S 1 a0 = true ∧ Ct l γ yX1_has cX1_has 2 (some .boolean) rm_X1_has [.ref (gb γ + a0), .int a1] S μ S X.2 (some (.int X.1)) := by
  unfold f_X1_has at h
  obtain ⟨h0, h⟩ := if_some h
  refine ⟨h0, ?_⟩
  have hJ : ∀ (p : Program) (e : Env) (s : State) (m : MethodId) (args : Array Value) (below : List Frame) (meth : Method) (c : Code), FX γ p s m args meth c cX1_has RX1 2 → meth.sig.returnType = (some .boolean) → JJ γ p l e rm_X1_has s m args below meth c 2 0 0 (QI below γ S X args s 0 0) S μ 0 [(0, .ref (gb γ + a0)), (1, .int a1)] [] := by
    intro p e s m args below meth c F hr
    refine j_aload_n F 0 dX1_has_0 rfl ?_
    refine j_gR F fl_RX1_9 rfl dX1_has_1 h (fun v1 h => ?_)
    refine j_iload_n F 1 dX1_has_4 rfl ?_
    refine j_iald F dX1_has_5 h (fun v2 h => ?_)
    refine j_iconst F (-1) dX1_has_6 (by decide) ?_
    refine j_icmpeq F 14 dX1_has_7 (by decide) h (fun _ h => ?_) (fun _ h => ?_)
    · refine j_iconst F 0 dX1_has_14 (by decide) ?_
      exact j_zret F hr (Or.inl rfl) dX1_has_15 h
    · refine j_iconst F 1 dX1_has_10 (by decide) ?_
      refine j_goto F 15 dX1_has_11 (by decide) ?_
      exact j_zret F hr (Or.inr rfl) dX1_has_15 h
  exact ct_of (by decide +kernel) (Nat.le_of_ble_eq_true rfl) (fun p e s m args below meth c F hr _ => hJ p e s m args below meth c F hr)
def rm_X1_write : Room := { frames := 1, cells := 0, slots := 0, locals := 21 }
theorem dX1_write_0 : decode cX1_write 0 = .ok (.aload_n 0, 1) := by decide +kernel
theorem dX1_write_1 : decode cX1_write 1 = .ok (.dup, 1) := by decide +kernel
theorem dX1_write_2 : decode cX1_write 2 = .ok (.getfield 21, 3) := by decide +kernel
theorem dX1_write_5 : decode cX1_write 5 = .ok (.aload_n 0, 1) := by decide +kernel
theorem dX1_write_6 : decode cX1_write 6 = .ok (.iload_n 1, 1) := by decide +kernel
theorem dX1_write_7 : decode cX1_write 7 = .ok (.invokevirtual 25, 3) := by decide +kernel
theorem dX1_write_10 : decode cX1_write 10 = .ok (.ifCond .eq 7, 3) := by decide +kernel
theorem dX1_write_13 : decode cX1_write 13 = .ok (.iconst 1, 1) := by decide +kernel
theorem dX1_write_14 : decode cX1_write 14 = .ok (.goto 4, 3) := by decide +kernel
theorem dX1_write_17 : decode cX1_write 17 = .ok (.iconst 0, 1) := by decide +kernel
theorem dX1_write_18 : decode cX1_write 18 = .ok (.isub, 1) := by decide +kernel
theorem dX1_write_19 : decode cX1_write 19 = .ok (.putfield 21, 3) := by decide +kernel
theorem dX1_write_22 : decode cX1_write 22 = .ok (.aload_n 0, 1) := by decide +kernel
theorem dX1_write_23 : decode cX1_write 23 = .ok (.getfield 9, 3) := by decide +kernel
theorem dX1_write_26 : decode cX1_write 26 = .ok (.iload_n 1, 1) := by decide +kernel
theorem dX1_write_27 : decode cX1_write 27 = .ok (.iload_n 2, 1) := by decide +kernel
theorem dX1_write_28 : decode cX1_write 28 = .ok (.iastore, 1) := by decide +kernel
theorem dX1_write_29 : decode cX1_write 29 = .ok (.aload_n 0, 1) := by decide +kernel
theorem dX1_write_30 : decode cX1_write 30 = .ok (.dup, 1) := by decide +kernel
theorem dX1_write_31 : decode cX1_write 31 = .ok (.getfield 21, 3) := by decide +kernel
theorem dX1_write_34 : decode cX1_write 34 = .ok (.aload_n 0, 1) := by decide +kernel
theorem dX1_write_35 : decode cX1_write 35 = .ok (.iload_n 1, 1) := by decide +kernel
theorem dX1_write_36 : decode cX1_write 36 = .ok (.invokevirtual 25, 3) := by decide +kernel
theorem dX1_write_39 : decode cX1_write 39 = .ok (.ifCond .eq 7, 3) := by decide +kernel
theorem dX1_write_42 : decode cX1_write 42 = .ok (.iconst 1, 1) := by decide +kernel
theorem dX1_write_43 : decode cX1_write 43 = .ok (.goto 4, 3) := by decide +kernel
theorem dX1_write_46 : decode cX1_write 46 = .ok (.iconst 0, 1) := by decide +kernel
theorem dX1_write_47 : decode cX1_write 47 = .ok (.iadd, 1) := by decide +kernel
theorem dX1_write_48 : decode cX1_write 48 = .ok (.putfield 21, 3) := by decide +kernel
theorem dX1_write_51 : decode cX1_write 51 = .ok (.return_, 1) := by decide +kernel
def b_X1_write_18 (S : SH) (a0 : Nat) (a1 : Int32) (a2 : Int32) (t0 : Int32) (t1 : Int32) (t2 : Nat) (μ : Mem) : Option (Unit × Mem) :=
 (pI S 1 t2 1 (t1 - t0) μ).bind fun ν3 =>
 (gR S 1 a0 0).bind fun v4 =>
 (sI S v4 a1 a2 ν3).bind fun ν5 =>
 (gI S 1 a0 1 ν5).bind fun v6 =>
 (f_X1_has S a0 a1 ν5).bind fun q7 =>
 (if q7.1 = 0 then
 (pI S 1 a0 1 (v6 + 0) q7.2).bind fun ν8 =>
 some ((), ν8)
 else
 (pI S 1 a0 1 (v6 + 1) q7.2).bind fun ν9 =>
 some ((), ν9))
set_option maxRecDepth 100000 in
set_option maxHeartbeats 4000000 in
theorem s_X1_write_18 {γ : GE} {p : Program} {l : Launch} {e : Env} {s : State} {m : MethodId} {args : Array Value} {below : List Frame} {meth : Method} {c : Code} {S : SH} {X : (Unit × Mem)} (F : FX γ p s m args meth c cX1_write RX1 3) (hr : meth.sig.returnType = (none))  (a0 : Nat) (a1 : Int32) (a2 : Int32) (t0 : Int32) (t1 : Int32) (t2 : Nat) (μ : Mem) (h : b_X1_write_18 S a0 a1 a2 t0 t1 t2 μ = some X) : JJ γ p l e rm_X1_write s m args below meth c 3 0 0 (QV below γ S X args s 0 0) S μ 18 [(0, .ref (gb γ + a0)), (1, .int a1), (2, .int a2)] [.int t0, .int t1, .ref (gb γ + t2)] := by
  unfold b_X1_write_18 at h
  refine j_isub F dX1_write_18 ?_
  refine j_pI F fl_RX1_21 rfl dX1_write_19 h (fun ν3 h => ?_)
  refine j_aload_n F 0 dX1_write_22 rfl ?_
  refine j_gR F fl_RX1_9 rfl dX1_write_23 h (fun v4 h => ?_)
  refine j_iload_n F 1 dX1_write_26 rfl ?_
  refine j_iload_n F 2 dX1_write_27 rfl ?_
  refine j_iast F dX1_write_28 h (fun ν5 h => ?_)
  refine j_aload_n F 0 dX1_write_29 rfl ?_
  refine j_dup F dX1_write_30 rfl ?_
  refine j_gI F fl_RX1_21.l rfl dX1_write_31 h (fun v6 h => ?_)
  refine j_aload_n F 0 dX1_write_34 rfl ?_
  refine j_iload_n F 1 dX1_write_35 rfl ?_
  refine j_cVI F mi_X1_has w_533 (rest := [.int v6, .ref (gb γ + a0)]) h (fun _ g => c_X1_has g) rfl rfl (Nat.le_of_ble_eq_true rfl) ⟨Nat.le_of_ble_eq_true rfl, Nat.le_of_ble_eq_true rfl⟩ ⟨Nat.le_of_ble_eq_true rfl, Nat.le_of_ble_eq_true rfl⟩ dX1_write_36 (fun q7 h => ?_)
  refine j_ifeq F 46 dX1_write_39 (by decide) h (fun _ h => ?_) (fun _ h => ?_)
  · refine j_iconst F 0 dX1_write_46 (by decide) ?_
    refine j_iadd F dX1_write_47 ?_
    refine j_pI F fl_RX1_21 rfl dX1_write_48 h (fun ν8 h => ?_)
    exact j_vret F hr dX1_write_51 h
  · refine j_iconst F 1 dX1_write_42 (by decide) ?_
    refine j_goto F 47 dX1_write_43 (by decide) ?_
    refine j_iadd F dX1_write_47 ?_
    refine j_pI F fl_RX1_21 rfl dX1_write_48 h (fun ν9 h => ?_)
    exact j_vret F hr dX1_write_51 h
def f_X1_write (S : SH) (a0 : Nat) (a1 : Int32) (a2 : Int32) (μ : Mem) : Option (Unit × Mem) :=
  if isO S 1 a0 = true then
  (gI S 1 a0 1 μ).bind fun v1 =>
  (f_X1_has S a0 a1 μ).bind fun q2 =>
  (if q2.1 = 0 then
  b_X1_write_18 S a0 a1 a2 0 v1 a0 q2.2
  else
  b_X1_write_18 S a0 a1 a2 1 v1 a0 q2.2)
  else none
set_option maxRecDepth 100000 in
set_option maxHeartbeats 4000000 in
theorem c_X1_write {l : Launch} {γ : GE} {S : SH} {a0 : Nat} {a1 : Int32} {a2 : Int32} {μ : Mem} {X : (Unit × Mem)} (h : f_X1_write S a0 a1 a2 μ = some X) : isO S 1 a0 = true ∧ Ct l γ yX1_write cX1_write 3 (none) rm_X1_write [.ref (gb γ + a0), .int a1, .int a2] S μ S X.2 none := by
  unfold f_X1_write at h
  obtain ⟨h0, h⟩ := if_some h
  refine ⟨h0, ?_⟩
  have hJ : ∀ (p : Program) (e : Env) (s : State) (m : MethodId) (args : Array Value) (below : List Frame) (meth : Method) (c : Code), FX γ p s m args meth c cX1_write RX1 3 → meth.sig.returnType = (none) → JJ γ p l e rm_X1_write s m args below meth c 3 0 0 (QV below γ S X args s 0 0) S μ 0 [(0, .ref (gb γ + a0)), (1, .int a1), (2, .int a2)] [] := by
    intro p e s m args below meth c F hr
    refine j_aload_n F 0 dX1_write_0 rfl ?_
    refine j_dup F dX1_write_1 rfl ?_
    refine j_gI F fl_RX1_21.l rfl dX1_write_2 h (fun v1 h => ?_)
    refine j_aload_n F 0 dX1_write_5 rfl ?_
    refine j_iload_n F 1 dX1_write_6 rfl ?_
    refine j_cVI F mi_X1_has w_533 (rest := [.int v1, .ref (gb γ + a0)]) h (fun _ g => c_X1_has g) rfl rfl (Nat.le_of_ble_eq_true rfl) ⟨Nat.le_of_ble_eq_true rfl, Nat.le_of_ble_eq_true rfl⟩ ⟨Nat.le_of_ble_eq_true rfl, Nat.le_of_ble_eq_true rfl⟩ dX1_write_7 (fun q2 h => ?_)
    refine j_ifeq F 17 dX1_write_10 (by decide) h (fun _ h => ?_) (fun _ h => ?_)
    · refine j_iconst F 0 dX1_write_17 (by decide) ?_
      exact s_X1_write_18 F hr _ _ _ _ _ _ _ h
    · refine j_iconst F 1 dX1_write_13 (by decide) ?_
      refine j_goto F 18 dX1_write_14 (by decide) ?_
      exact s_X1_write_18 F hr _ _ _ _ _ _ _ h
  exact ct_of (by decide +kernel) (Nat.le_of_ble_eq_true rfl) (fun p e s m args below meth c F hr _ => hJ p e s m args below meth c F hr)
def rm_X1_at : Room := { frames := 0, cells := 0, slots := 0, locals := 0 }
theorem dX1_at_0 : decode cX1_at 0 = .ok (.iload_n 1, 1) := by decide +kernel
theorem dX1_at_1 : decode cX1_at 1 = .ok (.istore_n 2, 1) := by decide +kernel
theorem dX1_at_2 : decode cX1_at 2 = .ok (.iload_n 2, 1) := by decide +kernel
theorem dX1_at_3 : decode cX1_at 3 = .ok (.bipush 61, 2) := by decide +kernel
theorem dX1_at_5 : decode cX1_at 5 = .ok (.if_icmp .ge 19, 3) := by decide +kernel
theorem dX1_at_8 : decode cX1_at 8 = .ok (.aload_n 0, 1) := by decide +kernel
theorem dX1_at_9 : decode cX1_at 9 = .ok (.getfield 9, 3) := by decide +kernel
theorem dX1_at_12 : decode cX1_at 12 = .ok (.iload_n 2, 1) := by decide +kernel
theorem dX1_at_13 : decode cX1_at 13 = .ok (.iaload, 1) := by decide +kernel
theorem dX1_at_14 : decode cX1_at 14 = .ok (.iconst (-1), 1) := by decide +kernel
theorem dX1_at_15 : decode cX1_at 15 = .ok (.if_icmp .ne 9, 3) := by decide +kernel
theorem dX1_at_18 : decode cX1_at 18 = .ok (.iinc 2 1, 3) := by decide +kernel
theorem dX1_at_21 : decode cX1_at 21 = .ok (.goto (-19), 3) := by decide +kernel
theorem dX1_at_24 : decode cX1_at 24 = .ok (.iload_n 2, 1) := by decide +kernel
theorem dX1_at_25 : decode cX1_at 25 = .ok (.bipush 61, 2) := by decide +kernel
theorem dX1_at_27 : decode cX1_at 27 = .ok (.if_icmp .ne 5, 3) := by decide +kernel
theorem dX1_at_30 : decode cX1_at 30 = .ok (.iconst 0, 1) := by decide +kernel
theorem dX1_at_31 : decode cX1_at 31 = .ok (.ireturn, 1) := by decide +kernel
theorem dX1_at_32 : decode cX1_at 32 = .ok (.iload_n 1, 1) := by decide +kernel
theorem dX1_at_33 : decode cX1_at 33 = .ok (.istore_n 3, 1) := by decide +kernel
theorem dX1_at_34 : decode cX1_at 34 = .ok (.iload_n 3, 1) := by decide +kernel
theorem dX1_at_35 : decode cX1_at 35 = .ok (.ifCond .lt 19, 3) := by decide +kernel
theorem dX1_at_38 : decode cX1_at 38 = .ok (.aload_n 0, 1) := by decide +kernel
theorem dX1_at_39 : decode cX1_at 39 = .ok (.getfield 9, 3) := by decide +kernel
theorem dX1_at_42 : decode cX1_at 42 = .ok (.iload_n 3, 1) := by decide +kernel
theorem dX1_at_43 : decode cX1_at 43 = .ok (.iaload, 1) := by decide +kernel
theorem dX1_at_44 : decode cX1_at 44 = .ok (.iconst (-1), 1) := by decide +kernel
theorem dX1_at_45 : decode cX1_at 45 = .ok (.if_icmp .ne 9, 3) := by decide +kernel
theorem dX1_at_48 : decode cX1_at 48 = .ok (.iinc 3 (-1), 3) := by decide +kernel
theorem dX1_at_51 : decode cX1_at 51 = .ok (.goto (-17), 3) := by decide +kernel
theorem dX1_at_54 : decode cX1_at 54 = .ok (.iload_n 3, 1) := by decide +kernel
theorem dX1_at_55 : decode cX1_at 55 = .ok (.ifCond .lt 8, 3) := by decide +kernel
theorem dX1_at_58 : decode cX1_at 58 = .ok (.iload_n 3, 1) := by decide +kernel
theorem dX1_at_59 : decode cX1_at 59 = .ok (.iload_n 2, 1) := by decide +kernel
theorem dX1_at_60 : decode cX1_at 60 = .ok (.if_icmp .ne 10, 3) := by decide +kernel
theorem dX1_at_63 : decode cX1_at 63 = .ok (.aload_n 0, 1) := by decide +kernel
theorem dX1_at_64 : decode cX1_at 64 = .ok (.getfield 9, 3) := by decide +kernel
theorem dX1_at_67 : decode cX1_at 67 = .ok (.iload_n 2, 1) := by decide +kernel
theorem dX1_at_68 : decode cX1_at 68 = .ok (.iaload, 1) := by decide +kernel
theorem dX1_at_69 : decode cX1_at 69 = .ok (.ireturn, 1) := by decide +kernel
theorem dX1_at_70 : decode cX1_at 70 = .ok (.aload_n 0, 1) := by decide +kernel
theorem dX1_at_71 : decode cX1_at 71 = .ok (.getfield 9, 3) := by decide +kernel
theorem dX1_at_74 : decode cX1_at 74 = .ok (.iload_n 3, 1) := by decide +kernel
theorem dX1_at_75 : decode cX1_at 75 = .ok (.iaload, 1) := by decide +kernel
theorem dX1_at_76 : decode cX1_at 76 = .ok (.iload_n 2, 1) := by decide +kernel
theorem dX1_at_77 : decode cX1_at 77 = .ok (.iload_n 1, 1) := by decide +kernel
theorem dX1_at_78 : decode cX1_at 78 = .ok (.isub, 1) := by decide +kernel
theorem dX1_at_79 : decode cX1_at 79 = .ok (.imul, 1) := by decide +kernel
theorem dX1_at_80 : decode cX1_at 80 = .ok (.aload_n 0, 1) := by decide +kernel
theorem dX1_at_81 : decode cX1_at 81 = .ok (.getfield 9, 3) := by decide +kernel
theorem dX1_at_84 : decode cX1_at 84 = .ok (.iload_n 2, 1) := by decide +kernel
theorem dX1_at_85 : decode cX1_at 85 = .ok (.iaload, 1) := by decide +kernel
theorem dX1_at_86 : decode cX1_at 86 = .ok (.iload_n 1, 1) := by decide +kernel
theorem dX1_at_87 : decode cX1_at 87 = .ok (.iload_n 3, 1) := by decide +kernel
theorem dX1_at_88 : decode cX1_at 88 = .ok (.isub, 1) := by decide +kernel
theorem dX1_at_89 : decode cX1_at 89 = .ok (.imul, 1) := by decide +kernel
theorem dX1_at_90 : decode cX1_at 90 = .ok (.iadd, 1) := by decide +kernel
theorem dX1_at_91 : decode cX1_at 91 = .ok (.iload_n 2, 1) := by decide +kernel
theorem dX1_at_92 : decode cX1_at 92 = .ok (.iload_n 3, 1) := by decide +kernel
theorem dX1_at_93 : decode cX1_at 93 = .ok (.isub, 1) := by decide +kernel
theorem dX1_at_94 : decode cX1_at 94 = .ok (.idiv, 1) := by decide +kernel
theorem dX1_at_95 : decode cX1_at 95 = .ok (.ireturn, 1) := by decide +kernel
def b_X1_at_54 (S : SH) (a0 : Nat) (a1 : Int32) (a2 : Int32) (a3 : Int32) (μ : Mem) : Option (Int32 × Mem) :=
 (if a3 < 0 then
 (gR S 1 a0 0).bind fun v1 =>
 (aI S .int v1 a2 μ).bind fun v2 =>
 some (v2, μ)
 else
 (if a3 = a2 then
 (gR S 1 a0 0).bind fun v8 =>
 (aI S .int v8 a2 μ).bind fun v9 =>
 some (v9, μ)
 else
 (gR S 1 a0 0).bind fun v3 =>
 (aI S .int v3 a3 μ).bind fun v4 =>
 (gR S 1 a0 0).bind fun v5 =>
 (aI S .int v5 a2 μ).bind fun v6 =>
 (o_idiv ((v4 * (a2 - a1)) + (v6 * (a1 - a3))) (a2 - a3)).bind fun v7 =>
 some (v7, μ)))
set_option maxRecDepth 100000 in
set_option maxHeartbeats 4000000 in
theorem s_X1_at_54 {γ : GE} {p : Program} {l : Launch} {e : Env} {s : State} {m : MethodId} {args : Array Value} {below : List Frame} {meth : Method} {c : Code} {S : SH} {X : (Int32 × Mem)} (F : FX γ p s m args meth c cX1_at RX1 4) (hr : meth.sig.returnType = (some .int))  (a0 : Nat) (a1 : Int32) (a2 : Int32) (a3 : Int32)  (μ : Mem) (h : b_X1_at_54 S a0 a1 a2 a3 μ = some X) : JJ γ p l e rm_X1_at s m args below meth c 4 0 0 (QI below γ S X args s 0 0) S μ 54 [(0, .ref (gb γ + a0)), (1, .int a1), (2, .int a2), (3, .int a3)] [] := by
  unfold b_X1_at_54 at h
  refine j_iload_n F 3 dX1_at_54 rfl ?_
  refine j_iflt F 63 dX1_at_55 (by decide) h (fun _ h => ?_) (fun _ h => ?_)
  · refine j_aload_n F 0 dX1_at_63 rfl ?_
    refine j_gR F fl_RX1_9 rfl dX1_at_64 h (fun v1 h => ?_)
    refine j_iload_n F 2 dX1_at_67 rfl ?_
    refine j_iald F dX1_at_68 h (fun v2 h => ?_)
    exact j_iret F hr dX1_at_69 h
  · refine j_iload_n F 3 dX1_at_58 rfl ?_
    refine j_iload_n F 2 dX1_at_59 rfl ?_
    refine j_icmpne F 70 dX1_at_60 (by decide) h (fun _ h => ?_) (fun _ h => ?_)
    · refine j_aload_n F 0 dX1_at_70 rfl ?_
      refine j_gR F fl_RX1_9 rfl dX1_at_71 h (fun v3 h => ?_)
      refine j_iload_n F 3 dX1_at_74 rfl ?_
      refine j_iald F dX1_at_75 h (fun v4 h => ?_)
      refine j_iload_n F 2 dX1_at_76 rfl ?_
      refine j_iload_n F 1 dX1_at_77 rfl ?_
      refine j_isub F dX1_at_78 ?_
      refine j_imul F dX1_at_79 ?_
      refine j_aload_n F 0 dX1_at_80 rfl ?_
      refine j_gR F fl_RX1_9 rfl dX1_at_81 h (fun v5 h => ?_)
      refine j_iload_n F 2 dX1_at_84 rfl ?_
      refine j_iald F dX1_at_85 h (fun v6 h => ?_)
      refine j_iload_n F 1 dX1_at_86 rfl ?_
      refine j_iload_n F 3 dX1_at_87 rfl ?_
      refine j_isub F dX1_at_88 ?_
      refine j_imul F dX1_at_89 ?_
      refine j_iadd F dX1_at_90 ?_
      refine j_iload_n F 2 dX1_at_91 rfl ?_
      refine j_iload_n F 3 dX1_at_92 rfl ?_
      refine j_isub F dX1_at_93 ?_
      refine j_idiv F dX1_at_94 h (fun v7 h => ?_)
      exact j_iret F hr dX1_at_95 h
    · refine j_aload_n F 0 dX1_at_63 rfl ?_
      refine j_gR F fl_RX1_9 rfl dX1_at_64 h (fun v8 h => ?_)
      refine j_iload_n F 2 dX1_at_67 rfl ?_
      refine j_iald F dX1_at_68 h (fun v9 h => ?_)
      exact j_iret F hr dX1_at_69 h
def l_X1_at_34 (S : SH) (a0 : Nat) (a1 : Int32) (a2 : Int32) (k34 : (Int32 × Mem) → Option (Int32 × Mem)) (x : (Int32 × Mem)) : Option (Int32 × Mem) :=
 (if x.1 < 0 then
 b_X1_at_54 S a0 a1 a2 x.1 x.2
 else
 (gR S 1 a0 0).bind fun v10 =>
 (aI S .int v10 x.1 x.2).bind fun v11 =>
 (if v11 = (-1) then
 k34 (x.1 + (-1), x.2)
 else
 b_X1_at_54 S a0 a1 a2 x.1 x.2))
set_option maxRecDepth 100000 in
set_option maxHeartbeats 4000000 in
theorem t_X1_at_34 {γ : GE} {p : Program} {l : Launch} {e : Env} {s : State} {m : MethodId} {args : Array Value} {below : List Frame} {meth : Method} {c : Code} {S : SH} {X : (Int32 × Mem)} (F : FX γ p s m args meth c cX1_at RX1 4) (hr : meth.sig.returnType = (some .int)) (a0 : Nat) (a1 : Int32) (a2 : Int32) (k34 : (Int32 × Mem) → Option (Int32 × Mem)) (hk34 : ∀ x : (Int32 × Mem), k34 x = some X → JJ γ p l e rm_X1_at s m args below meth c 4 0 0 (QI below γ S X args s 0 0) S x.2 34 [(0, .ref (gb γ + a0)), (1, .int a1), (2, .int a2), (3, .int x.1)] []) (x : (Int32 × Mem)) (h : l_X1_at_34 S a0 a1 a2 k34 x = some X) : JJ γ p l e rm_X1_at s m args below meth c 4 0 0 (QI below γ S X args s 0 0) S x.2 34 [(0, .ref (gb γ + a0)), (1, .int a1), (2, .int a2), (3, .int x.1)] [] := by
  unfold l_X1_at_34 at h
  refine j_iload_n F 3 dX1_at_34 rfl ?_
  refine j_iflt F 54 dX1_at_35 (by decide) h (fun _ h => ?_) (fun _ h => ?_)
  · exact s_X1_at_54 F hr _ _ _ _ _ h
  · refine j_aload_n F 0 dX1_at_38 rfl ?_
    refine j_gR F fl_RX1_9 rfl dX1_at_39 h (fun v10 h => ?_)
    refine j_iload_n F 3 dX1_at_42 rfl ?_
    refine j_iald F dX1_at_43 h (fun v11 h => ?_)
    refine j_iconst F (-1) dX1_at_44 (by decide) ?_
    refine j_icmpne F 54 dX1_at_45 (by decide) h (fun _ h => ?_) (fun _ h => ?_)
    · exact s_X1_at_54 F hr _ _ _ _ _ h
    · refine j_iinc F (-1) 3 [(3, .int (x.1 + (-1))), (0, .ref (gb γ + a0)), (1, .int a1), (2, .int a2)] dX1_at_48 rfl (by decide) (by decide) rfl ?_
      refine j_goto F 34 dX1_at_51 (by decide) ?_
      refine j_lv [(0, .ref (gb γ + a0)), (1, .int a1), (2, .int a2), (3, .int (x.1 + (-1)))] [1, 2, 3, 0] rfl ?_
      have h9 := hk34 _ h
      exact h9
theorem s_X1_at_34 {γ : GE} {p : Program} {l : Launch} {e : Env} {s : State} {m : MethodId} {args : Array Value} {below : List Frame} {meth : Method} {c : Code} {S : SH} {X : (Int32 × Mem)} (F : FX γ p s m args meth c cX1_at RX1 4) (hr : meth.sig.returnType = (some .int)) (a0 : Nat) (a1 : Int32) (a2 : Int32) (x : (Int32 × Mem)) (h : lpN (l_X1_at_34 S a0 a1 a2) fu x = some X) : JJ γ p l e rm_X1_at s m args below meth c 4 0 0 (QI below γ S X args s 0 0) S x.2 34 [(0, .ref (gb γ + a0)), (1, .int a1), (2, .int a2), (3, .int x.1)] [] :=
 lpN_sound (fun x => JJ γ p l e rm_X1_at s m args below meth c 4 0 0 (QI below γ S X args s 0 0) S x.2 34 [(0, .ref (gb γ + a0)), (1, .int a1), (2, .int a2), (3, .int x.1)] []) (fun k34 hk34 x h => t_X1_at_34 F hr a0 a1 a2 k34 hk34 x h) fu x h
def b_X1_at_24 (S : SH) (a0 : Nat) (a1 : Int32) (a2 : Int32) (μ : Mem) : Option (Int32 × Mem) :=
 (if a2 = 61 then
 some (0, μ)
 else
 lpN (l_X1_at_34 S a0 a1 a2) fu (a1, μ))
set_option maxRecDepth 100000 in
set_option maxHeartbeats 4000000 in
theorem s_X1_at_24 {γ : GE} {p : Program} {l : Launch} {e : Env} {s : State} {m : MethodId} {args : Array Value} {below : List Frame} {meth : Method} {c : Code} {S : SH} {X : (Int32 × Mem)} (F : FX γ p s m args meth c cX1_at RX1 4) (hr : meth.sig.returnType = (some .int))  (a0 : Nat) (a1 : Int32) (a2 : Int32)  (μ : Mem) (h : b_X1_at_24 S a0 a1 a2 μ = some X) : JJ γ p l e rm_X1_at s m args below meth c 4 0 0 (QI below γ S X args s 0 0) S μ 24 [(0, .ref (gb γ + a0)), (1, .int a1), (2, .int a2)] [] := by
  unfold b_X1_at_24 at h
  refine j_iload_n F 2 dX1_at_24 rfl ?_
  refine j_bipush F 61 dX1_at_25 (by decide) ?_
  refine j_icmpne F 32 dX1_at_27 (by decide) h (fun _ h => ?_) (fun _ h => ?_)
  · refine j_iload_n F 1 dX1_at_32 rfl ?_
    refine j_istore_n F [(3, .int a1), (0, .ref (gb γ + a0)), (1, .int a1), (2, .int a2)] dX1_at_33 rfl (by decide) rfl ?_
    refine j_lv [(0, .ref (gb γ + a0)), (1, .int a1), (2, .int a2), (3, .int a1)] [1, 2, 3, 0] rfl ?_
    exact s_X1_at_34 F hr _ _ _ _ h
  · refine j_iconst F 0 dX1_at_30 (by decide) ?_
    exact j_iret F hr dX1_at_31 h
def l_X1_at_2 (S : SH) (a0 : Nat) (a1 : Int32) (k2 : (Int32 × Mem) → Option (Int32 × Mem)) (x : (Int32 × Mem)) : Option (Int32 × Mem) :=
 (if 61 ≤ x.1 then
 b_X1_at_24 S a0 a1 x.1 x.2
 else
 (gR S 1 a0 0).bind fun v12 =>
 (aI S .int v12 x.1 x.2).bind fun v13 =>
 (if v13 = (-1) then
 k2 (x.1 + 1, x.2)
 else
 b_X1_at_24 S a0 a1 x.1 x.2))
set_option maxRecDepth 100000 in
set_option maxHeartbeats 4000000 in
theorem t_X1_at_2 {γ : GE} {p : Program} {l : Launch} {e : Env} {s : State} {m : MethodId} {args : Array Value} {below : List Frame} {meth : Method} {c : Code} {S : SH} {X : (Int32 × Mem)} (F : FX γ p s m args meth c cX1_at RX1 4) (hr : meth.sig.returnType = (some .int)) (a0 : Nat) (a1 : Int32) (k2 : (Int32 × Mem) → Option (Int32 × Mem)) (hk2 : ∀ x : (Int32 × Mem), k2 x = some X → JJ γ p l e rm_X1_at s m args below meth c 4 0 0 (QI below γ S X args s 0 0) S x.2 2 [(0, .ref (gb γ + a0)), (1, .int a1), (2, .int x.1)] []) (x : (Int32 × Mem)) (h : l_X1_at_2 S a0 a1 k2 x = some X) : JJ γ p l e rm_X1_at s m args below meth c 4 0 0 (QI below γ S X args s 0 0) S x.2 2 [(0, .ref (gb γ + a0)), (1, .int a1), (2, .int x.1)] [] := by
  unfold l_X1_at_2 at h
  refine j_iload_n F 2 dX1_at_2 rfl ?_
  refine j_bipush F 61 dX1_at_3 (by decide) ?_
  refine j_icmpge F 24 dX1_at_5 (by decide) h (fun _ h => ?_) (fun _ h => ?_)
  · exact s_X1_at_24 F hr _ _ _ _ h
  · refine j_aload_n F 0 dX1_at_8 rfl ?_
    refine j_gR F fl_RX1_9 rfl dX1_at_9 h (fun v12 h => ?_)
    refine j_iload_n F 2 dX1_at_12 rfl ?_
    refine j_iald F dX1_at_13 h (fun v13 h => ?_)
    refine j_iconst F (-1) dX1_at_14 (by decide) ?_
    refine j_icmpne F 24 dX1_at_15 (by decide) h (fun _ h => ?_) (fun _ h => ?_)
    · exact s_X1_at_24 F hr _ _ _ _ h
    · refine j_iinc F 1 2 [(2, .int (x.1 + 1)), (0, .ref (gb γ + a0)), (1, .int a1)] dX1_at_18 rfl (by decide) (by decide) rfl ?_
      refine j_goto F 2 dX1_at_21 (by decide) ?_
      refine j_lv [(0, .ref (gb γ + a0)), (1, .int a1), (2, .int (x.1 + 1))] [1, 2, 0] rfl ?_
      have h9 := hk2 _ h
      exact h9
theorem s_X1_at_2 {γ : GE} {p : Program} {l : Launch} {e : Env} {s : State} {m : MethodId} {args : Array Value} {below : List Frame} {meth : Method} {c : Code} {S : SH} {X : (Int32 × Mem)} (F : FX γ p s m args meth c cX1_at RX1 4) (hr : meth.sig.returnType = (some .int)) (a0 : Nat) (a1 : Int32) (x : (Int32 × Mem)) (h : lpN (l_X1_at_2 S a0 a1) fu x = some X) : JJ γ p l e rm_X1_at s m args below meth c 4 0 0 (QI below γ S X args s 0 0) S x.2 2 [(0, .ref (gb γ + a0)), (1, .int a1), (2, .int x.1)] [] :=
 lpN_sound (fun x => JJ γ p l e rm_X1_at s m args below meth c 4 0 0 (QI below γ S X args s 0 0) S x.2 2 [(0, .ref (gb γ + a0)), (1, .int a1), (2, .int x.1)] []) (fun k2 hk2 x h => t_X1_at_2 F hr a0 a1 k2 hk2 x h) fu x h
def f_X1_at (S : SH) (a0 : Nat) (a1 : Int32) (μ : Mem) : Option (Int32 × Mem) :=
  if isO S 1 a0 = true then
  lpN (l_X1_at_2 S  a0 a1) fu (a1, μ)
  else none
set_option maxRecDepth 100000 in
set_option maxHeartbeats 4000000 in
theorem c_X1_at {l : Launch} {γ : GE} {S : SH} {a0 : Nat} {a1 : Int32} {μ : Mem} {X : (Int32 × Mem)} (h : f_X1_at S a0 a1 μ = some X) : isO S 1 a0 = true ∧ Ct l γ yX1_at cX1_at 4 (some .int) rm_X1_at [.ref (gb γ + a0), .int a1] S μ S X.2 (some (.int X.1)) := by
  unfold f_X1_at at h
  obtain ⟨h0, h⟩ := if_some h
  refine ⟨h0, ?_⟩
  have hJ : ∀ (p : Program) (e : Env) (s : State) (m : MethodId) (args : Array Value) (below : List Frame) (meth : Method) (c : Code), FX γ p s m args meth c cX1_at RX1 4 → meth.sig.returnType = (some .int) → JJ γ p l e rm_X1_at s m args below meth c 4 0 0 (QI below γ S X args s 0 0) S μ 0 [(0, .ref (gb γ + a0)), (1, .int a1)] [] := by
    intro p e s m args below meth c F hr
    refine j_iload_n F 1 dX1_at_0 rfl ?_
    refine j_istore_n F [(2, .int a1), (0, .ref (gb γ + a0)), (1, .int a1)] dX1_at_1 rfl (by decide) rfl ?_
    refine j_lv [(0, .ref (gb γ + a0)), (1, .int a1), (2, .int a1)] [1, 2, 0] rfl ?_
    exact s_X1_at_2 F hr _ _ _ h
  exact ct_of (by decide +kernel) (Nat.le_of_ble_eq_true rfl) (fun p e s m args below meth c F hr _ => hJ p e s m args below meth c F hr)
def rm_X1_readAs : Room := { frames := 1, cells := 0, slots := 0, locals := 60 }
theorem dX1_readAs_0 : decode cX1_readAs 0 = .ok (.aload_n 1, 1) := by decide +kernel
theorem dX1_readAs_1 : decode cX1_readAs 1 = .ok (.getfield 9, 3) := by decide +kernel
theorem dX1_readAs_4 : decode cX1_readAs 4 = .ok (.iconst 0, 1) := by decide +kernel
theorem dX1_readAs_5 : decode cX1_readAs 5 = .ok (.aload_n 0, 1) := by decide +kernel
theorem dX1_readAs_6 : decode cX1_readAs 6 = .ok (.getfield 9, 3) := by decide +kernel
theorem dX1_readAs_9 : decode cX1_readAs 9 = .ok (.iconst 0, 1) := by decide +kernel
theorem dX1_readAs_10 : decode cX1_readAs 10 = .ok (.bipush 61, 2) := by decide +kernel
theorem dX1_readAs_12 : decode cX1_readAs 12 = .ok (.invokestatic 29, 3) := by decide +kernel
theorem dX1_readAs_15 : decode cX1_readAs 15 = .ok (.aload_n 0, 1) := by decide +kernel
theorem dX1_readAs_16 : decode cX1_readAs 16 = .ok (.aload_n 1, 1) := by decide +kernel
theorem dX1_readAs_17 : decode cX1_readAs 17 = .ok (.getfield 21, 3) := by decide +kernel
theorem dX1_readAs_20 : decode cX1_readAs 20 = .ok (.putfield 21, 3) := by decide +kernel
theorem dX1_readAs_23 : decode cX1_readAs 23 = .ok (.return_, 1) := by decide +kernel
def f_X1_readAs (S : SH) (a0 : Nat) (a1 : Nat) (μ : Mem) : Option (Unit × Mem) :=
  if isO S 1 a0 = true then
  (gR S 1 a1 0).bind fun v1 =>
  (gR S 1 a0 0).bind fun v2 =>
  (cpI S .int v1 0 v2 0 61 μ).bind fun ν3 =>
  (gI S 1 a1 1 ν3).bind fun v4 =>
  (pI S 1 a0 1 v4 ν3).bind fun ν5 =>
  some ((), ν5)
  else none
set_option maxRecDepth 100000 in
set_option maxHeartbeats 4000000 in
theorem c_X1_readAs {l : Launch} {γ : GE} {S : SH} {a0 : Nat} {a1 : Nat} {μ : Mem} {X : (Unit × Mem)} (h : f_X1_readAs S a0 a1 μ = some X) : isO S 1 a0 = true ∧ Ct l γ yX1_readAs cX1_readAs 2 (none) rm_X1_readAs [.ref (gb γ + a0), .ref (gb γ + a1)] S μ S X.2 none := by
  unfold f_X1_readAs at h
  obtain ⟨h0, h⟩ := if_some h
  refine ⟨h0, ?_⟩
  have hJ : ∀ (p : Program) (e : Env) (s : State) (m : MethodId) (args : Array Value) (below : List Frame) (meth : Method) (c : Code), FX γ p s m args meth c cX1_readAs RX1 2 → meth.sig.returnType = (none) → JJ γ p l e rm_X1_readAs s m args below meth c 2 0 0 (QV below γ S X args s 0 0) S μ 0 [(0, .ref (gb γ + a0)), (1, .ref (gb γ + a1))] [] := by
    intro p e s m args below meth c F hr
    refine j_aload_n F 1 dX1_readAs_0 rfl ?_
    refine j_gR F fl_RX1_9 rfl dX1_readAs_1 h (fun v1 h => ?_)
    refine j_iconst F 0 dX1_readAs_4 (by decide) ?_
    refine j_aload_n F 0 dX1_readAs_5 rfl ?_
    refine j_gR F fl_RX1_9 rfl dX1_readAs_6 h (fun v2 h => ?_)
    refine j_iconst F 0 dX1_readAs_9 (by decide) ?_
    refine j_bipush F 61 dX1_readAs_10 (by decide) ?_
    refine j_cpI F w_693 ⟨Nat.le_of_ble_eq_true rfl, Nat.le_of_ble_eq_true rfl⟩ dX1_readAs_12 h (fun ν3 h => ?_)
    refine j_aload_n F 0 dX1_readAs_15 rfl ?_
    refine j_aload_n F 1 dX1_readAs_16 rfl ?_
    refine j_gI F fl_RX1_21.l rfl dX1_readAs_17 h (fun v4 h => ?_)
    refine j_pI F fl_RX1_21 rfl dX1_readAs_20 h (fun ν5 h => ?_)
    exact j_vret F hr dX1_readAs_23 h
  exact ct_of (by decide +kernel) (Nat.le_of_ble_eq_true rfl) (fun p e s m args below meth c F hr _ => hJ p e s m args below meth c F hr)
def rm_X4_placeAs : Room := { frames := 1, cells := 0, slots := 0, locals := 60 }
theorem dX4_placeAs_0 : decode cX4_placeAs 0 = .ok (.aload_n 1, 1) := by decide +kernel
theorem dX4_placeAs_1 : decode cX4_placeAs 1 = .ok (.getfield 9, 3) := by decide +kernel
theorem dX4_placeAs_4 : decode cX4_placeAs 4 = .ok (.iconst 0, 1) := by decide +kernel
theorem dX4_placeAs_5 : decode cX4_placeAs 5 = .ok (.aload_n 0, 1) := by decide +kernel
theorem dX4_placeAs_6 : decode cX4_placeAs 6 = .ok (.getfield 9, 3) := by decide +kernel
theorem dX4_placeAs_9 : decode cX4_placeAs 9 = .ok (.iconst 0, 1) := by decide +kernel
theorem dX4_placeAs_10 : decode cX4_placeAs 10 = .ok (.iconst 4, 1) := by decide +kernel
theorem dX4_placeAs_11 : decode cX4_placeAs 11 = .ok (.invokestatic 24, 3) := by decide +kernel
theorem dX4_placeAs_14 : decode cX4_placeAs 14 = .ok (.aload_n 1, 1) := by decide +kernel
theorem dX4_placeAs_15 : decode cX4_placeAs 15 = .ok (.getfield 15, 3) := by decide +kernel
theorem dX4_placeAs_18 : decode cX4_placeAs 18 = .ok (.iconst 0, 1) := by decide +kernel
theorem dX4_placeAs_19 : decode cX4_placeAs 19 = .ok (.aload_n 0, 1) := by decide +kernel
theorem dX4_placeAs_20 : decode cX4_placeAs 20 = .ok (.getfield 15, 3) := by decide +kernel
theorem dX4_placeAs_23 : decode cX4_placeAs 23 = .ok (.iconst 0, 1) := by decide +kernel
theorem dX4_placeAs_24 : decode cX4_placeAs 24 = .ok (.iconst 4, 1) := by decide +kernel
theorem dX4_placeAs_25 : decode cX4_placeAs 25 = .ok (.invokestatic 24, 3) := by decide +kernel
theorem dX4_placeAs_28 : decode cX4_placeAs 28 = .ok (.aload_n 1, 1) := by decide +kernel
theorem dX4_placeAs_29 : decode cX4_placeAs 29 = .ok (.getfield 18, 3) := by decide +kernel
theorem dX4_placeAs_32 : decode cX4_placeAs 32 = .ok (.iconst 0, 1) := by decide +kernel
theorem dX4_placeAs_33 : decode cX4_placeAs 33 = .ok (.aload_n 0, 1) := by decide +kernel
theorem dX4_placeAs_34 : decode cX4_placeAs 34 = .ok (.getfield 18, 3) := by decide +kernel
theorem dX4_placeAs_37 : decode cX4_placeAs 37 = .ok (.iconst 0, 1) := by decide +kernel
theorem dX4_placeAs_38 : decode cX4_placeAs 38 = .ok (.iconst 4, 1) := by decide +kernel
theorem dX4_placeAs_39 : decode cX4_placeAs 39 = .ok (.invokestatic 24, 3) := by decide +kernel
theorem dX4_placeAs_42 : decode cX4_placeAs 42 = .ok (.aload_n 0, 1) := by decide +kernel
theorem dX4_placeAs_43 : decode cX4_placeAs 43 = .ok (.aload_n 1, 1) := by decide +kernel
theorem dX4_placeAs_44 : decode cX4_placeAs 44 = .ok (.getfield 30, 3) := by decide +kernel
theorem dX4_placeAs_47 : decode cX4_placeAs 47 = .ok (.putfield 30, 3) := by decide +kernel
theorem dX4_placeAs_50 : decode cX4_placeAs 50 = .ok (.aload_n 0, 1) := by decide +kernel
theorem dX4_placeAs_51 : decode cX4_placeAs 51 = .ok (.aload_n 1, 1) := by decide +kernel
theorem dX4_placeAs_52 : decode cX4_placeAs 52 = .ok (.getfield 34, 3) := by decide +kernel
theorem dX4_placeAs_55 : decode cX4_placeAs 55 = .ok (.putfield 34, 3) := by decide +kernel
theorem dX4_placeAs_58 : decode cX4_placeAs 58 = .ok (.aload_n 0, 1) := by decide +kernel
theorem dX4_placeAs_59 : decode cX4_placeAs 59 = .ok (.aload_n 1, 1) := by decide +kernel
theorem dX4_placeAs_60 : decode cX4_placeAs 60 = .ok (.getfield 38, 3) := by decide +kernel
theorem dX4_placeAs_63 : decode cX4_placeAs 63 = .ok (.putfield 38, 3) := by decide +kernel
theorem dX4_placeAs_66 : decode cX4_placeAs 66 = .ok (.aload_n 0, 1) := by decide +kernel
theorem dX4_placeAs_67 : decode cX4_placeAs 67 = .ok (.aload_n 1, 1) := by decide +kernel
theorem dX4_placeAs_68 : decode cX4_placeAs 68 = .ok (.getfield 41, 3) := by decide +kernel
theorem dX4_placeAs_71 : decode cX4_placeAs 71 = .ok (.putfield 41, 3) := by decide +kernel
theorem dX4_placeAs_74 : decode cX4_placeAs 74 = .ok (.aload_n 0, 1) := by decide +kernel
theorem dX4_placeAs_75 : decode cX4_placeAs 75 = .ok (.aload_n 1, 1) := by decide +kernel
theorem dX4_placeAs_76 : decode cX4_placeAs 76 = .ok (.getfield 44, 3) := by decide +kernel
theorem dX4_placeAs_79 : decode cX4_placeAs 79 = .ok (.putfield 44, 3) := by decide +kernel
theorem dX4_placeAs_82 : decode cX4_placeAs 82 = .ok (.aload_n 0, 1) := by decide +kernel
theorem dX4_placeAs_83 : decode cX4_placeAs 83 = .ok (.aload_n 1, 1) := by decide +kernel
theorem dX4_placeAs_84 : decode cX4_placeAs 84 = .ok (.getfield 47, 3) := by decide +kernel
theorem dX4_placeAs_87 : decode cX4_placeAs 87 = .ok (.putfield 47, 3) := by decide +kernel
theorem dX4_placeAs_90 : decode cX4_placeAs 90 = .ok (.aload_n 0, 1) := by decide +kernel
theorem dX4_placeAs_91 : decode cX4_placeAs 91 = .ok (.aload_n 1, 1) := by decide +kernel
theorem dX4_placeAs_92 : decode cX4_placeAs 92 = .ok (.getfield 50, 3) := by decide +kernel
theorem dX4_placeAs_95 : decode cX4_placeAs 95 = .ok (.putfield 50, 3) := by decide +kernel
theorem dX4_placeAs_98 : decode cX4_placeAs 98 = .ok (.aload_n 0, 1) := by decide +kernel
theorem dX4_placeAs_99 : decode cX4_placeAs 99 = .ok (.aload_n 1, 1) := by decide +kernel
theorem dX4_placeAs_100 : decode cX4_placeAs 100 = .ok (.getfield 53, 3) := by decide +kernel
theorem dX4_placeAs_103 : decode cX4_placeAs 103 = .ok (.putfield 53, 3) := by decide +kernel
theorem dX4_placeAs_106 : decode cX4_placeAs 106 = .ok (.return_, 1) := by decide +kernel
def f_X4_placeAs (S : SH) (a0 : Nat) (a1 : Nat) (μ : Mem) : Option (Unit × Mem) :=
  if isO S 4 a0 = true then
  (gR S 4 a1 0).bind fun v1 =>
  (gR S 4 a0 0).bind fun v2 =>
  (cpI S .int v1 0 v2 0 4 μ).bind fun ν3 =>
  (gR S 4 a1 1).bind fun v4 =>
  (gR S 4 a0 1).bind fun v5 =>
  (cpI S .int v4 0 v5 0 4 ν3).bind fun ν6 =>
  (gR S 4 a1 2).bind fun v7 =>
  (gR S 4 a0 2).bind fun v8 =>
  (cpI S .int v7 0 v8 0 4 ν6).bind fun ν9 =>
  (gI S 4 a1 3 ν9).bind fun v10 =>
  (pZ S 4 a0 3 v10 ν9).bind fun ν11 =>
  (gL S 4 a1 4 ν11).bind fun v12 =>
  (pL S 4 a0 4 v12 ν11).bind fun ν13 =>
  (gL S 4 a1 5 ν13).bind fun v14 =>
  (pL S 4 a0 5 v14 ν13).bind fun ν15 =>
  (gL S 4 a1 6 ν15).bind fun v16 =>
  (pL S 4 a0 6 v16 ν15).bind fun ν17 =>
  (gL S 4 a1 7 ν17).bind fun v18 =>
  (pL S 4 a0 7 v18 ν17).bind fun ν19 =>
  (gL S 4 a1 8 ν19).bind fun v20 =>
  (pL S 4 a0 8 v20 ν19).bind fun ν21 =>
  (gL S 4 a1 9 ν21).bind fun v22 =>
  (pL S 4 a0 9 v22 ν21).bind fun ν23 =>
  (gL S 4 a1 10 ν23).bind fun v24 =>
  (pL S 4 a0 10 v24 ν23).bind fun ν25 =>
  some ((), ν25)
  else none
set_option maxRecDepth 100000 in
set_option maxHeartbeats 4000000 in
theorem c_X4_placeAs {l : Launch} {γ : GE} {S : SH} {a0 : Nat} {a1 : Nat} {μ : Mem} {X : (Unit × Mem)} (h : f_X4_placeAs S a0 a1 μ = some X) : isO S 4 a0 = true ∧ Ct l γ yX4_placeAs cX4_placeAs 2 (none) rm_X4_placeAs [.ref (gb γ + a0), .ref (gb γ + a1)] S μ S X.2 none := by
  unfold f_X4_placeAs at h
  obtain ⟨h0, h⟩ := if_some h
  refine ⟨h0, ?_⟩
  have hJ : ∀ (p : Program) (e : Env) (s : State) (m : MethodId) (args : Array Value) (below : List Frame) (meth : Method) (c : Code), FX γ p s m args meth c cX4_placeAs RX4 2 → meth.sig.returnType = (none) → JJ γ p l e rm_X4_placeAs s m args below meth c 2 0 0 (QV below γ S X args s 0 0) S μ 0 [(0, .ref (gb γ + a0)), (1, .ref (gb γ + a1))] [] := by
    intro p e s m args below meth c F hr
    refine j_aload_n F 1 dX4_placeAs_0 rfl ?_
    refine j_gR F fl_RX4_9 rfl dX4_placeAs_1 h (fun v1 h => ?_)
    refine j_iconst F 0 dX4_placeAs_4 (by decide) ?_
    refine j_aload_n F 0 dX4_placeAs_5 rfl ?_
    refine j_gR F fl_RX4_9 rfl dX4_placeAs_6 h (fun v2 h => ?_)
    refine j_iconst F 0 dX4_placeAs_9 (by decide) ?_
    refine j_iconst F 4 dX4_placeAs_10 (by decide) ?_
    refine j_cpI F w_681 ⟨Nat.le_of_ble_eq_true rfl, Nat.le_of_ble_eq_true rfl⟩ dX4_placeAs_11 h (fun ν3 h => ?_)
    refine j_aload_n F 1 dX4_placeAs_14 rfl ?_
    refine j_gR F fl_RX4_15 rfl dX4_placeAs_15 h (fun v4 h => ?_)
    refine j_iconst F 0 dX4_placeAs_18 (by decide) ?_
    refine j_aload_n F 0 dX4_placeAs_19 rfl ?_
    refine j_gR F fl_RX4_15 rfl dX4_placeAs_20 h (fun v5 h => ?_)
    refine j_iconst F 0 dX4_placeAs_23 (by decide) ?_
    refine j_iconst F 4 dX4_placeAs_24 (by decide) ?_
    refine j_cpI F w_681 ⟨Nat.le_of_ble_eq_true rfl, Nat.le_of_ble_eq_true rfl⟩ dX4_placeAs_25 h (fun ν6 h => ?_)
    refine j_aload_n F 1 dX4_placeAs_28 rfl ?_
    refine j_gR F fl_RX4_18 rfl dX4_placeAs_29 h (fun v7 h => ?_)
    refine j_iconst F 0 dX4_placeAs_32 (by decide) ?_
    refine j_aload_n F 0 dX4_placeAs_33 rfl ?_
    refine j_gR F fl_RX4_18 rfl dX4_placeAs_34 h (fun v8 h => ?_)
    refine j_iconst F 0 dX4_placeAs_37 (by decide) ?_
    refine j_iconst F 4 dX4_placeAs_38 (by decide) ?_
    refine j_cpI F w_681 ⟨Nat.le_of_ble_eq_true rfl, Nat.le_of_ble_eq_true rfl⟩ dX4_placeAs_39 h (fun ν9 h => ?_)
    refine j_aload_n F 0 dX4_placeAs_42 rfl ?_
    refine j_aload_n F 1 dX4_placeAs_43 rfl ?_
    refine j_gI F fl_RX4_30.l rfl dX4_placeAs_44 h (fun v10 h => ?_)
    refine j_pZ F fl_RX4_30 rfl dX4_placeAs_47 h (fun ν11 h => ?_)
    refine j_aload_n F 0 dX4_placeAs_50 rfl ?_
    refine j_aload_n F 1 dX4_placeAs_51 rfl ?_
    refine j_gL F fl_RX4_34.l rfl dX4_placeAs_52 h (fun v12 h => ?_)
    refine j_pL F fl_RX4_34 rfl dX4_placeAs_55 h (fun ν13 h => ?_)
    refine j_aload_n F 0 dX4_placeAs_58 rfl ?_
    refine j_aload_n F 1 dX4_placeAs_59 rfl ?_
    refine j_gL F fl_RX4_38.l rfl dX4_placeAs_60 h (fun v14 h => ?_)
    refine j_pL F fl_RX4_38 rfl dX4_placeAs_63 h (fun ν15 h => ?_)
    refine j_aload_n F 0 dX4_placeAs_66 rfl ?_
    refine j_aload_n F 1 dX4_placeAs_67 rfl ?_
    refine j_gL F fl_RX4_41.l rfl dX4_placeAs_68 h (fun v16 h => ?_)
    refine j_pL F fl_RX4_41 rfl dX4_placeAs_71 h (fun ν17 h => ?_)
    refine j_aload_n F 0 dX4_placeAs_74 rfl ?_
    refine j_aload_n F 1 dX4_placeAs_75 rfl ?_
    refine j_gL F fl_RX4_44.l rfl dX4_placeAs_76 h (fun v18 h => ?_)
    refine j_pL F fl_RX4_44 rfl dX4_placeAs_79 h (fun ν19 h => ?_)
    refine j_aload_n F 0 dX4_placeAs_82 rfl ?_
    refine j_aload_n F 1 dX4_placeAs_83 rfl ?_
    refine j_gL F fl_RX4_47.l rfl dX4_placeAs_84 h (fun v20 h => ?_)
    refine j_pL F fl_RX4_47 rfl dX4_placeAs_87 h (fun ν21 h => ?_)
    refine j_aload_n F 0 dX4_placeAs_90 rfl ?_
    refine j_aload_n F 1 dX4_placeAs_91 rfl ?_
    refine j_gL F fl_RX4_50.l rfl dX4_placeAs_92 h (fun v22 h => ?_)
    refine j_pL F fl_RX4_50 rfl dX4_placeAs_95 h (fun ν23 h => ?_)
    refine j_aload_n F 0 dX4_placeAs_98 rfl ?_
    refine j_aload_n F 1 dX4_placeAs_99 rfl ?_
    refine j_gL F fl_RX4_53.l rfl dX4_placeAs_100 h (fun v24 h => ?_)
    refine j_pL F fl_RX4_53 rfl dX4_placeAs_103 h (fun ν25 h => ?_)
    exact j_vret F hr dX4_placeAs_106 h
  exact ct_of (by decide +kernel) (Nat.le_of_ble_eq_true rfl) (fun p e s m args below meth c F hr _ => hJ p e s m args below meth c F hr)
def rm_X5_weighAs : Room := { frames := 1, cells := 0, slots := 0, locals := 60 }
theorem dX5_weighAs_0 : decode cX5_weighAs 0 = .ok (.aload_n 1, 1) := by decide +kernel
theorem dX5_weighAs_1 : decode cX5_weighAs 1 = .ok (.getfield 9, 3) := by decide +kernel
theorem dX5_weighAs_4 : decode cX5_weighAs 4 = .ok (.iconst 0, 1) := by decide +kernel
theorem dX5_weighAs_5 : decode cX5_weighAs 5 = .ok (.aload_n 0, 1) := by decide +kernel
theorem dX5_weighAs_6 : decode cX5_weighAs 6 = .ok (.getfield 9, 3) := by decide +kernel
theorem dX5_weighAs_9 : decode cX5_weighAs 9 = .ok (.iconst 0, 1) := by decide +kernel
theorem dX5_weighAs_10 : decode cX5_weighAs 10 = .ok (.bipush 8, 2) := by decide +kernel
theorem dX5_weighAs_12 : decode cX5_weighAs 12 = .ok (.invokestatic 48, 3) := by decide +kernel
theorem dX5_weighAs_15 : decode cX5_weighAs 15 = .ok (.aload_n 1, 1) := by decide +kernel
theorem dX5_weighAs_16 : decode cX5_weighAs 16 = .ok (.getfield 15, 3) := by decide +kernel
theorem dX5_weighAs_19 : decode cX5_weighAs 19 = .ok (.iconst 0, 1) := by decide +kernel
theorem dX5_weighAs_20 : decode cX5_weighAs 20 = .ok (.aload_n 0, 1) := by decide +kernel
theorem dX5_weighAs_21 : decode cX5_weighAs 21 = .ok (.getfield 15, 3) := by decide +kernel
theorem dX5_weighAs_24 : decode cX5_weighAs 24 = .ok (.iconst 0, 1) := by decide +kernel
theorem dX5_weighAs_25 : decode cX5_weighAs 25 = .ok (.bipush 8, 2) := by decide +kernel
theorem dX5_weighAs_27 : decode cX5_weighAs 27 = .ok (.invokestatic 48, 3) := by decide +kernel
theorem dX5_weighAs_30 : decode cX5_weighAs 30 = .ok (.aload_n 1, 1) := by decide +kernel
theorem dX5_weighAs_31 : decode cX5_weighAs 31 = .ok (.getfield 18, 3) := by decide +kernel
theorem dX5_weighAs_34 : decode cX5_weighAs 34 = .ok (.iconst 0, 1) := by decide +kernel
theorem dX5_weighAs_35 : decode cX5_weighAs 35 = .ok (.aload_n 0, 1) := by decide +kernel
theorem dX5_weighAs_36 : decode cX5_weighAs 36 = .ok (.getfield 18, 3) := by decide +kernel
theorem dX5_weighAs_39 : decode cX5_weighAs 39 = .ok (.iconst 0, 1) := by decide +kernel
theorem dX5_weighAs_40 : decode cX5_weighAs 40 = .ok (.bipush 8, 2) := by decide +kernel
theorem dX5_weighAs_42 : decode cX5_weighAs 42 = .ok (.invokestatic 48, 3) := by decide +kernel
theorem dX5_weighAs_45 : decode cX5_weighAs 45 = .ok (.aload_n 1, 1) := by decide +kernel
theorem dX5_weighAs_46 : decode cX5_weighAs 46 = .ok (.getfield 21, 3) := by decide +kernel
theorem dX5_weighAs_49 : decode cX5_weighAs 49 = .ok (.iconst 0, 1) := by decide +kernel
theorem dX5_weighAs_50 : decode cX5_weighAs 50 = .ok (.aload_n 0, 1) := by decide +kernel
theorem dX5_weighAs_51 : decode cX5_weighAs 51 = .ok (.getfield 21, 3) := by decide +kernel
theorem dX5_weighAs_54 : decode cX5_weighAs 54 = .ok (.iconst 0, 1) := by decide +kernel
theorem dX5_weighAs_55 : decode cX5_weighAs 55 = .ok (.bipush 8, 2) := by decide +kernel
theorem dX5_weighAs_57 : decode cX5_weighAs 57 = .ok (.invokestatic 48, 3) := by decide +kernel
theorem dX5_weighAs_60 : decode cX5_weighAs 60 = .ok (.aload_n 0, 1) := by decide +kernel
theorem dX5_weighAs_61 : decode cX5_weighAs 61 = .ok (.aload_n 1, 1) := by decide +kernel
theorem dX5_weighAs_62 : decode cX5_weighAs 62 = .ok (.getfield 25, 3) := by decide +kernel
theorem dX5_weighAs_65 : decode cX5_weighAs 65 = .ok (.putfield 25, 3) := by decide +kernel
theorem dX5_weighAs_68 : decode cX5_weighAs 68 = .ok (.aload_n 0, 1) := by decide +kernel
theorem dX5_weighAs_69 : decode cX5_weighAs 69 = .ok (.aload_n 1, 1) := by decide +kernel
theorem dX5_weighAs_70 : decode cX5_weighAs 70 = .ok (.getfield 33, 3) := by decide +kernel
theorem dX5_weighAs_73 : decode cX5_weighAs 73 = .ok (.putfield 33, 3) := by decide +kernel
theorem dX5_weighAs_76 : decode cX5_weighAs 76 = .ok (.aload_n 0, 1) := by decide +kernel
theorem dX5_weighAs_77 : decode cX5_weighAs 77 = .ok (.aload_n 1, 1) := by decide +kernel
theorem dX5_weighAs_78 : decode cX5_weighAs 78 = .ok (.getfield 42, 3) := by decide +kernel
theorem dX5_weighAs_81 : decode cX5_weighAs 81 = .ok (.putfield 42, 3) := by decide +kernel
theorem dX5_weighAs_84 : decode cX5_weighAs 84 = .ok (.aload_n 0, 1) := by decide +kernel
theorem dX5_weighAs_85 : decode cX5_weighAs 85 = .ok (.aload_n 1, 1) := by decide +kernel
theorem dX5_weighAs_86 : decode cX5_weighAs 86 = .ok (.getfield 45, 3) := by decide +kernel
theorem dX5_weighAs_89 : decode cX5_weighAs 89 = .ok (.putfield 45, 3) := by decide +kernel
theorem dX5_weighAs_92 : decode cX5_weighAs 92 = .ok (.aload_n 0, 1) := by decide +kernel
theorem dX5_weighAs_93 : decode cX5_weighAs 93 = .ok (.aload_n 1, 1) := by decide +kernel
theorem dX5_weighAs_94 : decode cX5_weighAs 94 = .ok (.getfield 36, 3) := by decide +kernel
theorem dX5_weighAs_97 : decode cX5_weighAs 97 = .ok (.putfield 36, 3) := by decide +kernel
theorem dX5_weighAs_100 : decode cX5_weighAs 100 = .ok (.aload_n 0, 1) := by decide +kernel
theorem dX5_weighAs_101 : decode cX5_weighAs 101 = .ok (.aload_n 1, 1) := by decide +kernel
theorem dX5_weighAs_102 : decode cX5_weighAs 102 = .ok (.getfield 39, 3) := by decide +kernel
theorem dX5_weighAs_105 : decode cX5_weighAs 105 = .ok (.putfield 39, 3) := by decide +kernel
theorem dX5_weighAs_108 : decode cX5_weighAs 108 = .ok (.return_, 1) := by decide +kernel
def f_X5_weighAs (S : SH) (a0 : Nat) (a1 : Nat) (μ : Mem) : Option (Unit × Mem) :=
  if isO S 5 a0 = true then
  (gR S 5 a1 0).bind fun v1 =>
  (gR S 5 a0 0).bind fun v2 =>
  (cpI S .int v1 0 v2 0 8 μ).bind fun ν3 =>
  (gR S 5 a1 1).bind fun v4 =>
  (gR S 5 a0 1).bind fun v5 =>
  (cpI S .int v4 0 v5 0 8 ν3).bind fun ν6 =>
  (gR S 5 a1 2).bind fun v7 =>
  (gR S 5 a0 2).bind fun v8 =>
  (cpI S .int v7 0 v8 0 8 ν6).bind fun ν9 =>
  (gR S 5 a1 3).bind fun v10 =>
  (gR S 5 a0 3).bind fun v11 =>
  (cpZ S v10 0 v11 0 8 ν9).bind fun ν12 =>
  (gI S 5 a1 4 ν12).bind fun v13 =>
  (pI S 5 a0 4 v13 ν12).bind fun ν14 =>
  (gI S 5 a1 5 ν14).bind fun v15 =>
  (pI S 5 a0 5 v15 ν14).bind fun ν16 =>
  (gI S 5 a1 6 ν16).bind fun v17 =>
  (pI S 5 a0 6 v17 ν16).bind fun ν18 =>
  (gI S 5 a1 7 ν18).bind fun v19 =>
  (pI S 5 a0 7 v19 ν18).bind fun ν20 =>
  (gI S 5 a1 8 ν20).bind fun v21 =>
  (pI S 5 a0 8 v21 ν20).bind fun ν22 =>
  (gI S 5 a1 9 ν22).bind fun v23 =>
  (pI S 5 a0 9 v23 ν22).bind fun ν24 =>
  some ((), ν24)
  else none
set_option maxRecDepth 100000 in
set_option maxHeartbeats 4000000 in
theorem c_X5_weighAs {l : Launch} {γ : GE} {S : SH} {a0 : Nat} {a1 : Nat} {μ : Mem} {X : (Unit × Mem)} (h : f_X5_weighAs S a0 a1 μ = some X) : isO S 5 a0 = true ∧ Ct l γ yX5_weighAs cX5_weighAs 2 (none) rm_X5_weighAs [.ref (gb γ + a0), .ref (gb γ + a1)] S μ S X.2 none := by
  unfold f_X5_weighAs at h
  obtain ⟨h0, h⟩ := if_some h
  refine ⟨h0, ?_⟩
  have hJ : ∀ (p : Program) (e : Env) (s : State) (m : MethodId) (args : Array Value) (below : List Frame) (meth : Method) (c : Code), FX γ p s m args meth c cX5_weighAs RX5 2 → meth.sig.returnType = (none) → JJ γ p l e rm_X5_weighAs s m args below meth c 2 0 0 (QV below γ S X args s 0 0) S μ 0 [(0, .ref (gb γ + a0)), (1, .ref (gb γ + a1))] [] := by
    intro p e s m args below meth c F hr
    refine j_aload_n F 1 dX5_weighAs_0 rfl ?_
    refine j_gR F fl_RX5_9 rfl dX5_weighAs_1 h (fun v1 h => ?_)
    refine j_iconst F 0 dX5_weighAs_4 (by decide) ?_
    refine j_aload_n F 0 dX5_weighAs_5 rfl ?_
    refine j_gR F fl_RX5_9 rfl dX5_weighAs_6 h (fun v2 h => ?_)
    refine j_iconst F 0 dX5_weighAs_9 (by decide) ?_
    refine j_bipush F 8 dX5_weighAs_10 (by decide) ?_
    refine j_cpI F w_688 ⟨Nat.le_of_ble_eq_true rfl, Nat.le_of_ble_eq_true rfl⟩ dX5_weighAs_12 h (fun ν3 h => ?_)
    refine j_aload_n F 1 dX5_weighAs_15 rfl ?_
    refine j_gR F fl_RX5_15 rfl dX5_weighAs_16 h (fun v4 h => ?_)
    refine j_iconst F 0 dX5_weighAs_19 (by decide) ?_
    refine j_aload_n F 0 dX5_weighAs_20 rfl ?_
    refine j_gR F fl_RX5_15 rfl dX5_weighAs_21 h (fun v5 h => ?_)
    refine j_iconst F 0 dX5_weighAs_24 (by decide) ?_
    refine j_bipush F 8 dX5_weighAs_25 (by decide) ?_
    refine j_cpI F w_688 ⟨Nat.le_of_ble_eq_true rfl, Nat.le_of_ble_eq_true rfl⟩ dX5_weighAs_27 h (fun ν6 h => ?_)
    refine j_aload_n F 1 dX5_weighAs_30 rfl ?_
    refine j_gR F fl_RX5_18 rfl dX5_weighAs_31 h (fun v7 h => ?_)
    refine j_iconst F 0 dX5_weighAs_34 (by decide) ?_
    refine j_aload_n F 0 dX5_weighAs_35 rfl ?_
    refine j_gR F fl_RX5_18 rfl dX5_weighAs_36 h (fun v8 h => ?_)
    refine j_iconst F 0 dX5_weighAs_39 (by decide) ?_
    refine j_bipush F 8 dX5_weighAs_40 (by decide) ?_
    refine j_cpI F w_688 ⟨Nat.le_of_ble_eq_true rfl, Nat.le_of_ble_eq_true rfl⟩ dX5_weighAs_42 h (fun ν9 h => ?_)
    refine j_aload_n F 1 dX5_weighAs_45 rfl ?_
    refine j_gR F fl_RX5_21 rfl dX5_weighAs_46 h (fun v10 h => ?_)
    refine j_iconst F 0 dX5_weighAs_49 (by decide) ?_
    refine j_aload_n F 0 dX5_weighAs_50 rfl ?_
    refine j_gR F fl_RX5_21 rfl dX5_weighAs_51 h (fun v11 h => ?_)
    refine j_iconst F 0 dX5_weighAs_54 (by decide) ?_
    refine j_bipush F 8 dX5_weighAs_55 (by decide) ?_
    refine j_cpZ F w_688 ⟨Nat.le_of_ble_eq_true rfl, Nat.le_of_ble_eq_true rfl⟩ dX5_weighAs_57 h (fun ν12 h => ?_)
    refine j_aload_n F 0 dX5_weighAs_60 rfl ?_
    refine j_aload_n F 1 dX5_weighAs_61 rfl ?_
    refine j_gI F fl_RX5_25.l rfl dX5_weighAs_62 h (fun v13 h => ?_)
    refine j_pI F fl_RX5_25 rfl dX5_weighAs_65 h (fun ν14 h => ?_)
    refine j_aload_n F 0 dX5_weighAs_68 rfl ?_
    refine j_aload_n F 1 dX5_weighAs_69 rfl ?_
    refine j_gI F fl_RX5_33.l rfl dX5_weighAs_70 h (fun v15 h => ?_)
    refine j_pI F fl_RX5_33 rfl dX5_weighAs_73 h (fun ν16 h => ?_)
    refine j_aload_n F 0 dX5_weighAs_76 rfl ?_
    refine j_aload_n F 1 dX5_weighAs_77 rfl ?_
    refine j_gI F fl_RX5_42.l rfl dX5_weighAs_78 h (fun v17 h => ?_)
    refine j_pI F fl_RX5_42 rfl dX5_weighAs_81 h (fun ν18 h => ?_)
    refine j_aload_n F 0 dX5_weighAs_84 rfl ?_
    refine j_aload_n F 1 dX5_weighAs_85 rfl ?_
    refine j_gI F fl_RX5_45.l rfl dX5_weighAs_86 h (fun v19 h => ?_)
    refine j_pI F fl_RX5_45 rfl dX5_weighAs_89 h (fun ν20 h => ?_)
    refine j_aload_n F 0 dX5_weighAs_92 rfl ?_
    refine j_aload_n F 1 dX5_weighAs_93 rfl ?_
    refine j_gI F fl_RX5_36.l rfl dX5_weighAs_94 h (fun v21 h => ?_)
    refine j_pI F fl_RX5_36 rfl dX5_weighAs_97 h (fun ν22 h => ?_)
    refine j_aload_n F 0 dX5_weighAs_100 rfl ?_
    refine j_aload_n F 1 dX5_weighAs_101 rfl ?_
    refine j_gI F fl_RX5_39.l rfl dX5_weighAs_102 h (fun v23 h => ?_)
    refine j_pI F fl_RX5_39 rfl dX5_weighAs_105 h (fun ν24 h => ?_)
    exact j_vret F hr dX5_weighAs_108 h
  exact ct_of (by decide +kernel) (Nat.le_of_ble_eq_true rfl) (fun p e s m args below meth c F hr _ => hJ p e s m args below meth c F hr)
def rm_X2_become : Room := { frames := 2, cells := 0, slots := 0, locals := 81 }
theorem dX2_become_0 : decode cX2_become 0 = .ok (.aload_n 0, 1) := by decide +kernel
theorem dX2_become_1 : decode cX2_become 1 = .ok (.getfield 12, 3) := by decide +kernel
theorem dX2_become_4 : decode cX2_become 4 = .ok (.aload_n 1, 1) := by decide +kernel
theorem dX2_become_5 : decode cX2_become 5 = .ok (.getfield 12, 3) := by decide +kernel
theorem dX2_become_8 : decode cX2_become 8 = .ok (.invokevirtual 44, 3) := by decide +kernel
theorem dX2_become_11 : decode cX2_become 11 = .ok (.aload_n 0, 1) := by decide +kernel
theorem dX2_become_12 : decode cX2_become 12 = .ok (.getfield 21, 3) := by decide +kernel
theorem dX2_become_15 : decode cX2_become 15 = .ok (.aload_n 1, 1) := by decide +kernel
theorem dX2_become_16 : decode cX2_become 16 = .ok (.getfield 21, 3) := by decide +kernel
theorem dX2_become_19 : decode cX2_become 19 = .ok (.invokevirtual 48, 3) := by decide +kernel
theorem dX2_become_22 : decode cX2_become 22 = .ok (.iconst 0, 1) := by decide +kernel
theorem dX2_become_23 : decode cX2_become 23 = .ok (.istore_n 2, 1) := by decide +kernel
theorem dX2_become_24 : decode cX2_become 24 = .ok (.iload_n 2, 1) := by decide +kernel
theorem dX2_become_25 : decode cX2_become 25 = .ok (.iconst 3, 1) := by decide +kernel
theorem dX2_become_26 : decode cX2_become 26 = .ok (.if_icmp .ge 24, 3) := by decide +kernel
theorem dX2_become_29 : decode cX2_become 29 = .ok (.aload_n 0, 1) := by decide +kernel
theorem dX2_become_30 : decode cX2_become 30 = .ok (.getfield 27, 3) := by decide +kernel
theorem dX2_become_33 : decode cX2_become 33 = .ok (.iload_n 2, 1) := by decide +kernel
theorem dX2_become_34 : decode cX2_become 34 = .ok (.aaload, 1) := by decide +kernel
theorem dX2_become_35 : decode cX2_become 35 = .ok (.aload_n 1, 1) := by decide +kernel
theorem dX2_become_36 : decode cX2_become 36 = .ok (.getfield 27, 3) := by decide +kernel
theorem dX2_become_39 : decode cX2_become 39 = .ok (.iload_n 2, 1) := by decide +kernel
theorem dX2_become_40 : decode cX2_become 40 = .ok (.aaload, 1) := by decide +kernel
theorem dX2_become_41 : decode cX2_become 41 = .ok (.invokevirtual 52, 3) := by decide +kernel
theorem dX2_become_44 : decode cX2_become 44 = .ok (.iinc 2 1, 3) := by decide +kernel
theorem dX2_become_47 : decode cX2_become 47 = .ok (.goto (-23), 3) := by decide +kernel
theorem dX2_become_50 : decode cX2_become 50 = .ok (.aload_n 1, 1) := by decide +kernel
theorem dX2_become_51 : decode cX2_become 51 = .ok (.getfield 41, 3) := by decide +kernel
theorem dX2_become_54 : decode cX2_become 54 = .ok (.iconst 0, 1) := by decide +kernel
theorem dX2_become_55 : decode cX2_become 55 = .ok (.aload_n 0, 1) := by decide +kernel
theorem dX2_become_56 : decode cX2_become 56 = .ok (.getfield 41, 3) := by decide +kernel
theorem dX2_become_59 : decode cX2_become 59 = .ok (.iconst 0, 1) := by decide +kernel
theorem dX2_become_60 : decode cX2_become 60 = .ok (.bipush 14, 2) := by decide +kernel
theorem dX2_become_62 : decode cX2_become 62 = .ok (.invokestatic 56, 3) := by decide +kernel
theorem dX2_become_65 : decode cX2_become 65 = .ok (.return_, 1) := by decide +kernel
def b_X2_become_50 (S : SH) (a0 : Nat) (a1 : Nat) (μ : Mem) : Option (Unit × Mem) :=
 (gR S 2 a1 3).bind fun v7 =>
 (gR S 2 a0 3).bind fun v8 =>
 (cpI S .int v7 0 v8 0 14 μ).bind fun ν9 =>
 some ((), ν9)
set_option maxRecDepth 100000 in
set_option maxHeartbeats 4000000 in
theorem s_X2_become_50 {γ : GE} {p : Program} {l : Launch} {e : Env} {s : State} {m : MethodId} {args : Array Value} {below : List Frame} {meth : Method} {c : Code} {S : SH} {X : (Unit × Mem)} (F : FX γ p s m args meth c cX2_become RX2 3) (hr : meth.sig.returnType = (none))  (a0 : Nat) (a1 : Nat)  (μ : Mem) (h : b_X2_become_50 S a0 a1 μ = some X) : JJ γ p l e rm_X2_become s m args below meth c 3 0 0 (QV below γ S X args s 0 0) S μ 50 [(0, .ref (gb γ + a0)), (1, .ref (gb γ + a1))] [] := by
  unfold b_X2_become_50 at h
  refine j_aload_n F 1 dX2_become_50 rfl ?_
  refine j_gR F fl_RX2_41 rfl dX2_become_51 h (fun v7 h => ?_)
  refine j_iconst F 0 dX2_become_54 (by decide) ?_
  refine j_aload_n F 0 dX2_become_55 rfl ?_
  refine j_gR F fl_RX2_41 rfl dX2_become_56 h (fun v8 h => ?_)
  refine j_iconst F 0 dX2_become_59 (by decide) ?_
  refine j_bipush F 14 dX2_become_60 (by decide) ?_
  refine j_cpI F w_694 ⟨Nat.le_of_ble_eq_true rfl, Nat.le_of_ble_eq_true rfl⟩ dX2_become_62 h (fun ν9 h => ?_)
  exact j_vret F hr dX2_become_65 h
def l_X2_become_24 (S : SH) (a0 : Nat) (a1 : Nat) (k24 : (Int32 × Mem) → Option (Unit × Mem)) (x : (Int32 × Mem)) : Option (Unit × Mem) :=
 (if 3 ≤ x.1 then
 b_X2_become_50 S a0 a1 x.2
 else
 (gR S 2 a0 2).bind fun v10 =>
 (aR S (.object "CranePads$Chart") v10 x.1).bind fun v11 =>
 (gR S 2 a1 2).bind fun v12 =>
 (aR S (.object "CranePads$Chart") v12 x.1).bind fun v13 =>
 (f_X1_readAs S v11 v13 x.2).bind fun q14 =>
 k24 (x.1 + 1, q14.2))
set_option maxRecDepth 100000 in
set_option maxHeartbeats 4000000 in
theorem t_X2_become_24 {γ : GE} {p : Program} {l : Launch} {e : Env} {s : State} {m : MethodId} {args : Array Value} {below : List Frame} {meth : Method} {c : Code} {S : SH} {X : (Unit × Mem)} (F : FX γ p s m args meth c cX2_become RX2 3) (hr : meth.sig.returnType = (none)) (a0 : Nat) (a1 : Nat) (k24 : (Int32 × Mem) → Option (Unit × Mem)) (hk24 : ∀ x : (Int32 × Mem), k24 x = some X → JJ γ p l e rm_X2_become s m args below meth c 3 0 0 (QV below γ S X args s 0 0) S x.2 24 [(0, .ref (gb γ + a0)), (1, .ref (gb γ + a1)), (2, .int x.1)] []) (x : (Int32 × Mem)) (h : l_X2_become_24 S a0 a1 k24 x = some X) : JJ γ p l e rm_X2_become s m args below meth c 3 0 0 (QV below γ S X args s 0 0) S x.2 24 [(0, .ref (gb γ + a0)), (1, .ref (gb γ + a1)), (2, .int x.1)] [] := by
  unfold l_X2_become_24 at h
  refine j_iload_n F 2 dX2_become_24 rfl ?_
  refine j_iconst F 3 dX2_become_25 (by decide) ?_
  refine j_icmpge F 50 dX2_become_26 (by decide) h (fun _ h => ?_) (fun _ h => ?_)
  · refine j_lv [(0, .ref (gb γ + a0)), (1, .ref (gb γ + a1))] [0, 1] rfl ?_
    exact s_X2_become_50 F hr _ _ _ h
  · refine j_aload_n F 0 dX2_become_29 rfl ?_
    refine j_gR F fl_RX2_27 rfl dX2_become_30 h (fun v10 h => ?_)
    refine j_iload_n F 2 dX2_become_33 rfl ?_
    refine j_aald F 4 rfl rfl rfl dX2_become_34 h (fun v11 h => ?_)
    refine j_aload_n F 1 dX2_become_35 rfl ?_
    refine j_gR F fl_RX2_27 rfl dX2_become_36 h (fun v12 h => ?_)
    refine j_iload_n F 2 dX2_become_39 rfl ?_
    refine j_aald F 4 rfl rfl rfl dX2_become_40 h (fun v13 h => ?_)
    refine j_cVV F mi_X1_readAs w_689 (rest := []) h (fun _ g => c_X1_readAs g) rfl rfl (Nat.le_of_ble_eq_true rfl) ⟨Nat.le_of_ble_eq_true rfl, Nat.le_of_ble_eq_true rfl⟩ ⟨Nat.le_of_ble_eq_true rfl, Nat.le_of_ble_eq_true rfl⟩ dX2_become_41 (fun q14 h => ?_)
    refine j_iinc F 1 2 [(2, .int (x.1 + 1)), (0, .ref (gb γ + a0)), (1, .ref (gb γ + a1))] dX2_become_44 rfl (by decide) (by decide) rfl ?_
    refine j_goto F 24 dX2_become_47 (by decide) ?_
    refine j_lv [(0, .ref (gb γ + a0)), (1, .ref (gb γ + a1)), (2, .int (x.1 + 1))] [1, 2, 0] rfl ?_
    have h9 := hk24 _ h
    exact h9
theorem s_X2_become_24 {γ : GE} {p : Program} {l : Launch} {e : Env} {s : State} {m : MethodId} {args : Array Value} {below : List Frame} {meth : Method} {c : Code} {S : SH} {X : (Unit × Mem)} (F : FX γ p s m args meth c cX2_become RX2 3) (hr : meth.sig.returnType = (none)) (a0 : Nat) (a1 : Nat) (x : (Int32 × Mem)) (h : lpN (l_X2_become_24 S a0 a1) fu x = some X) : JJ γ p l e rm_X2_become s m args below meth c 3 0 0 (QV below γ S X args s 0 0) S x.2 24 [(0, .ref (gb γ + a0)), (1, .ref (gb γ + a1)), (2, .int x.1)] [] :=
 lpN_sound (fun x => JJ γ p l e rm_X2_become s m args below meth c 3 0 0 (QV below γ S X args s 0 0) S x.2 24 [(0, .ref (gb γ + a0)), (1, .ref (gb γ + a1)), (2, .int x.1)] []) (fun k24 hk24 x h => t_X2_become_24 F hr a0 a1 k24 hk24 x h) fu x h
def f_X2_become (S : SH) (a0 : Nat) (a1 : Nat) (μ : Mem) : Option (Unit × Mem) :=
  if isO S 2 a0 = true then
  (gR S 2 a0 0).bind fun v1 =>
  (gR S 2 a1 0).bind fun v2 =>
  (f_X4_placeAs S v1 v2 μ).bind fun q3 =>
  (gR S 2 a0 1).bind fun v4 =>
  (gR S 2 a1 1).bind fun v5 =>
  (f_X5_weighAs S v4 v5 q3.2).bind fun q6 =>
  lpN (l_X2_become_24 S  a0 a1) fu (0, q6.2)
  else none
set_option maxRecDepth 100000 in
set_option maxHeartbeats 4000000 in
theorem c_X2_become {l : Launch} {γ : GE} {S : SH} {a0 : Nat} {a1 : Nat} {μ : Mem} {X : (Unit × Mem)} (h : f_X2_become S a0 a1 μ = some X) : isO S 2 a0 = true ∧ Ct l γ yX2_become cX2_become 3 (none) rm_X2_become [.ref (gb γ + a0), .ref (gb γ + a1)] S μ S X.2 none := by
  unfold f_X2_become at h
  obtain ⟨h0, h⟩ := if_some h
  refine ⟨h0, ?_⟩
  have hJ : ∀ (p : Program) (e : Env) (s : State) (m : MethodId) (args : Array Value) (below : List Frame) (meth : Method) (c : Code), FX γ p s m args meth c cX2_become RX2 3 → meth.sig.returnType = (none) → JJ γ p l e rm_X2_become s m args below meth c 3 0 0 (QV below γ S X args s 0 0) S μ 0 [(0, .ref (gb γ + a0)), (1, .ref (gb γ + a1))] [] := by
    intro p e s m args below meth c F hr
    refine j_aload_n F 0 dX2_become_0 rfl ?_
    refine j_gR F fl_RX2_12 rfl dX2_become_1 h (fun v1 h => ?_)
    refine j_aload_n F 1 dX2_become_4 rfl ?_
    refine j_gR F fl_RX2_12 rfl dX2_become_5 h (fun v2 h => ?_)
    refine j_cVV F mi_X4_placeAs w_677 (rest := []) h (fun _ g => c_X4_placeAs g) rfl rfl (Nat.le_of_ble_eq_true rfl) ⟨Nat.le_of_ble_eq_true rfl, Nat.le_of_ble_eq_true rfl⟩ ⟨Nat.le_of_ble_eq_true rfl, Nat.le_of_ble_eq_true rfl⟩ dX2_become_8 (fun q3 h => ?_)
    refine j_aload_n F 0 dX2_become_11 rfl ?_
    refine j_gR F fl_RX2_21 rfl dX2_become_12 h (fun v4 h => ?_)
    refine j_aload_n F 1 dX2_become_15 rfl ?_
    refine j_gR F fl_RX2_21 rfl dX2_become_16 h (fun v5 h => ?_)
    refine j_cVV F mi_X5_weighAs w_684 (rest := []) h (fun _ g => c_X5_weighAs g) rfl rfl (Nat.le_of_ble_eq_true rfl) ⟨Nat.le_of_ble_eq_true rfl, Nat.le_of_ble_eq_true rfl⟩ ⟨Nat.le_of_ble_eq_true rfl, Nat.le_of_ble_eq_true rfl⟩ dX2_become_19 (fun q6 h => ?_)
    refine j_iconst F 0 dX2_become_22 (by decide) ?_
    refine j_istore_n F [(2, .int 0), (0, .ref (gb γ + a0)), (1, .ref (gb γ + a1))] dX2_become_23 rfl (by decide) rfl ?_
    refine j_lv [(0, .ref (gb γ + a0)), (1, .ref (gb γ + a1)), (2, .int 0)] [1, 2, 0] rfl ?_
    exact s_X2_become_24 F hr _ _ _ h
  exact ct_of (by decide +kernel) (Nat.le_of_ble_eq_true rfl) (fun p e s m args below meth c F hr _ => hJ p e s m args below meth c F hr)
def rm_X2_hanging : Room := { frames := 0, cells := 0, slots := 0, locals := 0 }
theorem dX2_hanging_0 : decode cX2_hanging 0 = .ok (.aload_n 0, 1) := by decide +kernel
theorem dX2_hanging_1 : decode cX2_hanging 1 = .ok (.getfield 41, 3) := by decide +kernel
theorem dX2_hanging_4 : decode cX2_hanging 4 = .ok (.iconst 3, 1) := by decide +kernel
theorem dX2_hanging_5 : decode cX2_hanging 5 = .ok (.iaload, 1) := by decide +kernel
theorem dX2_hanging_6 : decode cX2_hanging 6 = .ok (.aload_n 0, 1) := by decide +kernel
theorem dX2_hanging_7 : decode cX2_hanging 7 = .ok (.getfield 41, 3) := by decide +kernel
theorem dX2_hanging_10 : decode cX2_hanging 10 = .ok (.iconst 2, 1) := by decide +kernel
theorem dX2_hanging_11 : decode cX2_hanging 11 = .ok (.iaload, 1) := by decide +kernel
theorem dX2_hanging_12 : decode cX2_hanging 12 = .ok (.iadd, 1) := by decide +kernel
theorem dX2_hanging_13 : decode cX2_hanging 13 = .ok (.ireturn, 1) := by decide +kernel
def f_X2_hanging (S : SH) (a0 : Nat) (μ : Mem) : Option (Int32 × Mem) :=
  if isO S 2 a0 = true then
  (gR S 2 a0 3).bind fun v1 =>
  (aI S .int v1 3 μ).bind fun v2 =>
  (gR S 2 a0 3).bind fun v3 =>
  (aI S .int v3 2 μ).bind fun v4 =>
  some (v2 + v4, μ)
  else none
set_option maxRecDepth 100000 in
set_option maxHeartbeats 4000000 in
theorem c_X2_hanging {l : Launch} {γ : GE} {S : SH} {a0 : Nat} {μ : Mem} {X : (Int32 × Mem)} (h : f_X2_hanging S a0 μ = some X) : isO S 2 a0 = true ∧ Ct l γ yX2_hanging cX2_hanging 1 (some .int) rm_X2_hanging [.ref (gb γ + a0)] S μ S X.2 (some (.int X.1)) := by
  unfold f_X2_hanging at h
  obtain ⟨h0, h⟩ := if_some h
  refine ⟨h0, ?_⟩
  have hJ : ∀ (p : Program) (e : Env) (s : State) (m : MethodId) (args : Array Value) (below : List Frame) (meth : Method) (c : Code), FX γ p s m args meth c cX2_hanging RX2 1 → meth.sig.returnType = (some .int) → JJ γ p l e rm_X2_hanging s m args below meth c 1 0 0 (QI below γ S X args s 0 0) S μ 0 [(0, .ref (gb γ + a0))] [] := by
    intro p e s m args below meth c F hr
    refine j_aload_n F 0 dX2_hanging_0 rfl ?_
    refine j_gR F fl_RX2_41 rfl dX2_hanging_1 h (fun v1 h => ?_)
    refine j_iconst F 3 dX2_hanging_4 (by decide) ?_
    refine j_iald F dX2_hanging_5 h (fun v2 h => ?_)
    refine j_aload_n F 0 dX2_hanging_6 rfl ?_
    refine j_gR F fl_RX2_41 rfl dX2_hanging_7 h (fun v3 h => ?_)
    refine j_iconst F 2 dX2_hanging_10 (by decide) ?_
    refine j_iald F dX2_hanging_11 h (fun v4 h => ?_)
    refine j_iadd F dX2_hanging_12 ?_
    exact j_iret F hr dX2_hanging_13 h
  exact ct_of (by decide +kernel) (Nat.le_of_ble_eq_true rfl) (fun p e s m args below meth c F hr _ => hJ p e s m args below meth c F hr)
def rm_X2_wholeMass : Room := { frames := 1, cells := 0, slots := 0, locals := 20 }
theorem dX2_wholeMass_0 : decode cX2_wholeMass 0 = .ok (.aload_n 0, 1) := by decide +kernel
theorem dX2_wholeMass_1 : decode cX2_wholeMass 1 = .ok (.getfield 21, 3) := by decide +kernel
theorem dX2_wholeMass_4 : decode cX2_wholeMass 4 = .ok (.getfield 62, 3) := by decide +kernel
theorem dX2_wholeMass_7 : decode cX2_wholeMass 7 = .ok (.aload_n 0, 1) := by decide +kernel
theorem dX2_wholeMass_8 : decode cX2_wholeMass 8 = .ok (.invokevirtual 66, 3) := by decide +kernel
theorem dX2_wholeMass_11 : decode cX2_wholeMass 11 = .ok (.iadd, 1) := by decide +kernel
theorem dX2_wholeMass_12 : decode cX2_wholeMass 12 = .ok (.ireturn, 1) := by decide +kernel
def f_X2_wholeMass (S : SH) (a0 : Nat) (μ : Mem) : Option (Int32 × Mem) :=
  if isO S 2 a0 = true then
  (gR S 2 a0 1).bind fun v1 =>
  (gI S 5 v1 5 μ).bind fun v2 =>
  (f_X2_hanging S a0 μ).bind fun q3 =>
  some (v2 + q3.1, q3.2)
  else none
set_option maxRecDepth 100000 in
set_option maxHeartbeats 4000000 in
theorem c_X2_wholeMass {l : Launch} {γ : GE} {S : SH} {a0 : Nat} {μ : Mem} {X : (Int32 × Mem)} (h : f_X2_wholeMass S a0 μ = some X) : isO S 2 a0 = true ∧ Ct l γ yX2_wholeMass cX2_wholeMass 1 (some .int) rm_X2_wholeMass [.ref (gb γ + a0)] S μ S X.2 (some (.int X.1)) := by
  unfold f_X2_wholeMass at h
  obtain ⟨h0, h⟩ := if_some h
  refine ⟨h0, ?_⟩
  have hJ : ∀ (p : Program) (e : Env) (s : State) (m : MethodId) (args : Array Value) (below : List Frame) (meth : Method) (c : Code), FX γ p s m args meth c cX2_wholeMass RX2 1 → meth.sig.returnType = (some .int) → JJ γ p l e rm_X2_wholeMass s m args below meth c 1 0 0 (QI below γ S X args s 0 0) S μ 0 [(0, .ref (gb γ + a0))] [] := by
    intro p e s m args below meth c F hr
    refine j_aload_n F 0 dX2_wholeMass_0 rfl ?_
    refine j_gR F fl_RX2_21 rfl dX2_wholeMass_1 h (fun v1 h => ?_)
    refine j_gI F fl_RX2_62.l rfl dX2_wholeMass_4 h (fun v2 h => ?_)
    refine j_aload_n F 0 dX2_wholeMass_7 rfl ?_
    refine j_cVI F mi_X2_hanging w_562 (rest := [.int v2]) h (fun _ g => c_X2_hanging g) rfl rfl (Nat.le_of_ble_eq_true rfl) ⟨Nat.le_of_ble_eq_true rfl, Nat.le_of_ble_eq_true rfl⟩ ⟨Nat.le_of_ble_eq_true rfl, Nat.le_of_ble_eq_true rfl⟩ dX2_wholeMass_8 (fun q3 h => ?_)
    refine j_iadd F dX2_wholeMass_11 ?_
    exact j_iret F hr dX2_wholeMass_12 h
  exact ct_of (by decide +kernel) (Nat.le_of_ble_eq_true rfl) (fun p e s m args below meth c F hr _ => hJ p e s m args below meth c F hr)
def rm_X2_mayHang : Room := { frames := 1, cells := 0, slots := 0, locals := 23 }
theorem dX2_mayHang_0 : decode cX2_mayHang 0 = .ok (.aload_n 0, 1) := by decide +kernel
theorem dX2_mayHang_1 : decode cX2_mayHang 1 = .ok (.getfield 41, 3) := by decide +kernel
theorem dX2_mayHang_4 : decode cX2_mayHang 4 = .ok (.bipush 6, 2) := by decide +kernel
theorem dX2_mayHang_6 : decode cX2_mayHang 6 = .ok (.iaload, 1) := by decide +kernel
theorem dX2_mayHang_7 : decode cX2_mayHang 7 = .ok (.istore_n 3, 1) := by decide +kernel
theorem dX2_mayHang_8 : decode cX2_mayHang 8 = .ok (.aload_n 0, 1) := by decide +kernel
theorem dX2_mayHang_9 : decode cX2_mayHang 9 = .ok (.getfield 27, 3) := by decide +kernel
theorem dX2_mayHang_12 : decode cX2_mayHang 12 = .ok (.aload_n 0, 1) := by decide +kernel
theorem dX2_mayHang_13 : decode cX2_mayHang 13 = .ok (.getfield 41, 3) := by decide +kernel
theorem dX2_mayHang_16 : decode cX2_mayHang 16 = .ok (.iconst 5, 1) := by decide +kernel
theorem dX2_mayHang_17 : decode cX2_mayHang 17 = .ok (.iaload, 1) := by decide +kernel
theorem dX2_mayHang_18 : decode cX2_mayHang 18 = .ok (.aaload, 1) := by decide +kernel
theorem dX2_mayHang_19 : decode cX2_mayHang 19 = .ok (.iload_n 2, 1) := by decide +kernel
theorem dX2_mayHang_20 : decode cX2_mayHang 20 = .ok (.invokevirtual 70, 3) := by decide +kernel
theorem dX2_mayHang_23 : decode cX2_mayHang 23 = .ok (.bipush 100, 2) := by decide +kernel
theorem dX2_mayHang_25 : decode cX2_mayHang 25 = .ok (.iconst 5, 1) := by decide +kernel
theorem dX2_mayHang_26 : decode cX2_mayHang 26 = .ok (.iload_n 3, 1) := by decide +kernel
theorem dX2_mayHang_27 : decode cX2_mayHang 27 = .ok (.imul, 1) := by decide +kernel
theorem dX2_mayHang_28 : decode cX2_mayHang 28 = .ok (.isub, 1) := by decide +kernel
theorem dX2_mayHang_29 : decode cX2_mayHang 29 = .ok (.imul, 1) := by decide +kernel
theorem dX2_mayHang_30 : decode cX2_mayHang 30 = .ok (.bipush 100, 2) := by decide +kernel
theorem dX2_mayHang_32 : decode cX2_mayHang 32 = .ok (.idiv, 1) := by decide +kernel
theorem dX2_mayHang_33 : decode cX2_mayHang 33 = .ok (.istore 4, 2) := by decide +kernel
theorem dX2_mayHang_35 : decode cX2_mayHang 35 = .ok (.aload_n 0, 1) := by decide +kernel
theorem dX2_mayHang_36 : decode cX2_mayHang 36 = .ok (.getfield 41, 3) := by decide +kernel
theorem dX2_mayHang_39 : decode cX2_mayHang 39 = .ok (.bipush 7, 2) := by decide +kernel
theorem dX2_mayHang_41 : decode cX2_mayHang 41 = .ok (.iaload, 1) := by decide +kernel
theorem dX2_mayHang_42 : decode cX2_mayHang 42 = .ok (.ifCond .eq 11, 3) := by decide +kernel
theorem dX2_mayHang_45 : decode cX2_mayHang 45 = .ok (.iload 4, 2) := by decide +kernel
theorem dX2_mayHang_47 : decode cX2_mayHang 47 = .ok (.iconst 3, 1) := by decide +kernel
theorem dX2_mayHang_48 : decode cX2_mayHang 48 = .ok (.imul, 1) := by decide +kernel
theorem dX2_mayHang_49 : decode cX2_mayHang 49 = .ok (.iconst 4, 1) := by decide +kernel
theorem dX2_mayHang_50 : decode cX2_mayHang 50 = .ok (.idiv, 1) := by decide +kernel
theorem dX2_mayHang_51 : decode cX2_mayHang 51 = .ok (.istore 4, 2) := by decide +kernel
theorem dX2_mayHang_53 : decode cX2_mayHang 53 = .ok (.aload_n 0, 1) := by decide +kernel
theorem dX2_mayHang_54 : decode cX2_mayHang 54 = .ok (.getfield 41, 3) := by decide +kernel
theorem dX2_mayHang_57 : decode cX2_mayHang 57 = .ok (.bipush 7, 2) := by decide +kernel
theorem dX2_mayHang_59 : decode cX2_mayHang 59 = .ok (.iaload, 1) := by decide +kernel
theorem dX2_mayHang_60 : decode cX2_mayHang 60 = .ok (.iconst 2, 1) := by decide +kernel
theorem dX2_mayHang_61 : decode cX2_mayHang 61 = .ok (.if_icmp .ne 13, 3) := by decide +kernel
theorem dX2_mayHang_64 : decode cX2_mayHang 64 = .ok (.iconst 0, 1) := by decide +kernel
theorem dX2_mayHang_65 : decode cX2_mayHang 65 = .ok (.iload 4, 2) := by decide +kernel
theorem dX2_mayHang_67 : decode cX2_mayHang 67 = .ok (.iload_n 3, 1) := by decide +kernel
theorem dX2_mayHang_68 : decode cX2_mayHang 68 = .ok (.isub, 1) := by decide +kernel
theorem dX2_mayHang_69 : decode cX2_mayHang 69 = .ok (.invokestatic 74, 3) := by decide +kernel
theorem dX2_mayHang_72 : decode cX2_mayHang 72 = .ok (.istore 4, 2) := by decide +kernel
theorem dX2_mayHang_74 : decode cX2_mayHang 74 = .ok (.iload 4, 2) := by decide +kernel
theorem dX2_mayHang_76 : decode cX2_mayHang 76 = .ok (.aload_n 0, 1) := by decide +kernel
theorem dX2_mayHang_77 : decode cX2_mayHang 77 = .ok (.getfield 41, 3) := by decide +kernel
theorem dX2_mayHang_80 : decode cX2_mayHang 80 = .ok (.bipush 10, 2) := by decide +kernel
theorem dX2_mayHang_82 : decode cX2_mayHang 82 = .ok (.iload_n 1, 1) := by decide +kernel
theorem dX2_mayHang_83 : decode cX2_mayHang 83 = .ok (.iconst 5, 1) := by decide +kernel
theorem dX2_mayHang_84 : decode cX2_mayHang 84 = .ok (.idiv, 1) := by decide +kernel
theorem dX2_mayHang_85 : decode cX2_mayHang 85 = .ok (.iadd, 1) := by decide +kernel
theorem dX2_mayHang_86 : decode cX2_mayHang 86 = .ok (.iaload, 1) := by decide +kernel
theorem dX2_mayHang_87 : decode cX2_mayHang 87 = .ok (.imul, 1) := by decide +kernel
theorem dX2_mayHang_88 : decode cX2_mayHang 88 = .ok (.bipush 100, 2) := by decide +kernel
theorem dX2_mayHang_90 : decode cX2_mayHang 90 = .ok (.idiv, 1) := by decide +kernel
theorem dX2_mayHang_91 : decode cX2_mayHang 91 = .ok (.ireturn, 1) := by decide +kernel
def b_X2_mayHang_74 (S : SH) (a0 : Nat) (a1 : Int32) (a4 : Int32) (μ : Mem) : Option (Int32 × Mem) :=
 (gR S 2 a0 3).bind fun v13 =>
 (aI S .int v13 (10 + (a1 / 5)) μ).bind fun v14 =>
 some ((a4 * v14) / 100, μ)
set_option maxRecDepth 100000 in
set_option maxHeartbeats 4000000 in
theorem s_X2_mayHang_74 {γ : GE} {p : Program} {l : Launch} {e : Env} {s : State} {m : MethodId} {args : Array Value} {below : List Frame} {meth : Method} {c : Code} {S : SH} {X : (Int32 × Mem)} (F : FX γ p s m args meth c cX2_mayHang RX2 5) (hr : meth.sig.returnType = (some .int))  (a0 : Nat) (a1 : Int32) (a4 : Int32)  (μ : Mem) (h : b_X2_mayHang_74 S a0 a1 a4 μ = some X) : JJ γ p l e rm_X2_mayHang s m args below meth c 5 0 0 (QI below γ S X args s 0 0) S μ 74 [(0, .ref (gb γ + a0)), (1, .int a1), (4, .int a4)] [] := by
  unfold b_X2_mayHang_74 at h
  refine j_iload F 2 dX2_mayHang_74 rfl ?_
  refine j_aload_n F 0 dX2_mayHang_76 rfl ?_
  refine j_gR F fl_RX2_41 rfl dX2_mayHang_77 h (fun v13 h => ?_)
  refine j_bipush F 10 dX2_mayHang_80 (by decide) ?_
  refine j_iload_n F 1 dX2_mayHang_82 rfl ?_
  refine j_iconst F 5 dX2_mayHang_83 (by decide) ?_
  refine j_idivc F dX2_mayHang_84 (by decide) ?_
  refine j_iadd F dX2_mayHang_85 ?_
  refine j_iald F dX2_mayHang_86 h (fun v14 h => ?_)
  refine j_imul F dX2_mayHang_87 ?_
  refine j_bipush F 100 dX2_mayHang_88 (by decide) ?_
  refine j_idivc F dX2_mayHang_90 (by decide) ?_
  exact j_iret F hr dX2_mayHang_91 h
def b_X2_mayHang_53 (S : SH) (a0 : Nat) (a1 : Int32) (a3 : Int32) (a4 : Int32) (μ : Mem) : Option (Int32 × Mem) :=
 (gR S 2 a0 3).bind fun v11 =>
 (aI S .int v11 7 μ).bind fun v12 =>
 (if v12 = 2 then
 (some ((if 0 < (a4 - a3) then a4 - a3 else 0))).bind fun y15 =>
 b_X2_mayHang_74 S a0 a1 y15 μ
 else
 b_X2_mayHang_74 S a0 a1 a4 μ)
set_option maxRecDepth 100000 in
set_option maxHeartbeats 4000000 in
theorem s_X2_mayHang_53 {γ : GE} {p : Program} {l : Launch} {e : Env} {s : State} {m : MethodId} {args : Array Value} {below : List Frame} {meth : Method} {c : Code} {S : SH} {X : (Int32 × Mem)} (F : FX γ p s m args meth c cX2_mayHang RX2 5) (hr : meth.sig.returnType = (some .int))  (a0 : Nat) (a1 : Int32) (a3 : Int32) (a4 : Int32)  (μ : Mem) (h : b_X2_mayHang_53 S a0 a1 a3 a4 μ = some X) : JJ γ p l e rm_X2_mayHang s m args below meth c 5 0 0 (QI below γ S X args s 0 0) S μ 53 [(0, .ref (gb γ + a0)), (1, .int a1), (3, .int a3), (4, .int a4)] [] := by
  unfold b_X2_mayHang_53 at h
  refine j_aload_n F 0 dX2_mayHang_53 rfl ?_
  refine j_gR F fl_RX2_41 rfl dX2_mayHang_54 h (fun v11 h => ?_)
  refine j_bipush F 7 dX2_mayHang_57 (by decide) ?_
  refine j_iald F dX2_mayHang_59 h (fun v12 h => ?_)
  refine j_iconst F 2 dX2_mayHang_60 (by decide) ?_
  refine j_icmpne F 74 dX2_mayHang_61 (by decide) h (fun _ h => ?_) (fun _ h => ?_)
  · refine j_lv [(0, .ref (gb γ + a0)), (1, .int a1), (4, .int a4)] [0, 1, 3] rfl ?_
    exact s_X2_mayHang_74 F hr _ _ _ _ h
  · refine j_iconst F 0 dX2_mayHang_64 (by decide) ?_
    refine j_iload F 3 dX2_mayHang_65 rfl ?_
    refine j_iload_n F 2 dX2_mayHang_67 rfl ?_
    refine j_isub F dX2_mayHang_68 ?_
    refine j_mmax F w_551 ⟨Nat.le_of_ble_eq_true rfl, Nat.le_of_ble_eq_true rfl, Nat.le_of_ble_eq_true rfl, Nat.le_of_ble_eq_true rfl⟩ dX2_mayHang_69 mg_max ?_
    refine j_nmI h (fun y15 h => ?_)
    refine j_istore F [(4, .int y15), (0, .ref (gb γ + a0)), (1, .int a1), (3, .int a3)] dX2_mayHang_72 (by decide) rfl ?_
    refine j_lv [(0, .ref (gb γ + a0)), (1, .int a1), (4, .int y15)] [1, 2, 0] rfl ?_
    exact s_X2_mayHang_74 F hr _ _ _ _ h
def f_X2_mayHang (S : SH) (a0 : Nat) (a1 : Int32) (a2 : Int32) (μ : Mem) : Option (Int32 × Mem) :=
  if isO S 2 a0 = true then
  (gR S 2 a0 3).bind fun v1 =>
  (aI S .int v1 6 μ).bind fun v2 =>
  (gR S 2 a0 2).bind fun v3 =>
  (gR S 2 a0 3).bind fun v4 =>
  (aI S .int v4 5 μ).bind fun v5 =>
  (aR S (.object "CranePads$Chart") v3 v5).bind fun v6 =>
  (f_X1_at S v6 a2 μ).bind fun q7 =>
  (some ((q7.1 * (100 - (5 * v2))) / 100)).bind fun y8 =>
  (gR S 2 a0 3).bind fun v9 =>
  (aI S .int v9 7 q7.2).bind fun v10 =>
  (if v10 = 0 then
  b_X2_mayHang_53 S a0 a1 v2 y8 q7.2
  else
  (some ((y8 * 3) / 4)).bind fun y16 =>
  b_X2_mayHang_53 S a0 a1 v2 y16 q7.2)
  else none
set_option maxRecDepth 100000 in
set_option maxHeartbeats 4000000 in
theorem c_X2_mayHang {l : Launch} {γ : GE} {S : SH} {a0 : Nat} {a1 : Int32} {a2 : Int32} {μ : Mem} {X : (Int32 × Mem)} (h : f_X2_mayHang S a0 a1 a2 μ = some X) : isO S 2 a0 = true ∧ Ct l γ yX2_mayHang cX2_mayHang 5 (some .int) rm_X2_mayHang [.ref (gb γ + a0), .int a1, .int a2] S μ S X.2 (some (.int X.1)) := by
  unfold f_X2_mayHang at h
  obtain ⟨h0, h⟩ := if_some h
  refine ⟨h0, ?_⟩
  have hJ : ∀ (p : Program) (e : Env) (s : State) (m : MethodId) (args : Array Value) (below : List Frame) (meth : Method) (c : Code), FX γ p s m args meth c cX2_mayHang RX2 5 → meth.sig.returnType = (some .int) → JJ γ p l e rm_X2_mayHang s m args below meth c 5 0 0 (QI below γ S X args s 0 0) S μ 0 [(0, .ref (gb γ + a0)), (1, .int a1), (2, .int a2)] [] := by
    intro p e s m args below meth c F hr
    refine j_aload_n F 0 dX2_mayHang_0 rfl ?_
    refine j_gR F fl_RX2_41 rfl dX2_mayHang_1 h (fun v1 h => ?_)
    refine j_bipush F 6 dX2_mayHang_4 (by decide) ?_
    refine j_iald F dX2_mayHang_6 h (fun v2 h => ?_)
    refine j_istore_n F [(3, .int v2), (0, .ref (gb γ + a0)), (1, .int a1), (2, .int a2)] dX2_mayHang_7 rfl (by decide) rfl ?_
    refine j_aload_n F 1 dX2_mayHang_8 rfl ?_
    refine j_gR F fl_RX2_27 rfl dX2_mayHang_9 h (fun v3 h => ?_)
    refine j_aload_n F 1 dX2_mayHang_12 rfl ?_
    refine j_gR F fl_RX2_41 rfl dX2_mayHang_13 h (fun v4 h => ?_)
    refine j_iconst F 5 dX2_mayHang_16 (by decide) ?_
    refine j_iald F dX2_mayHang_17 h (fun v5 h => ?_)
    refine j_aald F 4 rfl rfl rfl dX2_mayHang_18 h (fun v6 h => ?_)
    refine j_iload_n F 3 dX2_mayHang_19 rfl ?_
    refine j_cVI F mi_X1_at w_550 (rest := []) h (fun _ g => c_X1_at g) rfl rfl (Nat.le_of_ble_eq_true rfl) ⟨Nat.le_of_ble_eq_true rfl, Nat.le_of_ble_eq_true rfl⟩ ⟨Nat.le_of_ble_eq_true rfl, Nat.le_of_ble_eq_true rfl⟩ dX2_mayHang_20 (fun q7 h => ?_)
    refine j_bipush F 100 dX2_mayHang_23 (by decide) ?_
    refine j_iconst F 5 dX2_mayHang_25 (by decide) ?_
    refine j_iload_n F 0 dX2_mayHang_26 rfl ?_
    refine j_imul F dX2_mayHang_27 ?_
    refine j_isub F dX2_mayHang_28 ?_
    refine j_imul F dX2_mayHang_29 ?_
    refine j_bipush F 100 dX2_mayHang_30 (by decide) ?_
    refine j_idivc F dX2_mayHang_32 (by decide) ?_
    refine j_nmI h (fun y8 h => ?_)
    refine j_istore F [(4, .int y8), (3, .int v2), (0, .ref (gb γ + a0)), (1, .int a1), (2, .int a2)] dX2_mayHang_33 (by decide) rfl ?_
    refine j_aload_n F 2 dX2_mayHang_35 rfl ?_
    refine j_gR F fl_RX2_41 rfl dX2_mayHang_36 h (fun v9 h => ?_)
    refine j_bipush F 7 dX2_mayHang_39 (by decide) ?_
    refine j_iald F dX2_mayHang_41 h (fun v10 h => ?_)
    refine j_ifeq F 53 dX2_mayHang_42 (by decide) h (fun _ h => ?_) (fun _ h => ?_)
    · refine j_lv [(0, .ref (gb γ + a0)), (1, .int a1), (3, .int v2), (4, .int y8)] [2, 3, 1, 0] rfl ?_
      exact s_X2_mayHang_53 F hr _ _ _ _ _ h
    · refine j_iload F 0 dX2_mayHang_45 rfl ?_
      refine j_iconst F 3 dX2_mayHang_47 (by decide) ?_
      refine j_imul F dX2_mayHang_48 ?_
      refine j_iconst F 4 dX2_mayHang_49 (by decide) ?_
      refine j_idivc F dX2_mayHang_50 (by decide) ?_
      refine j_nmI h (fun y16 h => ?_)
      refine j_istore F [(4, .int y16), (3, .int v2), (0, .ref (gb γ + a0)), (1, .int a1), (2, .int a2)] dX2_mayHang_51 (by decide) rfl ?_
      refine j_lv [(0, .ref (gb γ + a0)), (1, .int a1), (3, .int v2), (4, .int y16)] [2, 3, 1, 0] rfl ?_
      exact s_X2_mayHang_53 F hr _ _ _ _ _ h
  exact ct_of (by decide +kernel) (Nat.le_of_ble_eq_true rfl) (fun p e s m args below meth c F hr _ => hJ p e s m args below meth c F hr)
def rm_X2_room : Room := { frames := 2, cells := 0, slots := 0, locals := 47 }
theorem dX2_room_0 : decode cX2_room 0 = .ok (.aload_n 0, 1) := by decide +kernel
theorem dX2_room_1 : decode cX2_room 1 = .ok (.aload_n 0, 1) := by decide +kernel
theorem dX2_room_2 : decode cX2_room 2 = .ok (.getfield 41, 3) := by decide +kernel
theorem dX2_room_5 : decode cX2_room 5 = .ok (.iconst 0, 1) := by decide +kernel
theorem dX2_room_6 : decode cX2_room 6 = .ok (.iaload, 1) := by decide +kernel
theorem dX2_room_7 : decode cX2_room 7 = .ok (.aload_n 0, 1) := by decide +kernel
theorem dX2_room_8 : decode cX2_room 8 = .ok (.getfield 41, 3) := by decide +kernel
theorem dX2_room_11 : decode cX2_room 11 = .ok (.iconst 1, 1) := by decide +kernel
theorem dX2_room_12 : decode cX2_room 12 = .ok (.iaload, 1) := by decide +kernel
theorem dX2_room_13 : decode cX2_room 13 = .ok (.invokevirtual 80, 3) := by decide +kernel
theorem dX2_room_16 : decode cX2_room 16 = .ok (.aload_n 0, 1) := by decide +kernel
theorem dX2_room_17 : decode cX2_room 17 = .ok (.invokevirtual 66, 3) := by decide +kernel
theorem dX2_room_20 : decode cX2_room 20 = .ok (.isub, 1) := by decide +kernel
theorem dX2_room_21 : decode cX2_room 21 = .ok (.ireturn, 1) := by decide +kernel
def f_X2_room (S : SH) (a0 : Nat) (μ : Mem) : Option (Int32 × Mem) :=
  if isO S 2 a0 = true then
  (gR S 2 a0 3).bind fun v1 =>
  (aI S .int v1 0 μ).bind fun v2 =>
  (gR S 2 a0 3).bind fun v3 =>
  (aI S .int v3 1 μ).bind fun v4 =>
  (f_X2_mayHang S a0 v2 v4 μ).bind fun q5 =>
  (f_X2_hanging S a0 q5.2).bind fun q6 =>
  some (q5.1 - q6.1, q6.2)
  else none
set_option maxRecDepth 100000 in
set_option maxHeartbeats 4000000 in
theorem c_X2_room {l : Launch} {γ : GE} {S : SH} {a0 : Nat} {μ : Mem} {X : (Int32 × Mem)} (h : f_X2_room S a0 μ = some X) : isO S 2 a0 = true ∧ Ct l γ yX2_room cX2_room 1 (some .int) rm_X2_room [.ref (gb γ + a0)] S μ S X.2 (some (.int X.1)) := by
  unfold f_X2_room at h
  obtain ⟨h0, h⟩ := if_some h
  refine ⟨h0, ?_⟩
  have hJ : ∀ (p : Program) (e : Env) (s : State) (m : MethodId) (args : Array Value) (below : List Frame) (meth : Method) (c : Code), FX γ p s m args meth c cX2_room RX2 1 → meth.sig.returnType = (some .int) → JJ γ p l e rm_X2_room s m args below meth c 1 0 0 (QI below γ S X args s 0 0) S μ 0 [(0, .ref (gb γ + a0))] [] := by
    intro p e s m args below meth c F hr
    refine j_aload_n F 0 dX2_room_0 rfl ?_
    refine j_aload_n F 0 dX2_room_1 rfl ?_
    refine j_gR F fl_RX2_41 rfl dX2_room_2 h (fun v1 h => ?_)
    refine j_iconst F 0 dX2_room_5 (by decide) ?_
    refine j_iald F dX2_room_6 h (fun v2 h => ?_)
    refine j_aload_n F 0 dX2_room_7 rfl ?_
    refine j_gR F fl_RX2_41 rfl dX2_room_8 h (fun v3 h => ?_)
    refine j_iconst F 1 dX2_room_11 (by decide) ?_
    refine j_iald F dX2_room_12 h (fun v4 h => ?_)
    refine j_cVI F mi_X2_mayHang w_655 (rest := []) h (fun _ g => c_X2_mayHang g) rfl rfl (Nat.le_of_ble_eq_true rfl) ⟨Nat.le_of_ble_eq_true rfl, Nat.le_of_ble_eq_true rfl⟩ ⟨Nat.le_of_ble_eq_true rfl, Nat.le_of_ble_eq_true rfl⟩ dX2_room_13 (fun q5 h => ?_)
    refine j_aload_n F 0 dX2_room_16 rfl ?_
    refine j_cVI F mi_X2_hanging w_562 (rest := [.int q5.1]) h (fun _ g => c_X2_hanging g) rfl rfl (Nat.le_of_ble_eq_true rfl) ⟨Nat.le_of_ble_eq_true rfl, Nat.le_of_ble_eq_true rfl⟩ ⟨Nat.le_of_ble_eq_true rfl, Nat.le_of_ble_eq_true rfl⟩ dX2_room_17 (fun q6 h => ?_)
    refine j_isub F dX2_room_20 ?_
    exact j_iret F hr dX2_room_21 h
  exact ct_of (by decide +kernel) (Nat.le_of_ble_eq_true rfl) (fun p e s m args below meth c F hr _ => hJ p e s m args below meth c F hr)
def rm_J9_floorMod_7cf53 : Room := { frames := 0, cells := 0, slots := 0, locals := 0 }
theorem dJ9_floorMod_7cf53_0 : decode cJ9_floorMod_7cf53 0 = .ok (.iload_n 0, 1) := by decide +kernel
theorem dJ9_floorMod_7cf53_1 : decode cJ9_floorMod_7cf53 1 = .ok (.iload_n 1, 1) := by decide +kernel
theorem dJ9_floorMod_7cf53_2 : decode cJ9_floorMod_7cf53 2 = .ok (.irem, 1) := by decide +kernel
theorem dJ9_floorMod_7cf53_3 : decode cJ9_floorMod_7cf53 3 = .ok (.istore_n 2, 1) := by decide +kernel
theorem dJ9_floorMod_7cf53_4 : decode cJ9_floorMod_7cf53 4 = .ok (.iload_n 0, 1) := by decide +kernel
theorem dJ9_floorMod_7cf53_5 : decode cJ9_floorMod_7cf53 5 = .ok (.iload_n 1, 1) := by decide +kernel
theorem dJ9_floorMod_7cf53_6 : decode cJ9_floorMod_7cf53 6 = .ok (.ixor, 1) := by decide +kernel
theorem dJ9_floorMod_7cf53_7 : decode cJ9_floorMod_7cf53 7 = .ok (.ifCond .ge 11, 3) := by decide +kernel
theorem dJ9_floorMod_7cf53_10 : decode cJ9_floorMod_7cf53 10 = .ok (.iload_n 2, 1) := by decide +kernel
theorem dJ9_floorMod_7cf53_11 : decode cJ9_floorMod_7cf53 11 = .ok (.ifCond .eq 7, 3) := by decide +kernel
theorem dJ9_floorMod_7cf53_14 : decode cJ9_floorMod_7cf53 14 = .ok (.iload_n 2, 1) := by decide +kernel
theorem dJ9_floorMod_7cf53_15 : decode cJ9_floorMod_7cf53 15 = .ok (.iload_n 1, 1) := by decide +kernel
theorem dJ9_floorMod_7cf53_16 : decode cJ9_floorMod_7cf53 16 = .ok (.iadd, 1) := by decide +kernel
theorem dJ9_floorMod_7cf53_17 : decode cJ9_floorMod_7cf53 17 = .ok (.ireturn, 1) := by decide +kernel
theorem dJ9_floorMod_7cf53_18 : decode cJ9_floorMod_7cf53 18 = .ok (.iload_n 2, 1) := by decide +kernel
theorem dJ9_floorMod_7cf53_19 : decode cJ9_floorMod_7cf53 19 = .ok (.ireturn, 1) := by decide +kernel
def f_J9_floorMod_7cf53 (S : SH) (a0 : Int32) (a1 : Int32) (μ : Mem) : Option (Int32 × Mem) :=
  (o_irem a0 a1).bind fun v1 =>
  (if 0 ≤ (a0 ^^^ a1) then
  some (v1, μ)
  else
  (if v1 = 0 then
  some (v1, μ)
  else
  some (v1 + a1, μ)))
set_option maxRecDepth 100000 in
set_option maxHeartbeats 4000000 in
theorem c_J9_floorMod_7cf53 {l : Launch} {γ : GE} {S : SH} {a0 : Int32} {a1 : Int32} {μ : Mem} {X : (Int32 × Mem)} (h : f_J9_floorMod_7cf53 S a0 a1 μ = some X) : Ct l γ yJ9_floorMod_7cf53 cJ9_floorMod_7cf53 3 (some .int) rm_J9_floorMod_7cf53 [.int a0, .int a1] S μ S X.2 (some (.int X.1)) := by
  unfold f_J9_floorMod_7cf53 at h
  have hJ : ∀ (p : Program) (e : Env) (s : State) (m : MethodId) (args : Array Value) (below : List Frame) (meth : Method) (c : Code), FX γ p s m args meth c cJ9_floorMod_7cf53 RJ9 3 → meth.sig.returnType = (some .int) → JJ γ p l e rm_J9_floorMod_7cf53 s m args below meth c 3 0 0 (QI below γ S X args s 0 0) S μ 0 [(0, .int a0), (1, .int a1)] [] := by
    intro p e s m args below meth c F hr
    refine j_iload_n F 0 dJ9_floorMod_7cf53_0 rfl ?_
    refine j_iload_n F 1 dJ9_floorMod_7cf53_1 rfl ?_
    refine j_irem F dJ9_floorMod_7cf53_2 h (fun v1 h => ?_)
    refine j_istore_n F [(2, .int v1), (0, .int a0), (1, .int a1)] dJ9_floorMod_7cf53_3 rfl (by decide) rfl ?_
    refine j_iload_n F 1 dJ9_floorMod_7cf53_4 rfl ?_
    refine j_iload_n F 2 dJ9_floorMod_7cf53_5 rfl ?_
    refine j_ixor F dJ9_floorMod_7cf53_6 ?_
    refine j_ifge F 18 dJ9_floorMod_7cf53_7 (by decide) h (fun _ h => ?_) (fun _ h => ?_)
    · refine j_iload_n F 0 dJ9_floorMod_7cf53_18 rfl ?_
      exact j_iret F hr dJ9_floorMod_7cf53_19 h
    · refine j_iload_n F 0 dJ9_floorMod_7cf53_10 rfl ?_
      refine j_ifeq F 18 dJ9_floorMod_7cf53_11 (by decide) h (fun _ h => ?_) (fun _ h => ?_)
      · refine j_iload_n F 0 dJ9_floorMod_7cf53_18 rfl ?_
        exact j_iret F hr dJ9_floorMod_7cf53_19 h
      · refine j_iload_n F 0 dJ9_floorMod_7cf53_14 rfl ?_
        refine j_iload_n F 2 dJ9_floorMod_7cf53_15 rfl ?_
        refine j_iadd F dJ9_floorMod_7cf53_16 ?_
        exact j_iret F hr dJ9_floorMod_7cf53_17 h
  exact ct_ofF (by decide +kernel) (Nat.le_of_ble_eq_true rfl) (fun p e s m args below meth c F hr _ => hJ p e s m args below meth c F hr)
def rm_X2_approach : Room := { frames := 1, cells := 0, slots := 0, locals := 22 }
theorem dX2_approach_0 : decode cX2_approach 0 = .ok (.aload_n 0, 1) := by decide +kernel
theorem dX2_approach_1 : decode cX2_approach 1 = .ok (.getfield 41, 3) := by decide +kernel
theorem dX2_approach_4 : decode cX2_approach 4 = .ok (.iload_n 1, 1) := by decide +kernel
theorem dX2_approach_5 : decode cX2_approach 5 = .ok (.iaload, 1) := by decide +kernel
theorem dX2_approach_6 : decode cX2_approach 6 = .ok (.istore_n 3, 1) := by decide +kernel
theorem dX2_approach_7 : decode cX2_approach 7 = .ok (.iload_n 1, 1) := by decide +kernel
theorem dX2_approach_8 : decode cX2_approach 8 = .ok (.ifCond .ne 51, 3) := by decide +kernel
theorem dX2_approach_11 : decode cX2_approach 11 = .ok (.iload_n 2, 1) := by decide +kernel
theorem dX2_approach_12 : decode cX2_approach 12 = .ok (.iload_n 3, 1) := by decide +kernel
theorem dX2_approach_13 : decode cX2_approach 13 = .ok (.isub, 1) := by decide +kernel
theorem dX2_approach_14 : decode cX2_approach 14 = .ok (.bipush 20, 2) := by decide +kernel
theorem dX2_approach_16 : decode cX2_approach 16 = .ok (.invokestatic 83, 3) := by decide +kernel
theorem dX2_approach_19 : decode cX2_approach 19 = .ok (.bipush 10, 2) := by decide +kernel
theorem dX2_approach_21 : decode cX2_approach 21 = .ok (.if_icmp .gt 7, 3) := by decide +kernel
theorem dX2_approach_24 : decode cX2_approach 24 = .ok (.iconst 1, 1) := by decide +kernel
theorem dX2_approach_25 : decode cX2_approach 25 = .ok (.goto 4, 3) := by decide +kernel
theorem dX2_approach_28 : decode cX2_approach 28 = .ok (.iconst 0, 1) := by decide +kernel
theorem dX2_approach_29 : decode cX2_approach 29 = .ok (.istore 4, 2) := by decide +kernel
theorem dX2_approach_31 : decode cX2_approach 31 = .ok (.aload_n 0, 1) := by decide +kernel
theorem dX2_approach_32 : decode cX2_approach 32 = .ok (.getfield 41, 3) := by decide +kernel
theorem dX2_approach_35 : decode cX2_approach 35 = .ok (.iload_n 1, 1) := by decide +kernel
theorem dX2_approach_36 : decode cX2_approach 36 = .ok (.iload 4, 2) := by decide +kernel
theorem dX2_approach_38 : decode cX2_approach 38 = .ok (.ifCond .eq 9, 3) := by decide +kernel
theorem dX2_approach_41 : decode cX2_approach 41 = .ok (.iload_n 3, 1) := by decide +kernel
theorem dX2_approach_42 : decode cX2_approach 42 = .ok (.iconst 1, 1) := by decide +kernel
theorem dX2_approach_43 : decode cX2_approach 43 = .ok (.iadd, 1) := by decide +kernel
theorem dX2_approach_44 : decode cX2_approach 44 = .ok (.goto 6, 3) := by decide +kernel
theorem dX2_approach_47 : decode cX2_approach 47 = .ok (.iload_n 3, 1) := by decide +kernel
theorem dX2_approach_48 : decode cX2_approach 48 = .ok (.iconst 1, 1) := by decide +kernel
theorem dX2_approach_49 : decode cX2_approach 49 = .ok (.isub, 1) := by decide +kernel
theorem dX2_approach_50 : decode cX2_approach 50 = .ok (.bipush 20, 2) := by decide +kernel
theorem dX2_approach_52 : decode cX2_approach 52 = .ok (.invokestatic 83, 3) := by decide +kernel
theorem dX2_approach_55 : decode cX2_approach 55 = .ok (.iastore, 1) := by decide +kernel
theorem dX2_approach_56 : decode cX2_approach 56 = .ok (.goto 23, 3) := by decide +kernel
theorem dX2_approach_59 : decode cX2_approach 59 = .ok (.aload_n 0, 1) := by decide +kernel
theorem dX2_approach_60 : decode cX2_approach 60 = .ok (.getfield 41, 3) := by decide +kernel
theorem dX2_approach_63 : decode cX2_approach 63 = .ok (.iload_n 1, 1) := by decide +kernel
theorem dX2_approach_64 : decode cX2_approach 64 = .ok (.iload_n 2, 1) := by decide +kernel
theorem dX2_approach_65 : decode cX2_approach 65 = .ok (.iload_n 3, 1) := by decide +kernel
theorem dX2_approach_66 : decode cX2_approach 66 = .ok (.if_icmp .le 9, 3) := by decide +kernel
theorem dX2_approach_69 : decode cX2_approach 69 = .ok (.iload_n 3, 1) := by decide +kernel
theorem dX2_approach_70 : decode cX2_approach 70 = .ok (.iconst 1, 1) := by decide +kernel
theorem dX2_approach_71 : decode cX2_approach 71 = .ok (.iadd, 1) := by decide +kernel
theorem dX2_approach_72 : decode cX2_approach 72 = .ok (.goto 6, 3) := by decide +kernel
theorem dX2_approach_75 : decode cX2_approach 75 = .ok (.iload_n 3, 1) := by decide +kernel
theorem dX2_approach_76 : decode cX2_approach 76 = .ok (.iconst 1, 1) := by decide +kernel
theorem dX2_approach_77 : decode cX2_approach 77 = .ok (.isub, 1) := by decide +kernel
theorem dX2_approach_78 : decode cX2_approach 78 = .ok (.iastore, 1) := by decide +kernel
theorem dX2_approach_79 : decode cX2_approach 79 = .ok (.return_, 1) := by decide +kernel
def b_X2_approach_29 (S : SH) (a0 : Nat) (a1 : Int32) (a3 : Int32) (t0 : Int32) (μ : Mem) : Option (Unit × Mem) :=
 (gR S 2 a0 3).bind fun v7 =>
 (if t0 = 0 then
 (f_J9_floorMod_7cf53 S (a3 - 1) 20 μ).bind fun q8 =>
 (sI S v7 a1 q8.1 q8.2).bind fun ν9 =>
 some ((), ν9)
 else
 (f_J9_floorMod_7cf53 S (a3 + 1) 20 μ).bind fun q10 =>
 (sI S v7 a1 q10.1 q10.2).bind fun ν11 =>
 some ((), ν11))
set_option maxRecDepth 100000 in
set_option maxHeartbeats 4000000 in
theorem s_X2_approach_29 {γ : GE} {p : Program} {l : Launch} {e : Env} {s : State} {m : MethodId} {args : Array Value} {below : List Frame} {meth : Method} {c : Code} {S : SH} {X : (Unit × Mem)} (F : FX γ p s m args meth c cX2_approach RX2 5) (hr : meth.sig.returnType = (none))  (a0 : Nat) (a1 : Int32) (a3 : Int32) (t0 : Int32) (μ : Mem) (h : b_X2_approach_29 S a0 a1 a3 t0 μ = some X) : JJ γ p l e rm_X2_approach s m args below meth c 5 0 0 (QV below γ S X args s 0 0) S μ 29 [(0, .ref (gb γ + a0)), (1, .int a1), (3, .int a3)] [.int t0] := by
  unfold b_X2_approach_29 at h
  refine j_istore F [(4, .int t0), (0, .ref (gb γ + a0)), (1, .int a1), (3, .int a3)] dX2_approach_29 (by decide) rfl ?_
  refine j_aload_n F 1 dX2_approach_31 rfl ?_
  refine j_gR F fl_RX2_41 rfl dX2_approach_32 h (fun v7 h => ?_)
  refine j_iload_n F 2 dX2_approach_35 rfl ?_
  refine j_iload F 0 dX2_approach_36 rfl ?_
  refine j_ifeq F 47 dX2_approach_38 (by decide) h (fun _ h => ?_) (fun _ h => ?_)
  · refine j_iload_n F 3 dX2_approach_47 rfl ?_
    refine j_iconst F 1 dX2_approach_48 (by decide) ?_
    refine j_isub F dX2_approach_49 ?_
    refine j_bipush F 20 dX2_approach_50 (by decide) ?_
    refine j_cSI F mi_J9_floorMod_7cf53 w_855 (rest := [.int a1, .ref (gb γ + v7)]) h (fun _ g => c_J9_floorMod_7cf53 g) rfl rfl (Nat.le_of_ble_eq_true rfl) ⟨Nat.le_of_ble_eq_true rfl, Nat.le_of_ble_eq_true rfl⟩ ⟨Nat.le_of_ble_eq_true rfl, Nat.le_of_ble_eq_true rfl⟩ dX2_approach_52 (fun q8 h => ?_)
    refine j_iast F dX2_approach_55 h (fun ν9 h => ?_)
    refine j_goto F 79 dX2_approach_56 (by decide) ?_
    exact j_vret F hr dX2_approach_79 h
  · refine j_iload_n F 3 dX2_approach_41 rfl ?_
    refine j_iconst F 1 dX2_approach_42 (by decide) ?_
    refine j_iadd F dX2_approach_43 ?_
    refine j_goto F 50 dX2_approach_44 (by decide) ?_
    refine j_bipush F 20 dX2_approach_50 (by decide) ?_
    refine j_cSI F mi_J9_floorMod_7cf53 w_855 (rest := [.int a1, .ref (gb γ + v7)]) h (fun _ g => c_J9_floorMod_7cf53 g) rfl rfl (Nat.le_of_ble_eq_true rfl) ⟨Nat.le_of_ble_eq_true rfl, Nat.le_of_ble_eq_true rfl⟩ ⟨Nat.le_of_ble_eq_true rfl, Nat.le_of_ble_eq_true rfl⟩ dX2_approach_52 (fun q10 h => ?_)
    refine j_iast F dX2_approach_55 h (fun ν11 h => ?_)
    refine j_goto F 79 dX2_approach_56 (by decide) ?_
    exact j_vret F hr dX2_approach_79 h
def f_X2_approach (S : SH) (a0 : Nat) (a1 : Int32) (a2 : Int32) (μ : Mem) : Option (Unit × Mem) :=
  if isO S 2 a0 = true then
  (gR S 2 a0 3).bind fun v1 =>
  (aI S .int v1 a1 μ).bind fun v2 =>
  (if a1 = 0 then
  (f_J9_floorMod_7cf53 S (a2 - v2) 20 μ).bind fun q6 =>
  (if 10 < q6.1 then
  b_X2_approach_29 S a0 a1 v2 0 q6.2
  else
  b_X2_approach_29 S a0 a1 v2 1 q6.2)
  else
  (gR S 2 a0 3).bind fun v3 =>
  (if a2 ≤ v2 then
  (sI S v3 a1 (v2 - 1) μ).bind fun ν4 =>
  some ((), ν4)
  else
  (sI S v3 a1 (v2 + 1) μ).bind fun ν5 =>
  some ((), ν5)))
  else none
set_option maxRecDepth 100000 in
set_option maxHeartbeats 4000000 in
theorem c_X2_approach {l : Launch} {γ : GE} {S : SH} {a0 : Nat} {a1 : Int32} {a2 : Int32} {μ : Mem} {X : (Unit × Mem)} (h : f_X2_approach S a0 a1 a2 μ = some X) : isO S 2 a0 = true ∧ Ct l γ yX2_approach cX2_approach 5 (none) rm_X2_approach [.ref (gb γ + a0), .int a1, .int a2] S μ S X.2 none := by
  unfold f_X2_approach at h
  obtain ⟨h0, h⟩ := if_some h
  refine ⟨h0, ?_⟩
  have hJ : ∀ (p : Program) (e : Env) (s : State) (m : MethodId) (args : Array Value) (below : List Frame) (meth : Method) (c : Code), FX γ p s m args meth c cX2_approach RX2 5 → meth.sig.returnType = (none) → JJ γ p l e rm_X2_approach s m args below meth c 5 0 0 (QV below γ S X args s 0 0) S μ 0 [(0, .ref (gb γ + a0)), (1, .int a1), (2, .int a2)] [] := by
    intro p e s m args below meth c F hr
    refine j_aload_n F 0 dX2_approach_0 rfl ?_
    refine j_gR F fl_RX2_41 rfl dX2_approach_1 h (fun v1 h => ?_)
    refine j_iload_n F 1 dX2_approach_4 rfl ?_
    refine j_iald F dX2_approach_5 h (fun v2 h => ?_)
    refine j_istore_n F [(3, .int v2), (0, .ref (gb γ + a0)), (1, .int a1), (2, .int a2)] dX2_approach_6 rfl (by decide) rfl ?_
    refine j_iload_n F 2 dX2_approach_7 rfl ?_
    refine j_ifne F 59 dX2_approach_8 (by decide) h (fun _ h => ?_) (fun _ h => ?_)
    · refine j_aload_n F 1 dX2_approach_59 rfl ?_
      refine j_gR F fl_RX2_41 rfl dX2_approach_60 h (fun v3 h => ?_)
      refine j_iload_n F 2 dX2_approach_63 rfl ?_
      refine j_iload_n F 3 dX2_approach_64 rfl ?_
      refine j_iload_n F 0 dX2_approach_65 rfl ?_
      refine j_icmple F 75 dX2_approach_66 (by decide) h (fun _ h => ?_) (fun _ h => ?_)
      · refine j_iload_n F 0 dX2_approach_75 rfl ?_
        refine j_iconst F 1 dX2_approach_76 (by decide) ?_
        refine j_isub F dX2_approach_77 ?_
        refine j_iast F dX2_approach_78 h (fun ν4 h => ?_)
        exact j_vret F hr dX2_approach_79 h
      · refine j_iload_n F 0 dX2_approach_69 rfl ?_
        refine j_iconst F 1 dX2_approach_70 (by decide) ?_
        refine j_iadd F dX2_approach_71 ?_
        refine j_goto F 78 dX2_approach_72 (by decide) ?_
        refine j_iast F dX2_approach_78 h (fun ν5 h => ?_)
        exact j_vret F hr dX2_approach_79 h
    · refine j_iload_n F 3 dX2_approach_11 rfl ?_
      refine j_iload_n F 0 dX2_approach_12 rfl ?_
      refine j_isub F dX2_approach_13 ?_
      refine j_bipush F 20 dX2_approach_14 (by decide) ?_
      refine j_cSI F mi_J9_floorMod_7cf53 w_855 (rest := []) h (fun _ g => c_J9_floorMod_7cf53 g) rfl rfl (Nat.le_of_ble_eq_true rfl) ⟨Nat.le_of_ble_eq_true rfl, Nat.le_of_ble_eq_true rfl⟩ ⟨Nat.le_of_ble_eq_true rfl, Nat.le_of_ble_eq_true rfl⟩ dX2_approach_16 (fun q6 h => ?_)
      refine j_bipush F 10 dX2_approach_19 (by decide) ?_
      refine j_icmpgt F 28 dX2_approach_21 (by decide) h (fun _ h => ?_) (fun _ h => ?_)
      · refine j_iconst F 0 dX2_approach_28 (by decide) ?_
        refine j_lv [(0, .ref (gb γ + a0)), (1, .int a1), (3, .int v2)] [1, 2, 0] rfl ?_
        exact s_X2_approach_29 F hr _ _ _ _ _ h
      · refine j_iconst F 1 dX2_approach_24 (by decide) ?_
        refine j_goto F 29 dX2_approach_25 (by decide) ?_
        refine j_lv [(0, .ref (gb γ + a0)), (1, .int a1), (3, .int v2)] [1, 2, 0] rfl ?_
        exact s_X2_approach_29 F hr _ _ _ _ _ h
  exact ct_of (by decide +kernel) (Nat.le_of_ble_eq_true rfl) (fun p e s m args below meth c F hr _ => hJ p e s m args below meth c F hr)
def rm_X3_gather : Room := { frames := 2, cells := 0, slots := 0, locals := 40 }
theorem dX3_gather_0 : decode cX3_gather 0 = .ok (.aload_n 1, 1) := by decide +kernel
theorem dX3_gather_1 : decode cX3_gather 1 = .ok (.getfield 69, 3) := by decide +kernel
theorem dX3_gather_4 : decode cX3_gather 4 = .ok (.astore_n 2, 1) := by decide +kernel
theorem dX3_gather_5 : decode cX3_gather 5 = .ok (.getstatic 73, 3) := by decide +kernel
theorem dX3_gather_8 : decode cX3_gather 8 = .ok (.aload_n 1, 1) := by decide +kernel
theorem dX3_gather_9 : decode cX3_gather 9 = .ok (.getfield 65, 3) := by decide +kernel
theorem dX3_gather_12 : decode cX3_gather 12 = .ok (.iconst 0, 1) := by decide +kernel
theorem dX3_gather_13 : decode cX3_gather 13 = .ok (.iaload, 1) := by decide +kernel
theorem dX3_gather_14 : decode cX3_gather 14 = .ok (.iaload, 1) := by decide +kernel
theorem dX3_gather_15 : decode cX3_gather 15 = .ok (.i2l, 1) := by decide +kernel
theorem dX3_gather_16 : decode cX3_gather 16 = .ok (.lstore_n 3, 1) := by decide +kernel
theorem dX3_gather_17 : decode cX3_gather 17 = .ok (.getstatic 76, 3) := by decide +kernel
theorem dX3_gather_20 : decode cX3_gather 20 = .ok (.aload_n 1, 1) := by decide +kernel
theorem dX3_gather_21 : decode cX3_gather 21 = .ok (.getfield 65, 3) := by decide +kernel
theorem dX3_gather_24 : decode cX3_gather 24 = .ok (.iconst 0, 1) := by decide +kernel
theorem dX3_gather_25 : decode cX3_gather 25 = .ok (.iaload, 1) := by decide +kernel
theorem dX3_gather_26 : decode cX3_gather 26 = .ok (.iaload, 1) := by decide +kernel
theorem dX3_gather_27 : decode cX3_gather 27 = .ok (.i2l, 1) := by decide +kernel
theorem dX3_gather_28 : decode cX3_gather 28 = .ok (.lstore 5, 2) := by decide +kernel
theorem dX3_gather_30 : decode cX3_gather 30 = .ok (.aload_n 2, 1) := by decide +kernel
theorem dX3_gather_31 : decode cX3_gather 31 = .ok (.getfield 79, 3) := by decide +kernel
theorem dX3_gather_34 : decode cX3_gather 34 = .ok (.i2l, 1) := by decide +kernel
theorem dX3_gather_35 : decode cX3_gather 35 = .ok (.aload_n 1, 1) := by decide +kernel
theorem dX3_gather_36 : decode cX3_gather 36 = .ok (.invokevirtual 84, 3) := by decide +kernel
theorem dX3_gather_39 : decode cX3_gather 39 = .ok (.i2l, 1) := by decide +kernel
theorem dX3_gather_40 : decode cX3_gather 40 = .ok (.aload_n 1, 1) := by decide +kernel
theorem dX3_gather_41 : decode cX3_gather 41 = .ok (.getfield 65, 3) := by decide +kernel
theorem dX3_gather_44 : decode cX3_gather 44 = .ok (.iconst 1, 1) := by decide +kernel
theorem dX3_gather_45 : decode cX3_gather 45 = .ok (.iaload, 1) := by decide +kernel
theorem dX3_gather_46 : decode cX3_gather 46 = .ok (.i2l, 1) := by decide +kernel
theorem dX3_gather_47 : decode cX3_gather 47 = .ok (.lmul, 1) := by decide +kernel
theorem dX3_gather_48 : decode cX3_gather 48 = .ok (.ladd, 1) := by decide +kernel
theorem dX3_gather_49 : decode cX3_gather 49 = .ok (.lstore 7, 2) := by decide +kernel
theorem dX3_gather_51 : decode cX3_gather 51 = .ok (.aload_n 2, 1) := by decide +kernel
theorem dX3_gather_52 : decode cX3_gather 52 = .ok (.getfield 87, 3) := by decide +kernel
theorem dX3_gather_55 : decode cX3_gather 55 = .ok (.i2l, 1) := by decide +kernel
theorem dX3_gather_56 : decode cX3_gather 56 = .ok (.lstore 9, 2) := by decide +kernel
theorem dX3_gather_58 : decode cX3_gather 58 = .ok (.aload_n 0, 1) := by decide +kernel
theorem dX3_gather_59 : decode cX3_gather 59 = .ok (.ldc2_w 90, 3) := by decide +kernel
theorem dX3_gather_62 : decode cX3_gather 62 = .ok (.aload_n 1, 1) := by decide +kernel
theorem dX3_gather_63 : decode cX3_gather 63 = .ok (.invokevirtual 92, 3) := by decide +kernel
theorem dX3_gather_66 : decode cX3_gather 66 = .ok (.i2l, 1) := by decide +kernel
theorem dX3_gather_67 : decode cX3_gather 67 = .ok (.lmul, 1) := by decide +kernel
theorem dX3_gather_68 : decode cX3_gather 68 = .ok (.putfield 31, 3) := by decide +kernel
theorem dX3_gather_71 : decode cX3_gather 71 = .ok (.aload_n 0, 1) := by decide +kernel
theorem dX3_gather_72 : decode cX3_gather 72 = .ok (.ldc2_w 90, 3) := by decide +kernel
theorem dX3_gather_75 : decode cX3_gather 75 = .ok (.aload_n 2, 1) := by decide +kernel
theorem dX3_gather_76 : decode cX3_gather 76 = .ok (.getfield 95, 3) := by decide +kernel
theorem dX3_gather_79 : decode cX3_gather 79 = .ok (.i2l, 1) := by decide +kernel
theorem dX3_gather_80 : decode cX3_gather 80 = .ok (.lmul, 1) := by decide +kernel
theorem dX3_gather_81 : decode cX3_gather 81 = .ok (.lload_n 3, 1) := by decide +kernel
theorem dX3_gather_82 : decode cX3_gather 82 = .ok (.lload 7, 2) := by decide +kernel
theorem dX3_gather_84 : decode cX3_gather 84 = .ok (.lmul, 1) := by decide +kernel
theorem dX3_gather_85 : decode cX3_gather 85 = .ok (.ladd, 1) := by decide +kernel
theorem dX3_gather_86 : decode cX3_gather 86 = .ok (.lload 5, 2) := by decide +kernel
theorem dX3_gather_88 : decode cX3_gather 88 = .ok (.lload 9, 2) := by decide +kernel
theorem dX3_gather_90 : decode cX3_gather 90 = .ok (.lmul, 1) := by decide +kernel
theorem dX3_gather_91 : decode cX3_gather 91 = .ok (.lsub, 1) := by decide +kernel
theorem dX3_gather_92 : decode cX3_gather 92 = .ok (.putfield 98, 3) := by decide +kernel
theorem dX3_gather_95 : decode cX3_gather 95 = .ok (.aload_n 0, 1) := by decide +kernel
theorem dX3_gather_96 : decode cX3_gather 96 = .ok (.ldc2_w 90, 3) := by decide +kernel
theorem dX3_gather_99 : decode cX3_gather 99 = .ok (.aload_n 2, 1) := by decide +kernel
theorem dX3_gather_100 : decode cX3_gather 100 = .ok (.getfield 101, 3) := by decide +kernel
theorem dX3_gather_103 : decode cX3_gather 103 = .ok (.i2l, 1) := by decide +kernel
theorem dX3_gather_104 : decode cX3_gather 104 = .ok (.lmul, 1) := by decide +kernel
theorem dX3_gather_105 : decode cX3_gather 105 = .ok (.lload 5, 2) := by decide +kernel
theorem dX3_gather_107 : decode cX3_gather 107 = .ok (.lload 7, 2) := by decide +kernel
theorem dX3_gather_109 : decode cX3_gather 109 = .ok (.lmul, 1) := by decide +kernel
theorem dX3_gather_110 : decode cX3_gather 110 = .ok (.ladd, 1) := by decide +kernel
theorem dX3_gather_111 : decode cX3_gather 111 = .ok (.lload_n 3, 1) := by decide +kernel
theorem dX3_gather_112 : decode cX3_gather 112 = .ok (.lload 9, 2) := by decide +kernel
theorem dX3_gather_114 : decode cX3_gather 114 = .ok (.lmul, 1) := by decide +kernel
theorem dX3_gather_115 : decode cX3_gather 115 = .ok (.ladd, 1) := by decide +kernel
theorem dX3_gather_116 : decode cX3_gather 116 = .ok (.putfield 104, 3) := by decide +kernel
theorem dX3_gather_119 : decode cX3_gather 119 = .ok (.return_, 1) := by decide +kernel
def f_X3_gather (S : SH) (a0 : Nat) (a1 : Nat) (μ : Mem) : Option (Unit × Mem) :=
  if isO S 3 a0 = true then
  (gR S 2 a1 1).bind fun v1 =>
  (gR S 2 a1 3).bind fun v2 =>
  (aI S .int v2 0 μ).bind fun v3 =>
  (aT 3 v3).bind fun v4 =>
  (gR S 2 a1 3).bind fun v5 =>
  (aI S .int v5 0 μ).bind fun v6 =>
  (aT 4 v6).bind fun v7 =>
  (gI S 5 v1 8 μ).bind fun v8 =>
  (f_X2_hanging S a1 μ).bind fun q9 =>
  (gR S 2 a1 3).bind fun v10 =>
  (aI S .int v10 1 q9.2).bind fun v11 =>
  (some (v8.toInt64 + (q9.1.toInt64 * v11.toInt64))).bind fun y12 =>
  (gI S 5 v1 9 q9.2).bind fun v13 =>
  (f_X2_wholeMass S a1 q9.2).bind fun q14 =>
  (pL S 3 a0 0 (65 * q14.1.toInt64) q14.2).bind fun ν15 =>
  (gI S 5 v1 6 ν15).bind fun v16 =>
  (pL S 3 a0 1 (((65 * v16.toInt64) + (v4.toInt64 * y12)) - (v7.toInt64 * v13.toInt64)) ν15).bind fun ν17 =>
  (gI S 5 v1 7 ν17).bind fun v18 =>
  (pL S 3 a0 2 (((65 * v18.toInt64) + (v7.toInt64 * y12)) + (v4.toInt64 * v13.toInt64)) ν17).bind fun ν19 =>
  some ((), ν19)
  else none
set_option maxRecDepth 100000 in
set_option maxHeartbeats 4000000 in
theorem c_X3_gather {l : Launch} {γ : GE} {S : SH} {a0 : Nat} {a1 : Nat} {μ : Mem} {X : (Unit × Mem)} (h : f_X3_gather S a0 a1 μ = some X) : isO S 3 a0 = true ∧ Ct l γ yX3_gather cX3_gather 11 (none) rm_X3_gather [.ref (gb γ + a0), .ref (gb γ + a1)] S μ S X.2 none := by
  unfold f_X3_gather at h
  obtain ⟨h0, h⟩ := if_some h
  refine ⟨h0, ?_⟩
  have hJ : ∀ (p : Program) (e : Env) (s : State) (m : MethodId) (args : Array Value) (below : List Frame) (meth : Method) (c : Code), FX γ p s m args meth c cX3_gather RX3 11 → meth.sig.returnType = (none) → JJ γ p l e rm_X3_gather s m args below meth c 11 0 0 (QV below γ S X args s 0 0) S μ 0 [(0, .ref (gb γ + a0)), (1, .ref (gb γ + a1))] [] := by
    intro p e s m args below meth c F hr
    refine j_aload_n F 1 dX3_gather_0 rfl ?_
    refine j_gR F fl_RX3_69 rfl dX3_gather_1 h (fun v1 h => ?_)
    refine j_astore_n F [(2, .ref (gb γ + v1)), (0, .ref (gb γ + a0)), (1, .ref (gb γ + a1))] dX3_gather_4 rfl (by decide) rfl ?_
    refine j_getsN F 3 (by decide) (by decide +kernel) dX3_gather_5 ?_
    refine j_aload_n F 2 dX3_gather_8 rfl ?_
    refine j_gR F fl_RX3_65 rfl dX3_gather_9 h (fun v2 h => ?_)
    refine j_iconst F 0 dX3_gather_12 (by decide) ?_
    refine j_iald F dX3_gather_13 h (fun v3 h => ?_)
    refine j_tald F (by decide) dX3_gather_14 h (fun v4 h => ?_)
    refine j_i2l F dX3_gather_15 ?_
    refine j_lstore_n F [(3, .long v4.toInt64), (2, .ref (gb γ + v1)), (0, .ref (gb γ + a0)), (1, .ref (gb γ + a1))] dX3_gather_16 rfl (by decide) rfl ?_
    refine j_getsN F 4 (by decide) (by decide +kernel) dX3_gather_17 ?_
    refine j_aload_n F 3 dX3_gather_20 rfl ?_
    refine j_gR F fl_RX3_65 rfl dX3_gather_21 h (fun v5 h => ?_)
    refine j_iconst F 0 dX3_gather_24 (by decide) ?_
    refine j_iald F dX3_gather_25 h (fun v6 h => ?_)
    refine j_tald F (by decide) dX3_gather_26 h (fun v7 h => ?_)
    refine j_i2l F dX3_gather_27 ?_
    refine j_lstore F [(5, .long v7.toInt64), (3, .long v4.toInt64), (2, .ref (gb γ + v1)), (0, .ref (gb γ + a0)), (1, .ref (gb γ + a1))] dX3_gather_28 (by decide) rfl ?_
    refine j_aload_n F 2 dX3_gather_30 rfl ?_
    refine j_gI F fl_RX3_79.l rfl dX3_gather_31 h (fun v8 h => ?_)
    refine j_i2l F dX3_gather_34 ?_
    refine j_aload_n F 4 dX3_gather_35 rfl ?_
    refine j_cVI F mi_X2_hanging w_578 (rest := [.long v8.toInt64]) h (fun _ g => c_X2_hanging g) rfl rfl (Nat.le_of_ble_eq_true rfl) ⟨Nat.le_of_ble_eq_true rfl, Nat.le_of_ble_eq_true rfl⟩ ⟨Nat.le_of_ble_eq_true rfl, Nat.le_of_ble_eq_true rfl⟩ dX3_gather_36 (fun q9 h => ?_)
    refine j_i2l F dX3_gather_39 ?_
    refine j_aload_n F 4 dX3_gather_40 rfl ?_
    refine j_gR F fl_RX3_65 rfl dX3_gather_41 h (fun v10 h => ?_)
    refine j_iconst F 1 dX3_gather_44 (by decide) ?_
    refine j_iald F dX3_gather_45 h (fun v11 h => ?_)
    refine j_i2l F dX3_gather_46 ?_
    refine j_lmul F dX3_gather_47 ?_
    refine j_ladd F dX3_gather_48 ?_
    refine j_nmL h (fun y12 h => ?_)
    refine j_lstore F [(7, .long y12), (5, .long v7.toInt64), (3, .long v4.toInt64), (2, .ref (gb γ + v1)), (0, .ref (gb γ + a0)), (1, .ref (gb γ + a1))] dX3_gather_49 (by decide) rfl ?_
    refine j_aload_n F 3 dX3_gather_51 rfl ?_
    refine j_gI F fl_RX3_87.l rfl dX3_gather_52 h (fun v13 h => ?_)
    refine j_i2l F dX3_gather_55 ?_
    refine j_lstore F [(9, .long v13.toInt64), (7, .long y12), (5, .long v7.toInt64), (3, .long v4.toInt64), (2, .ref (gb γ + v1)), (0, .ref (gb γ + a0)), (1, .ref (gb γ + a1))] dX3_gather_56 (by decide) rfl ?_
    refine j_aload_n F 5 dX3_gather_58 rfl ?_
    refine j_ldc2 F 65 dX3_gather_59 w_579 ?_
    refine j_aload_n F 6 dX3_gather_62 rfl ?_
    refine j_cVI F mi_X2_wholeMass w_580 (rest := [.long 65, .ref (gb γ + a0)]) h (fun _ g => c_X2_wholeMass g) rfl rfl (Nat.le_of_ble_eq_true rfl) ⟨Nat.le_of_ble_eq_true rfl, Nat.le_of_ble_eq_true rfl⟩ ⟨Nat.le_of_ble_eq_true rfl, Nat.le_of_ble_eq_true rfl⟩ dX3_gather_63 (fun q14 h => ?_)
    refine j_i2l F dX3_gather_66 ?_
    refine j_lmul F dX3_gather_67 ?_
    refine j_pL F fl_RX3_31 rfl dX3_gather_68 h (fun ν15 h => ?_)
    refine j_aload_n F 5 dX3_gather_71 rfl ?_
    refine j_ldc2 F 65 dX3_gather_72 w_579 ?_
    refine j_aload_n F 4 dX3_gather_75 rfl ?_
    refine j_gI F fl_RX3_95.l rfl dX3_gather_76 h (fun v16 h => ?_)
    refine j_i2l F dX3_gather_79 ?_
    refine j_lmul F dX3_gather_80 ?_
    refine j_lload_n F 3 dX3_gather_81 rfl ?_
    refine j_lload F 1 dX3_gather_82 rfl ?_
    refine j_lmul F dX3_gather_84 ?_
    refine j_ladd F dX3_gather_85 ?_
    refine j_lload F 2 dX3_gather_86 rfl ?_
    refine j_lload F 0 dX3_gather_88 rfl ?_
    refine j_lmul F dX3_gather_90 ?_
    refine j_lsub F dX3_gather_91 ?_
    refine j_pL F fl_RX3_98 rfl dX3_gather_92 h (fun ν17 h => ?_)
    refine j_aload_n F 5 dX3_gather_95 rfl ?_
    refine j_ldc2 F 65 dX3_gather_96 w_579 ?_
    refine j_aload_n F 4 dX3_gather_99 rfl ?_
    refine j_gI F fl_RX3_101.l rfl dX3_gather_100 h (fun v18 h => ?_)
    refine j_i2l F dX3_gather_103 ?_
    refine j_lmul F dX3_gather_104 ?_
    refine j_lload F 2 dX3_gather_105 rfl ?_
    refine j_lload F 1 dX3_gather_107 rfl ?_
    refine j_lmul F dX3_gather_109 ?_
    refine j_ladd F dX3_gather_110 ?_
    refine j_lload_n F 3 dX3_gather_111 rfl ?_
    refine j_lload F 0 dX3_gather_112 rfl ?_
    refine j_lmul F dX3_gather_114 ?_
    refine j_ladd F dX3_gather_115 ?_
    refine j_pL F fl_RX3_104 rfl dX3_gather_116 h (fun ν19 h => ?_)
    exact j_vret F hr dX3_gather_119 h
  exact ct_of (by decide +kernel) (Nat.le_of_ble_eq_true rfl) (fun p e s m args below meth c F hr _ => hJ p e s m args below meth c F hr)
def rm_X11_next : Room := { frames := 0, cells := 0, slots := 0, locals := 0 }
theorem dX11_next_0 : decode cX11_next 0 = .ok (.iload_n 0, 1) := by decide +kernel
theorem dX11_next_1 : decode cX11_next 1 = .ok (.iconst 1, 1) := by decide +kernel
theorem dX11_next_2 : decode cX11_next 2 = .ok (.iadd, 1) := by decide +kernel
theorem dX11_next_3 : decode cX11_next 3 = .ok (.iconst 4, 1) := by decide +kernel
theorem dX11_next_4 : decode cX11_next 4 = .ok (.irem, 1) := by decide +kernel
theorem dX11_next_5 : decode cX11_next 5 = .ok (.ireturn, 1) := by decide +kernel
def f_X11_next (S : SH) (a0 : Int32) (μ : Mem) : Option (Int32 × Mem) :=
  some ((a0 + 1) - (a0 + 1) / 4 * 4, μ)
set_option maxRecDepth 100000 in
set_option maxHeartbeats 4000000 in
theorem c_X11_next {l : Launch} {γ : GE} {S : SH} {a0 : Int32} {μ : Mem} {X : (Int32 × Mem)} (h : f_X11_next S a0 μ = some X) : Ct l γ yX11_next cX11_next 1 (some .int) rm_X11_next [.int a0] S μ S X.2 (some (.int X.1)) := by
  unfold f_X11_next at h
  have hJ : ∀ (p : Program) (e : Env) (s : State) (m : MethodId) (args : Array Value) (below : List Frame) (meth : Method) (c : Code), FX γ p s m args meth c cX11_next RX11 1 → meth.sig.returnType = (some .int) → JJ γ p l e rm_X11_next s m args below meth c 1 0 0 (QI below γ S X args s 0 0) S μ 0 [(0, .int a0)] [] := by
    intro p e s m args below meth c F hr
    refine j_iload_n F 0 dX11_next_0 rfl ?_
    refine j_iconst F 1 dX11_next_1 (by decide) ?_
    refine j_iadd F dX11_next_2 ?_
    refine j_iconst F 4 dX11_next_3 (by decide) ?_
    refine j_iremc F dX11_next_4 (by decide) ?_
    exact j_iret F hr dX11_next_5 h
  exact ct_of (by decide +kernel) (Nat.le_of_ble_eq_true rfl) (fun p e s m args below meth c F hr _ => hJ p e s m args below meth c F hr)
def rm_X3_about : Room := { frames := 0, cells := 0, slots := 0, locals := 0 }
theorem dX3_about_0 : decode cX3_about 0 = .ok (.aload_n 1, 1) := by decide +kernel
theorem dX3_about_1 : decode cX3_about 1 = .ok (.getfield 107, 3) := by decide +kernel
theorem dX3_about_4 : decode cX3_about 4 = .ok (.iload_n 3, 1) := by decide +kernel
theorem dX3_about_5 : decode cX3_about 5 = .ok (.iaload, 1) := by decide +kernel
theorem dX3_about_6 : decode cX3_about 6 = .ok (.aload_n 1, 1) := by decide +kernel
theorem dX3_about_7 : decode cX3_about 7 = .ok (.getfield 107, 3) := by decide +kernel
theorem dX3_about_10 : decode cX3_about 10 = .ok (.iload_n 2, 1) := by decide +kernel
theorem dX3_about_11 : decode cX3_about 11 = .ok (.iaload, 1) := by decide +kernel
theorem dX3_about_12 : decode cX3_about 12 = .ok (.isub, 1) := by decide +kernel
theorem dX3_about_13 : decode cX3_about 13 = .ok (.i2l, 1) := by decide +kernel
theorem dX3_about_14 : decode cX3_about 14 = .ok (.lstore 4, 2) := by decide +kernel
theorem dX3_about_16 : decode cX3_about 16 = .ok (.aload_n 1, 1) := by decide +kernel
theorem dX3_about_17 : decode cX3_about 17 = .ok (.getfield 110, 3) := by decide +kernel
theorem dX3_about_20 : decode cX3_about 20 = .ok (.iload_n 3, 1) := by decide +kernel
theorem dX3_about_21 : decode cX3_about 21 = .ok (.iaload, 1) := by decide +kernel
theorem dX3_about_22 : decode cX3_about 22 = .ok (.aload_n 1, 1) := by decide +kernel
theorem dX3_about_23 : decode cX3_about 23 = .ok (.getfield 110, 3) := by decide +kernel
theorem dX3_about_26 : decode cX3_about 26 = .ok (.iload_n 2, 1) := by decide +kernel
theorem dX3_about_27 : decode cX3_about 27 = .ok (.iaload, 1) := by decide +kernel
theorem dX3_about_28 : decode cX3_about 28 = .ok (.isub, 1) := by decide +kernel
theorem dX3_about_29 : decode cX3_about 29 = .ok (.i2l, 1) := by decide +kernel
theorem dX3_about_30 : decode cX3_about 30 = .ok (.lstore 6, 2) := by decide +kernel
theorem dX3_about_32 : decode cX3_about 32 = .ok (.lload 4, 2) := by decide +kernel
theorem dX3_about_34 : decode cX3_about 34 = .ok (.aload_n 0, 1) := by decide +kernel
theorem dX3_about_35 : decode cX3_about 35 = .ok (.getfield 104, 3) := by decide +kernel
theorem dX3_about_38 : decode cX3_about 38 = .ok (.aload_n 1, 1) := by decide +kernel
theorem dX3_about_39 : decode cX3_about 39 = .ok (.getfield 110, 3) := by decide +kernel
theorem dX3_about_42 : decode cX3_about 42 = .ok (.iload_n 2, 1) := by decide +kernel
theorem dX3_about_43 : decode cX3_about 43 = .ok (.iaload, 1) := by decide +kernel
theorem dX3_about_44 : decode cX3_about 44 = .ok (.i2l, 1) := by decide +kernel
theorem dX3_about_45 : decode cX3_about 45 = .ok (.aload_n 0, 1) := by decide +kernel
theorem dX3_about_46 : decode cX3_about 46 = .ok (.getfield 31, 3) := by decide +kernel
theorem dX3_about_49 : decode cX3_about 49 = .ok (.lmul, 1) := by decide +kernel
theorem dX3_about_50 : decode cX3_about 50 = .ok (.lsub, 1) := by decide +kernel
theorem dX3_about_51 : decode cX3_about 51 = .ok (.lmul, 1) := by decide +kernel
theorem dX3_about_52 : decode cX3_about 52 = .ok (.lload 6, 2) := by decide +kernel
theorem dX3_about_54 : decode cX3_about 54 = .ok (.aload_n 0, 1) := by decide +kernel
theorem dX3_about_55 : decode cX3_about 55 = .ok (.getfield 98, 3) := by decide +kernel
theorem dX3_about_58 : decode cX3_about 58 = .ok (.aload_n 1, 1) := by decide +kernel
theorem dX3_about_59 : decode cX3_about 59 = .ok (.getfield 107, 3) := by decide +kernel
theorem dX3_about_62 : decode cX3_about 62 = .ok (.iload_n 2, 1) := by decide +kernel
theorem dX3_about_63 : decode cX3_about 63 = .ok (.iaload, 1) := by decide +kernel
theorem dX3_about_64 : decode cX3_about 64 = .ok (.i2l, 1) := by decide +kernel
theorem dX3_about_65 : decode cX3_about 65 = .ok (.aload_n 0, 1) := by decide +kernel
theorem dX3_about_66 : decode cX3_about 66 = .ok (.getfield 31, 3) := by decide +kernel
theorem dX3_about_69 : decode cX3_about 69 = .ok (.lmul, 1) := by decide +kernel
theorem dX3_about_70 : decode cX3_about 70 = .ok (.lsub, 1) := by decide +kernel
theorem dX3_about_71 : decode cX3_about 71 = .ok (.lmul, 1) := by decide +kernel
theorem dX3_about_72 : decode cX3_about 72 = .ok (.lsub, 1) := by decide +kernel
theorem dX3_about_73 : decode cX3_about 73 = .ok (.lreturn, 1) := by decide +kernel
def f_X3_about (S : SH) (a0 : Nat) (a1 : Nat) (a2 : Int32) (a3 : Int32) (μ : Mem) : Option (Int64 × Mem) :=
  if isO S 3 a0 = true then
  (gR S 4 a1 0).bind fun v1 =>
  (aI S .int v1 a3 μ).bind fun v2 =>
  (gR S 4 a1 0).bind fun v3 =>
  (aI S .int v3 a2 μ).bind fun v4 =>
  (some ((v2 - v4).toInt64)).bind fun y5 =>
  (gR S 4 a1 1).bind fun v6 =>
  (aI S .int v6 a3 μ).bind fun v7 =>
  (gR S 4 a1 1).bind fun v8 =>
  (aI S .int v8 a2 μ).bind fun v9 =>
  (some ((v7 - v9).toInt64)).bind fun y10 =>
  (gL S 3 a0 2 μ).bind fun v11 =>
  (gR S 4 a1 1).bind fun v12 =>
  (aI S .int v12 a2 μ).bind fun v13 =>
  (gL S 3 a0 0 μ).bind fun v14 =>
  (gL S 3 a0 1 μ).bind fun v15 =>
  (gR S 4 a1 0).bind fun v16 =>
  (aI S .int v16 a2 μ).bind fun v17 =>
  (gL S 3 a0 0 μ).bind fun v18 =>
  some ((y5 * (v11 - (v13.toInt64 * v14))) - (y10 * (v15 - (v17.toInt64 * v18))), μ)
  else none
set_option maxRecDepth 100000 in
set_option maxHeartbeats 4000000 in
theorem c_X3_about {l : Launch} {γ : GE} {S : SH} {a0 : Nat} {a1 : Nat} {a2 : Int32} {a3 : Int32} {μ : Mem} {X : (Int64 × Mem)} (h : f_X3_about S a0 a1 a2 a3 μ = some X) : isO S 3 a0 = true ∧ Ct l γ yX3_about cX3_about 8 (some .long) rm_X3_about [.ref (gb γ + a0), .ref (gb γ + a1), .int a2, .int a3] S μ S X.2 (some (.long X.1)) := by
  unfold f_X3_about at h
  obtain ⟨h0, h⟩ := if_some h
  refine ⟨h0, ?_⟩
  have hJ : ∀ (p : Program) (e : Env) (s : State) (m : MethodId) (args : Array Value) (below : List Frame) (meth : Method) (c : Code), FX γ p s m args meth c cX3_about RX3 8 → meth.sig.returnType = (some .long) → JJ γ p l e rm_X3_about s m args below meth c 8 0 0 (QL below γ S X args s 0 0) S μ 0 [(0, .ref (gb γ + a0)), (1, .ref (gb γ + a1)), (2, .int a2), (3, .int a3)] [] := by
    intro p e s m args below meth c F hr
    refine j_aload_n F 1 dX3_about_0 rfl ?_
    refine j_gR F fl_RX3_107 rfl dX3_about_1 h (fun v1 h => ?_)
    refine j_iload_n F 3 dX3_about_4 rfl ?_
    refine j_iald F dX3_about_5 h (fun v2 h => ?_)
    refine j_aload_n F 1 dX3_about_6 rfl ?_
    refine j_gR F fl_RX3_107 rfl dX3_about_7 h (fun v3 h => ?_)
    refine j_iload_n F 2 dX3_about_10 rfl ?_
    refine j_iald F dX3_about_11 h (fun v4 h => ?_)
    refine j_isub F dX3_about_12 ?_
    refine j_i2l F dX3_about_13 ?_
    refine j_nmL h (fun y5 h => ?_)
    refine j_lstore F [(4, .long y5), (0, .ref (gb γ + a0)), (1, .ref (gb γ + a1)), (2, .int a2), (3, .int a3)] dX3_about_14 (by decide) rfl ?_
    refine j_aload_n F 2 dX3_about_16 rfl ?_
    refine j_gR F fl_RX3_110 rfl dX3_about_17 h (fun v6 h => ?_)
    refine j_iload_n F 4 dX3_about_20 rfl ?_
    refine j_iald F dX3_about_21 h (fun v7 h => ?_)
    refine j_aload_n F 2 dX3_about_22 rfl ?_
    refine j_gR F fl_RX3_110 rfl dX3_about_23 h (fun v8 h => ?_)
    refine j_iload_n F 3 dX3_about_26 rfl ?_
    refine j_iald F dX3_about_27 h (fun v9 h => ?_)
    refine j_isub F dX3_about_28 ?_
    refine j_i2l F dX3_about_29 ?_
    refine j_nmL h (fun y10 h => ?_)
    refine j_lstore F [(6, .long y10), (4, .long y5), (0, .ref (gb γ + a0)), (1, .ref (gb γ + a1)), (2, .int a2), (3, .int a3)] dX3_about_30 (by decide) rfl ?_
    refine j_lload F 1 dX3_about_32 rfl ?_
    refine j_aload_n F 2 dX3_about_34 rfl ?_
    refine j_gL F fl_RX3_104.l rfl dX3_about_35 h (fun v11 h => ?_)
    refine j_aload_n F 3 dX3_about_38 rfl ?_
    refine j_gR F fl_RX3_110 rfl dX3_about_39 h (fun v12 h => ?_)
    refine j_iload_n F 4 dX3_about_42 rfl ?_
    refine j_iald F dX3_about_43 h (fun v13 h => ?_)
    refine j_i2l F dX3_about_44 ?_
    refine j_aload_n F 2 dX3_about_45 rfl ?_
    refine j_gL F fl_RX3_31.l rfl dX3_about_46 h (fun v14 h => ?_)
    refine j_lmul F dX3_about_49 ?_
    refine j_lsub F dX3_about_50 ?_
    refine j_lmul F dX3_about_51 ?_
    refine j_lload F 0 dX3_about_52 rfl ?_
    refine j_aload_n F 2 dX3_about_54 rfl ?_
    refine j_gL F fl_RX3_98.l rfl dX3_about_55 h (fun v15 h => ?_)
    refine j_aload_n F 3 dX3_about_58 rfl ?_
    refine j_gR F fl_RX3_107 rfl dX3_about_59 h (fun v16 h => ?_)
    refine j_iload_n F 4 dX3_about_62 rfl ?_
    refine j_iald F dX3_about_63 h (fun v17 h => ?_)
    refine j_i2l F dX3_about_64 ?_
    refine j_aload_n F 2 dX3_about_65 rfl ?_
    refine j_gL F fl_RX3_31.l rfl dX3_about_66 h (fun v18 h => ?_)
    refine j_lmul F dX3_about_69 ?_
    refine j_lsub F dX3_about_70 ?_
    refine j_lmul F dX3_about_71 ?_
    refine j_lsub F dX3_about_72 ?_
    exact j_lret F hr dX3_about_73 h
  exact ct_of (by decide +kernel) (Nat.le_of_ble_eq_true rfl) (fun p e s m args below meth c F hr _ => hJ p e s m args below meth c F hr)
def rm_X3_tipsOver : Room := { frames := 1, cells := 0, slots := 0, locals := 27 }
theorem dX3_tipsOver_0 : decode cX3_tipsOver 0 = .ok (.iconst 0, 1) := by decide +kernel
theorem dX3_tipsOver_1 : decode cX3_tipsOver 1 = .ok (.istore_n 2, 1) := by decide +kernel
theorem dX3_tipsOver_2 : decode cX3_tipsOver 2 = .ok (.iload_n 2, 1) := by decide +kernel
theorem dX3_tipsOver_3 : decode cX3_tipsOver 3 = .ok (.iconst 4, 1) := by decide +kernel
theorem dX3_tipsOver_4 : decode cX3_tipsOver 4 = .ok (.if_icmp .ge 26, 3) := by decide +kernel
theorem dX3_tipsOver_7 : decode cX3_tipsOver 7 = .ok (.aload_n 0, 1) := by decide +kernel
theorem dX3_tipsOver_8 : decode cX3_tipsOver 8 = .ok (.aload_n 1, 1) := by decide +kernel
theorem dX3_tipsOver_9 : decode cX3_tipsOver 9 = .ok (.iload_n 2, 1) := by decide +kernel
theorem dX3_tipsOver_10 : decode cX3_tipsOver 10 = .ok (.iload_n 2, 1) := by decide +kernel
theorem dX3_tipsOver_11 : decode cX3_tipsOver 11 = .ok (.invokestatic 146, 3) := by decide +kernel
theorem dX3_tipsOver_14 : decode cX3_tipsOver 14 = .ok (.invokevirtual 150, 3) := by decide +kernel
theorem dX3_tipsOver_17 : decode cX3_tipsOver 17 = .ok (.lconst 0, 1) := by decide +kernel
theorem dX3_tipsOver_18 : decode cX3_tipsOver 18 = .ok (.lcmp, 1) := by decide +kernel
theorem dX3_tipsOver_19 : decode cX3_tipsOver 19 = .ok (.ifCond .ge 5, 3) := by decide +kernel
theorem dX3_tipsOver_22 : decode cX3_tipsOver 22 = .ok (.iconst 1, 1) := by decide +kernel
theorem dX3_tipsOver_23 : decode cX3_tipsOver 23 = .ok (.ireturn, 1) := by decide +kernel
theorem dX3_tipsOver_24 : decode cX3_tipsOver 24 = .ok (.iinc 2 1, 3) := by decide +kernel
theorem dX3_tipsOver_27 : decode cX3_tipsOver 27 = .ok (.goto (-25), 3) := by decide +kernel
theorem dX3_tipsOver_30 : decode cX3_tipsOver 30 = .ok (.iconst 0, 1) := by decide +kernel
theorem dX3_tipsOver_31 : decode cX3_tipsOver 31 = .ok (.ireturn, 1) := by decide +kernel
def l_X3_tipsOver_2 (S : SH) (a0 : Nat) (a1 : Nat) (k2 : (Int32 × Mem) → Option (Int32 × Mem)) (x : (Int32 × Mem)) : Option (Int32 × Mem) :=
 (if 4 ≤ x.1 then
 some (0, x.2)
 else
 (f_X11_next S x.1 x.2).bind fun q1 =>
 (f_X3_about S a0 a1 x.1 q1.1 q1.2).bind fun q2 =>
 (if 0 ≤ q2.1 then
 k2 (x.1 + 1, q2.2)
 else
 some (1, q2.2)))
set_option maxRecDepth 100000 in
set_option maxHeartbeats 4000000 in
theorem t_X3_tipsOver_2 {γ : GE} {p : Program} {l : Launch} {e : Env} {s : State} {m : MethodId} {args : Array Value} {below : List Frame} {meth : Method} {c : Code} {S : SH} {X : (Int32 × Mem)} (F : FX γ p s m args meth c cX3_tipsOver RX3 3) (hr : meth.sig.returnType = (some .boolean)) (a0 : Nat) (a1 : Nat) (k2 : (Int32 × Mem) → Option (Int32 × Mem)) (hk2 : ∀ x : (Int32 × Mem), k2 x = some X → JJ γ p l e rm_X3_tipsOver s m args below meth c 3 0 0 (QI below γ S X args s 0 0) S x.2 2 [(0, .ref (gb γ + a0)), (1, .ref (gb γ + a1)), (2, .int x.1)] []) (x : (Int32 × Mem)) (h : l_X3_tipsOver_2 S a0 a1 k2 x = some X) : JJ γ p l e rm_X3_tipsOver s m args below meth c 3 0 0 (QI below γ S X args s 0 0) S x.2 2 [(0, .ref (gb γ + a0)), (1, .ref (gb γ + a1)), (2, .int x.1)] [] := by
  unfold l_X3_tipsOver_2 at h
  refine j_iload_n F 2 dX3_tipsOver_2 rfl ?_
  refine j_iconst F 4 dX3_tipsOver_3 (by decide) ?_
  refine j_icmpge F 30 dX3_tipsOver_4 (by decide) h (fun _ h => ?_) (fun _ h => ?_)
  · refine j_iconst F 0 dX3_tipsOver_30 (by decide) ?_
    exact j_zret F hr (Or.inl rfl) dX3_tipsOver_31 h
  · refine j_aload_n F 0 dX3_tipsOver_7 rfl ?_
    refine j_aload_n F 1 dX3_tipsOver_8 rfl ?_
    refine j_iload_n F 2 dX3_tipsOver_9 rfl ?_
    refine j_iload_n F 2 dX3_tipsOver_10 rfl ?_
    refine j_cNI F mi_X11_next (by decide +kernel) (rest := [.int x.1, .ref (gb γ + a1), .ref (gb γ + a0)]) h (fun _ g => c_X11_next g) rfl rfl (Nat.le_of_ble_eq_true rfl) ⟨Nat.le_of_ble_eq_true rfl, Nat.le_of_ble_eq_true rfl⟩ ⟨Nat.le_of_ble_eq_true rfl, Nat.le_of_ble_eq_true rfl⟩ dX3_tipsOver_11 (fun q1 h => ?_)
    refine j_cVJ F mi_X3_about w_633 (rest := []) h (fun _ g => c_X3_about g) rfl rfl (Nat.le_of_ble_eq_true rfl) ⟨Nat.le_of_ble_eq_true rfl, Nat.le_of_ble_eq_true rfl⟩ ⟨Nat.le_of_ble_eq_true rfl, Nat.le_of_ble_eq_true rfl⟩ dX3_tipsOver_14 (fun q2 h => ?_)
    refine j_lconst F 0 dX3_tipsOver_17 (by decide) ?_
    refine j_lcmpge F 24 dX3_tipsOver_18 dX3_tipsOver_19 (by decide) h (fun _ h => ?_) (fun _ h => ?_)
    · refine j_iinc F 1 2 [(2, .int (x.1 + 1)), (0, .ref (gb γ + a0)), (1, .ref (gb γ + a1))] dX3_tipsOver_24 rfl (by decide) (by decide) rfl ?_
      refine j_goto F 2 dX3_tipsOver_27 (by decide) ?_
      refine j_lv [(0, .ref (gb γ + a0)), (1, .ref (gb γ + a1)), (2, .int (x.1 + 1))] [1, 2, 0] rfl ?_
      have h9 := hk2 _ h
      exact h9
    · refine j_iconst F 1 dX3_tipsOver_22 (by decide) ?_
      exact j_zret F hr (Or.inr rfl) dX3_tipsOver_23 h
theorem s_X3_tipsOver_2 {γ : GE} {p : Program} {l : Launch} {e : Env} {s : State} {m : MethodId} {args : Array Value} {below : List Frame} {meth : Method} {c : Code} {S : SH} {X : (Int32 × Mem)} (F : FX γ p s m args meth c cX3_tipsOver RX3 3) (hr : meth.sig.returnType = (some .boolean)) (a0 : Nat) (a1 : Nat) (x : (Int32 × Mem)) (h : lpN (l_X3_tipsOver_2 S a0 a1) fu x = some X) : JJ γ p l e rm_X3_tipsOver s m args below meth c 3 0 0 (QI below γ S X args s 0 0) S x.2 2 [(0, .ref (gb γ + a0)), (1, .ref (gb γ + a1)), (2, .int x.1)] [] :=
 lpN_sound (fun x => JJ γ p l e rm_X3_tipsOver s m args below meth c 3 0 0 (QI below γ S X args s 0 0) S x.2 2 [(0, .ref (gb γ + a0)), (1, .ref (gb γ + a1)), (2, .int x.1)] []) (fun k2 hk2 x h => t_X3_tipsOver_2 F hr a0 a1 k2 hk2 x h) fu x h
def f_X3_tipsOver (S : SH) (a0 : Nat) (a1 : Nat) (μ : Mem) : Option (Int32 × Mem) :=
  if isO S 3 a0 = true then
  lpN (l_X3_tipsOver_2 S  a0 a1) fu (0, μ)
  else none
set_option maxRecDepth 100000 in
set_option maxHeartbeats 4000000 in
theorem c_X3_tipsOver {l : Launch} {γ : GE} {S : SH} {a0 : Nat} {a1 : Nat} {μ : Mem} {X : (Int32 × Mem)} (h : f_X3_tipsOver S a0 a1 μ = some X) : isO S 3 a0 = true ∧ Ct l γ yX3_tipsOver cX3_tipsOver 3 (some .boolean) rm_X3_tipsOver [.ref (gb γ + a0), .ref (gb γ + a1)] S μ S X.2 (some (.int X.1)) := by
  unfold f_X3_tipsOver at h
  obtain ⟨h0, h⟩ := if_some h
  refine ⟨h0, ?_⟩
  have hJ : ∀ (p : Program) (e : Env) (s : State) (m : MethodId) (args : Array Value) (below : List Frame) (meth : Method) (c : Code), FX γ p s m args meth c cX3_tipsOver RX3 3 → meth.sig.returnType = (some .boolean) → JJ γ p l e rm_X3_tipsOver s m args below meth c 3 0 0 (QI below γ S X args s 0 0) S μ 0 [(0, .ref (gb γ + a0)), (1, .ref (gb γ + a1))] [] := by
    intro p e s m args below meth c F hr
    refine j_iconst F 0 dX3_tipsOver_0 (by decide) ?_
    refine j_istore_n F [(2, .int 0), (0, .ref (gb γ + a0)), (1, .ref (gb γ + a1))] dX3_tipsOver_1 rfl (by decide) rfl ?_
    refine j_lv [(0, .ref (gb γ + a0)), (1, .ref (gb γ + a1)), (2, .int 0)] [1, 2, 0] rfl ?_
    exact s_X3_tipsOver_2 F hr _ _ _ h
  exact ct_of (by decide +kernel) (Nat.le_of_ble_eq_true rfl) (fun p e s m args below meth c F hr _ => hJ p e s m args below meth c F hr)
end
