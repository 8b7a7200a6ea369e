section
-- ===== PART A: goes FIRST, ahead of the names: the tables' words, and 'selects' of the private methods out of them =====
/-- a private method of a class that the tables say can be made, by its rows of tables_1 -/
def lw_okq (q : MethodName × Nat) : Prop := (q.1.cls ≠ "java/lang/invoke/MethodHandle" ∧ q.1.cls ≠ "java/lang/invoke/VarHandle") ∧ Cond.instantiable q.1.cls q.2 ∈ tables_1 ∧ Cond.privateMethod q.1 ∈ tables_1 ∧ Cond.instanceMethod q.1 ∈ tables_1
theorem lw_p0 : lw_okq (⟨"CranePads$Pads", "measure", "()V"⟩, 11) := ⟨⟨by decide +kernel, by decide +kernel⟩, List.mem_of_getElem? (i := 36) (by decide +kernel), List.mem_of_getElem? (i := 42) (by decide +kernel), List.mem_of_getElem? (i := 43) (by decide +kernel)⟩
theorem lw_p1 : lw_okq (⟨"CranePads$Judge", "addMoment", "(LCranePads$Pads;IIJJ)V"⟩, 8) := ⟨⟨by decide +kernel, by decide +kernel⟩, List.mem_of_getElem? (i := 203) (by decide +kernel), List.mem_of_getElem? (i := 557) (by decide +kernel), List.mem_of_getElem? (i := 558) (by decide +kernel)⟩
theorem lw_p2 : lw_okq (⟨"CranePads$Judge", "tipsOver", "(LCranePads$Pads;)Z"⟩, 8) := ⟨⟨by decide +kernel, by decide +kernel⟩, List.mem_of_getElem? (i := 203) (by decide +kernel), List.mem_of_getElem? (i := 575) (by decide +kernel), List.mem_of_getElem? (i := 576) (by decide +kernel)⟩
theorem lw_p3 : lw_okq (⟨"CranePads$Judge", "shareByPlane", "(LCranePads$Pads;)V"⟩, 8) := ⟨⟨by decide +kernel, by decide +kernel⟩, List.mem_of_getElem? (i := 203) (by decide +kernel), List.mem_of_getElem? (i := 580) (by decide +kernel), List.mem_of_getElem? (i := 581) (by decide +kernel)⟩
theorem lw_p4 : lw_okq (⟨"CranePads$Judge", "lowestBelowNothing", "()I"⟩, 8) := ⟨⟨by decide +kernel, by decide +kernel⟩, List.mem_of_getElem? (i := 203) (by decide +kernel), List.mem_of_getElem? (i := 584) (by decide +kernel), List.mem_of_getElem? (i := 585) (by decide +kernel)⟩
theorem lw_p5 : lw_okq (⟨"CranePads$Judge", "shareByThree", "(LCranePads$Pads;I)Z"⟩, 8) := ⟨⟨by decide +kernel, by decide +kernel⟩, List.mem_of_getElem? (i := 203) (by decide +kernel), List.mem_of_getElem? (i := 588) (by decide +kernel), List.mem_of_getElem? (i := 589) (by decide +kernel)⟩
theorem lw_p6 : lw_okq (⟨"CranePads$Judge", "isOverLimit", "(LCranePads$Pads;)Z"⟩, 8) := ⟨⟨by decide +kernel, by decide +kernel⟩, List.mem_of_getElem? (i := 203) (by decide +kernel), List.mem_of_getElem? (i := 593) (by decide +kernel), List.mem_of_getElem? (i := 594) (by decide +kernel)⟩
theorem lw_p7 : lw_okq (⟨"CranePads$Route", "spread", "()Z"⟩, 3) := ⟨⟨by decide +kernel, by decide +kernel⟩, List.mem_of_getElem? (i := 243) (by decide +kernel), List.mem_of_getElem? (i := 666) (by decide +kernel), List.mem_of_getElem? (i := 667) (by decide +kernel)⟩
theorem lw_p8 : lw_okq (⟨"CranePads$Tape", "readStep", "(LCranePads$Plan;)I"⟩, 3) := ⟨⟨by decide +kernel, by decide +kernel⟩, List.mem_of_getElem? (i := 260) (by decide +kernel), List.mem_of_getElem? (i := 695) (by decide +kernel), List.mem_of_getElem? (i := 696) (by decide +kernel)⟩
theorem lw_p9 : lw_okq (⟨"CranePads$Tape", "spells", "(ILjava/lang/String;)Z"⟩, 3) := ⟨⟨by decide +kernel, by decide +kernel⟩, List.mem_of_getElem? (i := 260) (by decide +kernel), List.mem_of_getElem? (i := 700) (by decide +kernel), List.mem_of_getElem? (i := 701) (by decide +kernel)⟩
theorem lw_p10 : lw_okq (⟨"CranePads$Tape", "dialOfWord", "(I)I"⟩, 3) := ⟨⟨by decide +kernel, by decide +kernel⟩, List.mem_of_getElem? (i := 260) (by decide +kernel), List.mem_of_getElem? (i := 756) (by decide +kernel), List.mem_of_getElem? (i := 757) (by decide +kernel)⟩
theorem lw_p11 : lw_okq (⟨"CranePads$Tape", "readNumber", "(LCranePads$Plan;I)I"⟩, 3) := ⟨⟨by decide +kernel, by decide +kernel⟩, List.mem_of_getElem? (i := 260) (by decide +kernel), List.mem_of_getElem? (i := 764) (by decide +kernel), List.mem_of_getElem? (i := 765) (by decide +kernel)⟩
theorem lw_p12 : lw_okq (⟨"CranePads$Walk", "meet", "(ILCranePads$Crane;LCranePads$Judge;)V"⟩, 5) := ⟨⟨by decide +kernel, by decide +kernel⟩, List.mem_of_getElem? (i := 299) (by decide +kernel), List.mem_of_getElem? (i := 786) (by decide +kernel), List.mem_of_getElem? (i := 787) (by decide +kernel)⟩
theorem lw_p13 : lw_okq (⟨"CranePads$Book", "dropEldest", "()V"⟩, 4) := ⟨⟨by decide +kernel, by decide +kernel⟩, List.mem_of_getElem? (i := 326) (by decide +kernel), List.mem_of_getElem? (i := 857) (by decide +kernel), List.mem_of_getElem? (i := 858) (by decide +kernel)⟩
theorem lw_p14 : lw_okq (⟨"CranePads", "mayBeAsBooked", "(I)Z"⟩, 12) := ⟨⟨by decide +kernel, by decide +kernel⟩, List.mem_of_getElem? (i := 22) (by decide +kernel), List.mem_of_getElem? (i := 866) (by decide +kernel), List.mem_of_getElem? (i := 867) (by decide +kernel)⟩
theorem lw_p15 : lw_okq (⟨"CranePadsModel", "stands", "()Z"⟩, 41) := ⟨⟨by decide +kernel, by decide +kernel⟩, List.mem_of_getElem? (i := 913) (by decide +kernel), List.mem_of_getElem? (i := 1053) (by decide +kernel), List.mem_of_getElem? (i := 1054) (by decide +kernel)⟩
def lw_privs_1 : List (MethodName × Nat) := [(⟨"CranePads$Pads", "measure", "()V"⟩, 11), (⟨"CranePads$Judge", "addMoment", "(LCranePads$Pads;IIJJ)V"⟩, 8), (⟨"CranePads$Judge", "tipsOver", "(LCranePads$Pads;)Z"⟩, 8), (⟨"CranePads$Judge", "shareByPlane", "(LCranePads$Pads;)V"⟩, 8), (⟨"CranePads$Judge", "lowestBelowNothing", "()I"⟩, 8), (⟨"CranePads$Judge", "shareByThree", "(LCranePads$Pads;I)Z"⟩, 8), (⟨"CranePads$Judge", "isOverLimit", "(LCranePads$Pads;)Z"⟩, 8), (⟨"CranePads$Route", "spread", "()Z"⟩, 3), (⟨"CranePads$Tape", "readStep", "(LCranePads$Plan;)I"⟩, 3), (⟨"CranePads$Tape", "spells", "(ILjava/lang/String;)Z"⟩, 3), (⟨"CranePads$Tape", "dialOfWord", "(I)I"⟩, 3), (⟨"CranePads$Tape", "readNumber", "(LCranePads$Plan;I)I"⟩, 3), (⟨"CranePads$Walk", "meet", "(ILCranePads$Crane;LCranePads$Judge;)V"⟩, 5), (⟨"CranePads$Book", "dropEldest", "()V"⟩, 4), (⟨"CranePads", "mayBeAsBooked", "(I)Z"⟩, 12), (⟨"CranePadsModel", "stands", "()Z"⟩, 41)]
theorem lw_r1 : ∀ q ∈ lw_privs_1, lw_okq q := List.forall_mem_cons.mpr ⟨lw_p0, List.forall_mem_cons.mpr ⟨lw_p1, List.forall_mem_cons.mpr ⟨lw_p2, List.forall_mem_cons.mpr ⟨lw_p3, List.forall_mem_cons.mpr ⟨lw_p4, List.forall_mem_cons.mpr ⟨lw_p5, List.forall_mem_cons.mpr ⟨lw_p6, List.forall_mem_cons.mpr ⟨lw_p7, List.forall_mem_cons.mpr ⟨lw_p8, List.forall_mem_cons.mpr ⟨lw_p9, List.forall_mem_cons.mpr ⟨lw_p10, List.forall_mem_cons.mpr ⟨lw_p11, List.forall_mem_cons.mpr ⟨lw_p12, List.forall_mem_cons.mpr ⟨lw_p13, List.forall_mem_cons.mpr ⟨lw_p14, List.forall_mem_cons.mpr ⟨lw_p15, fun _ h => absurd h List.not_mem_nil⟩⟩⟩⟩⟩⟩⟩⟩⟩⟩⟩⟩⟩⟩⟩⟩
theorem lw_p16 : lw_okq (⟨"CranePadsModel", "x", "(I)I"⟩, 41) := ⟨⟨by decide +kernel, by decide +kernel⟩, List.mem_of_getElem? (i := 913) (by decide +kernel), List.mem_of_getElem? (i := 1057) (by decide +kernel), List.mem_of_getElem? (i := 1058) (by decide +kernel)⟩
theorem lw_p17 : lw_okq (⟨"CranePadsModel", "y", "(I)I"⟩, 41) := ⟨⟨by decide +kernel, by decide +kernel⟩, List.mem_of_getElem? (i := 913) (by decide +kernel), List.mem_of_getElem? (i := 1061) (by decide +kernel), List.mem_of_getElem? (i := 1062) (by decide +kernel)⟩
theorem lw_p18 : lw_okq (⟨"CranePadsModel", "isPartOf", "(I)Z"⟩, 41) := ⟨⟨by decide +kernel, by decide +kernel⟩, List.mem_of_getElem? (i := 913) (by decide +kernel), List.mem_of_getElem? (i := 1073) (by decide +kernel), List.mem_of_getElem? (i := 1074) (by decide +kernel)⟩
theorem lw_p19 : lw_okq (⟨"CranePadsModel", "placeOf", "(II)I"⟩, 41) := ⟨⟨by decide +kernel, by decide +kernel⟩, List.mem_of_getElem? (i := 913) (by decide +kernel), List.mem_of_getElem? (i := 1109) (by decide +kernel), List.mem_of_getElem? (i := 1110) (by decide +kernel)⟩
theorem lw_p20 : lw_okq (⟨"CranePadsModel", "isThere", "(III)Z"⟩, 41) := ⟨⟨by decide +kernel, by decide +kernel⟩, List.mem_of_getElem? (i := 913) (by decide +kernel), List.mem_of_getElem? (i := 1113) (by decide +kernel), List.mem_of_getElem? (i := 1114) (by decide +kernel)⟩
theorem lw_p21 : lw_okq (⟨"CranePadsModel", "goes", "(II)V"⟩, 41) := ⟨⟨by decide +kernel, by decide +kernel⟩, List.mem_of_getElem? (i := 913) (by decide +kernel), List.mem_of_getElem? (i := 1117) (by decide +kernel), List.mem_of_getElem? (i := 1118) (by decide +kernel)⟩
theorem lw_p22 : lw_okq (⟨"CranePadsModel", "comes", "(III)V"⟩, 41) := ⟨⟨by decide +kernel, by decide +kernel⟩, List.mem_of_getElem? (i := 913) (by decide +kernel), List.mem_of_getElem? (i := 1121) (by decide +kernel), List.mem_of_getElem? (i := 1122) (by decide +kernel)⟩
theorem lw_p23 : lw_okq (⟨"CranePadsModel", "readOf", "(II)I"⟩, 41) := ⟨⟨by decide +kernel, by decide +kernel⟩, List.mem_of_getElem? (i := 913) (by decide +kernel), List.mem_of_getElem? (i := 1129) (by decide +kernel), List.mem_of_getElem? (i := 1130) (by decide +kernel)⟩
theorem lw_p24 : lw_okq (⟨"CranePadsModel", "allowedAt", "(II)I"⟩, 41) := ⟨⟨by decide +kernel, by decide +kernel⟩, List.mem_of_getElem? (i := 913) (by decide +kernel), List.mem_of_getElem? (i := 1140) (by decide +kernel), List.mem_of_getElem? (i := 1141) (by decide +kernel)⟩
theorem lw_p25 : lw_okq (⟨"CranePadsModel", "looks", "()V"⟩, 41) := ⟨⟨by decide +kernel, by decide +kernel⟩, List.mem_of_getElem? (i := 913) (by decide +kernel), List.mem_of_getElem? (i := 1149) (by decide +kernel), List.mem_of_getElem? (i := 1150) (by decide +kernel)⟩
theorem lw_p26 : lw_okq (⟨"CranePadsModel", "lays", "(IJJ)V"⟩, 41) := ⟨⟨by decide +kernel, by decide +kernel⟩, List.mem_of_getElem? (i := 913) (by decide +kernel), List.mem_of_getElem? (i := 1165) (by decide +kernel), List.mem_of_getElem? (i := 1166) (by decide +kernel)⟩
theorem lw_p27 : lw_okq (⟨"CranePadsModel", "sum", "(I)J"⟩, 41) := ⟨⟨by decide +kernel, by decide +kernel⟩, List.mem_of_getElem? (i := 913) (by decide +kernel), List.mem_of_getElem? (i := 1169) (by decide +kernel), List.mem_of_getElem? (i := 1170) (by decide +kernel)⟩
theorem lw_p28 : lw_okq (⟨"CranePadsModel", "moments", "(II)J"⟩, 41) := ⟨⟨by decide +kernel, by decide +kernel⟩, List.mem_of_getElem? (i := 913) (by decide +kernel), List.mem_of_getElem? (i := 1191) (by decide +kernel), List.mem_of_getElem? (i := 1192) (by decide +kernel)⟩
theorem lw_p29 : lw_okq (⟨"CranePadsModel", "momentOf", "(II)J"⟩, 41) := ⟨⟨by decide +kernel, by decide +kernel⟩, List.mem_of_getElem? (i := 913) (by decide +kernel), List.mem_of_getElem? (i := 1195) (by decide +kernel), List.mem_of_getElem? (i := 1196) (by decide +kernel)⟩
theorem lw_p30 : lw_okq (⟨"CranePadsModel", "pushes", "()I"⟩, 41) := ⟨⟨by decide +kernel, by decide +kernel⟩, List.mem_of_getElem? (i := 913) (by decide +kernel), List.mem_of_getElem? (i := 1207) (by decide +kernel), List.mem_of_getElem? (i := 1208) (by decide +kernel)⟩
theorem lw_p31 : lw_okq (⟨"CranePadsModel", "tips", "()Z"⟩, 41) := ⟨⟨by decide +kernel, by decide +kernel⟩, List.mem_of_getElem? (i := 913) (by decide +kernel), List.mem_of_getElem? (i := 1211) (by decide +kernel), List.mem_of_getElem? (i := 1212) (by decide +kernel)⟩
def lw_privs_2 : List (MethodName × Nat) := [(⟨"CranePadsModel", "x", "(I)I"⟩, 41), (⟨"CranePadsModel", "y", "(I)I"⟩, 41), (⟨"CranePadsModel", "isPartOf", "(I)Z"⟩, 41), (⟨"CranePadsModel", "placeOf", "(II)I"⟩, 41), (⟨"CranePadsModel", "isThere", "(III)Z"⟩, 41), (⟨"CranePadsModel", "goes", "(II)V"⟩, 41), (⟨"CranePadsModel", "comes", "(III)V"⟩, 41), (⟨"CranePadsModel", "readOf", "(II)I"⟩, 41), (⟨"CranePadsModel", "allowedAt", "(II)I"⟩, 41), (⟨"CranePadsModel", "looks", "()V"⟩, 41), (⟨"CranePadsModel", "lays", "(IJJ)V"⟩, 41), (⟨"CranePadsModel", "sum", "(I)J"⟩, 41), (⟨"CranePadsModel", "moments", "(II)J"⟩, 41), (⟨"CranePadsModel", "momentOf", "(II)J"⟩, 41), (⟨"CranePadsModel", "pushes", "()I"⟩, 41), (⟨"CranePadsModel", "tips", "()Z"⟩, 41)]
theorem lw_r2 : ∀ q ∈ lw_privs_2, lw_okq q := List.forall_mem_cons.mpr ⟨lw_p16, List.forall_mem_cons.mpr ⟨lw_p17, List.forall_mem_cons.mpr ⟨lw_p18, List.forall_mem_cons.mpr ⟨lw_p19, List.forall_mem_cons.mpr ⟨lw_p20, List.forall_mem_cons.mpr ⟨lw_p21, List.forall_mem_cons.mpr ⟨lw_p22, List.forall_mem_cons.mpr ⟨lw_p23, List.forall_mem_cons.mpr ⟨lw_p24, List.forall_mem_cons.mpr ⟨lw_p25, List.forall_mem_cons.mpr ⟨lw_p26, List.forall_mem_cons.mpr ⟨lw_p27, List.forall_mem_cons.mpr ⟨lw_p28, List.forall_mem_cons.mpr ⟨lw_p29, List.forall_mem_cons.mpr ⟨lw_p30, List.forall_mem_cons.mpr ⟨lw_p31, fun _ h => absurd h List.not_mem_nil⟩⟩⟩⟩⟩⟩⟩⟩⟩⟩⟩⟩⟩⟩⟩⟩
theorem lw_p32 : lw_okq (⟨"CranePadsModel", "plane", "(I)V"⟩, 41) := ⟨⟨by decide +kernel, by decide +kernel⟩, List.mem_of_getElem? (i := 913) (by decide +kernel), List.mem_of_getElem? (i := 1215) (by decide +kernel), List.mem_of_getElem? (i := 1216) (by decide +kernel)⟩
theorem lw_p33 : lw_okq (⟨"CranePadsModel", "least", "()I"⟩, 41) := ⟨⟨by decide +kernel, by decide +kernel⟩, List.mem_of_getElem? (i := 913) (by decide +kernel), List.mem_of_getElem? (i := 1222) (by decide +kernel), List.mem_of_getElem? (i := 1223) (by decide +kernel)⟩
theorem lw_p34 : lw_okq (⟨"CranePadsModel", "whyNow", "()I"⟩, 41) := ⟨⟨by decide +kernel, by decide +kernel⟩, List.mem_of_getElem? (i := 913) (by decide +kernel), List.mem_of_getElem? (i := 1238) (by decide +kernel), List.mem_of_getElem? (i := 1239) (by decide +kernel)⟩
theorem lw_p35 : lw_okq (⟨"CranePadsModel", "isAboveLimit", "()Z"⟩, 41) := ⟨⟨by decide +kernel, by decide +kernel⟩, List.mem_of_getElem? (i := 913) (by decide +kernel), List.mem_of_getElem? (i := 1242) (by decide +kernel), List.mem_of_getElem? (i := 1243) (by decide +kernel)⟩
theorem lw_p36 : lw_okq (⟨"CranePadsModel", "spareNow", "()I"⟩, 41) := ⟨⟨by decide +kernel, by decide +kernel⟩, List.mem_of_getElem? (i := 913) (by decide +kernel), List.mem_of_getElem? (i := 1246) (by decide +kernel), List.mem_of_getElem? (i := 1247) (by decide +kernel)⟩
theorem lw_p37 : lw_okq (⟨"CranePadsModel", "may", "()Z"⟩, 41) := ⟨⟨by decide +kernel, by decide +kernel⟩, List.mem_of_getElem? (i := 913) (by decide +kernel), List.mem_of_getElem? (i := 1254) (by decide +kernel), List.mem_of_getElem? (i := 1255) (by decide +kernel)⟩
theorem lw_p38 : lw_okq (⟨"CranePadsModel", "mayAt", "(II)Z"⟩, 41) := ⟨⟨by decide +kernel, by decide +kernel⟩, List.mem_of_getElem? (i := 913) (by decide +kernel), List.mem_of_getElem? (i := 1262) (by decide +kernel), List.mem_of_getElem? (i := 1263) (by decide +kernel)⟩
theorem lw_p39 : lw_okq (⟨"CranePadsModel", "comesTo", "(III)V"⟩, 41) := ⟨⟨by decide +kernel, by decide +kernel⟩, List.mem_of_getElem? (i := 913) (by decide +kernel), List.mem_of_getElem? (i := 1274) (by decide +kernel), List.mem_of_getElem? (i := 1275) (by decide +kernel)⟩
theorem lw_p40 : lw_okq (⟨"CranePadsModel", "reads", "()I"⟩, 41) := ⟨⟨by decide +kernel, by decide +kernel⟩, List.mem_of_getElem? (i := 913) (by decide +kernel), List.mem_of_getElem? (i := 1294) (by decide +kernel), List.mem_of_getElem? (i := 1295) (by decide +kernel)⟩
theorem lw_p41 : lw_okq (⟨"CranePadsModel", "readStep", "(I)I"⟩, 41) := ⟨⟨by decide +kernel, by decide +kernel⟩, List.mem_of_getElem? (i := 913) (by decide +kernel), List.mem_of_getElem? (i := 1298) (by decide +kernel), List.mem_of_getElem? (i := 1299) (by decide +kernel)⟩
theorem lw_p42 : lw_okq (⟨"CranePadsModel", "here", "()I"⟩, 41) := ⟨⟨by decide +kernel, by decide +kernel⟩, List.mem_of_getElem? (i := 913) (by decide +kernel), List.mem_of_getElem? (i := 1302) (by decide +kernel), List.mem_of_getElem? (i := 1303) (by decide +kernel)⟩
theorem lw_p43 : lw_okq (⟨"CranePadsModel", "isWord", "(ILjava/lang/String;)Z"⟩, 41) := ⟨⟨by decide +kernel, by decide +kernel⟩, List.mem_of_getElem? (i := 913) (by decide +kernel), List.mem_of_getElem? (i := 1314) (by decide +kernel), List.mem_of_getElem? (i := 1315) (by decide +kernel)⟩
theorem lw_p44 : lw_okq (⟨"CranePadsModel", "checks", "()V"⟩, 41) := ⟨⟨by decide +kernel, by decide +kernel⟩, List.mem_of_getElem? (i := 913) (by decide +kernel), List.mem_of_getElem? (i := 1327) (by decide +kernel), List.mem_of_getElem? (i := 1328) (by decide +kernel)⟩
theorem lw_p45 : lw_okq (⟨"CranePadsModel", "remembers", "()V"⟩, 41) := ⟨⟨by decide +kernel, by decide +kernel⟩, List.mem_of_getElem? (i := 913) (by decide +kernel), List.mem_of_getElem? (i := 1331) (by decide +kernel), List.mem_of_getElem? (i := 1332) (by decide +kernel)⟩
theorem lw_p46 : lw_okq (⟨"CranePadsModel", "goesAll", "()V"⟩, 41) := ⟨⟨by decide +kernel, by decide +kernel⟩, List.mem_of_getElem? (i := 913) (by decide +kernel), List.mem_of_getElem? (i := 1335) (by decide +kernel), List.mem_of_getElem? (i := 1336) (by decide +kernel)⟩
theorem lw_p47 : lw_okq (⟨"CranePadsModel", "begins", "()V"⟩, 41) := ⟨⟨by decide +kernel, by decide +kernel⟩, List.mem_of_getElem? (i := 913) (by decide +kernel), List.mem_of_getElem? (i := 1339) (by decide +kernel), List.mem_of_getElem? (i := 1340) (by decide +kernel)⟩
def lw_privs_3 : List (MethodName × Nat) := [(⟨"CranePadsModel", "plane", "(I)V"⟩, 41), (⟨"CranePadsModel", "least", "()I"⟩, 41), (⟨"CranePadsModel", "whyNow", "()I"⟩, 41), (⟨"CranePadsModel", "isAboveLimit", "()Z"⟩, 41), (⟨"CranePadsModel", "spareNow", "()I"⟩, 41), (⟨"CranePadsModel", "may", "()Z"⟩, 41), (⟨"CranePadsModel", "mayAt", "(II)Z"⟩, 41), (⟨"CranePadsModel", "comesTo", "(III)V"⟩, 41), (⟨"CranePadsModel", "reads", "()I"⟩, 41), (⟨"CranePadsModel", "readStep", "(I)I"⟩, 41), (⟨"CranePadsModel", "here", "()I"⟩, 41), (⟨"CranePadsModel", "isWord", "(ILjava/lang/String;)Z"⟩, 41), (⟨"CranePadsModel", "checks", "()V"⟩, 41), (⟨"CranePadsModel", "remembers", "()V"⟩, 41), (⟨"CranePadsModel", "goesAll", "()V"⟩, 41), (⟨"CranePadsModel", "begins", "()V"⟩, 41)]
theorem lw_r3 : ∀ q ∈ lw_privs_3, lw_okq q := List.forall_mem_cons.mpr ⟨lw_p32, List.forall_mem_cons.mpr ⟨lw_p33, List.forall_mem_cons.mpr ⟨lw_p34, List.forall_mem_cons.mpr ⟨lw_p35, List.forall_mem_cons.mpr ⟨lw_p36, List.forall_mem_cons.mpr ⟨lw_p37, List.forall_mem_cons.mpr ⟨lw_p38, List.forall_mem_cons.mpr ⟨lw_p39, List.forall_mem_cons.mpr ⟨lw_p40, List.forall_mem_cons.mpr ⟨lw_p41, List.forall_mem_cons.mpr ⟨lw_p42, List.forall_mem_cons.mpr ⟨lw_p43, List.forall_mem_cons.mpr ⟨lw_p44, List.forall_mem_cons.mpr ⟨lw_p45, List.forall_mem_cons.mpr ⟨lw_p46, List.forall_mem_cons.mpr ⟨lw_p47, fun _ h => absurd h List.not_mem_nil⟩⟩⟩⟩⟩⟩⟩⟩⟩⟩⟩⟩⟩⟩⟩⟩
theorem lw_p48 : lw_okq (⟨"CranePadsModel", "looksAt", "(I)V"⟩, 41) := ⟨⟨by decide +kernel, by decide +kernel⟩, List.mem_of_getElem? (i := 913) (by decide +kernel), List.mem_of_getElem? (i := 1343) (by decide +kernel), List.mem_of_getElem? (i := 1344) (by decide +kernel)⟩
theorem lw_p49 : lw_okq (⟨"CranePadsModel", "goesStep", "(I)V"⟩, 41) := ⟨⟨by decide +kernel, by decide +kernel⟩, List.mem_of_getElem? (i := 913) (by decide +kernel), List.mem_of_getElem? (i := 1348) (by decide +kernel), List.mem_of_getElem? (i := 1349) (by decide +kernel)⟩
theorem lw_p50 : lw_okq (⟨"CranePadsModel", "slews", "(II)V"⟩, 41) := ⟨⟨by decide +kernel, by decide +kernel⟩, List.mem_of_getElem? (i := 913) (by decide +kernel), List.mem_of_getElem? (i := 1352) (by decide +kernel), List.mem_of_getElem? (i := 1353) (by decide +kernel)⟩
theorem lw_p51 : lw_okq (⟨"CranePadsModel", "reaches", "(II)V"⟩, 41) := ⟨⟨by decide +kernel, by decide +kernel⟩, List.mem_of_getElem? (i := 913) (by decide +kernel), List.mem_of_getElem? (i := 1356) (by decide +kernel), List.mem_of_getElem? (i := 1357) (by decide +kernel)⟩
theorem lw_p52 : lw_okq (⟨"CranePadsModel", "returns", "()V"⟩, 41) := ⟨⟨by decide +kernel, by decide +kernel⟩, List.mem_of_getElem? (i := 913) (by decide +kernel), List.mem_of_getElem? (i := 1360) (by decide +kernel), List.mem_of_getElem? (i := 1361) (by decide +kernel)⟩
theorem lw_p53 : lw_okq (⟨"CranePadsModel", "isSeen", "(I)Z"⟩, 41) := ⟨⟨by decide +kernel, by decide +kernel⟩, List.mem_of_getElem? (i := 913) (by decide +kernel), List.mem_of_getElem? (i := 1384) (by decide +kernel), List.mem_of_getElem? (i := 1385) (by decide +kernel)⟩
theorem lw_p54 : lw_okq (⟨"CranePadsModel", "mayLift", "(I)Z"⟩, 41) := ⟨⟨by decide +kernel, by decide +kernel⟩, List.mem_of_getElem? (i := 913) (by decide +kernel), List.mem_of_getElem? (i := 1412) (by decide +kernel), List.mem_of_getElem? (i := 1413) (by decide +kernel)⟩
def lw_privs_4 : List (MethodName × Nat) := [(⟨"CranePadsModel", "looksAt", "(I)V"⟩, 41), (⟨"CranePadsModel", "goesStep", "(I)V"⟩, 41), (⟨"CranePadsModel", "slews", "(II)V"⟩, 41), (⟨"CranePadsModel", "reaches", "(II)V"⟩, 41), (⟨"CranePadsModel", "returns", "()V"⟩, 41), (⟨"CranePadsModel", "isSeen", "(I)Z"⟩, 41), (⟨"CranePadsModel", "mayLift", "(I)Z"⟩, 41)]
theorem lw_r4 : ∀ q ∈ lw_privs_4, lw_okq q := List.forall_mem_cons.mpr ⟨lw_p48, List.forall_mem_cons.mpr ⟨lw_p49, List.forall_mem_cons.mpr ⟨lw_p50, List.forall_mem_cons.mpr ⟨lw_p51, List.forall_mem_cons.mpr ⟨lw_p52, List.forall_mem_cons.mpr ⟨lw_p53, List.forall_mem_cons.mpr ⟨lw_p54, fun _ h => absurd h List.not_mem_nil⟩⟩⟩⟩⟩⟩⟩
def lw_privs : List (MethodName × Nat) := lw_privs_1 ++ (lw_privs_2 ++ (lw_privs_3 ++ (lw_privs_4)))
def lw_tbl : List Cond := k2_sels lw_privs ++ tables_1
theorem lw_privs_ok : ∀ q ∈ lw_privs, lw_okq q := by
  show ∀ q ∈ lw_privs_1 ++ (lw_privs_2 ++ (lw_privs_3 ++ (lw_privs_4))), lw_okq q
  exact List.forall_mem_append.mpr ⟨lw_r1, List.forall_mem_append.mpr ⟨lw_r2, List.forall_mem_append.mpr ⟨lw_r3, lw_r4⟩⟩⟩
end
section

/-! ===== BEGIN printed: names, fields, word lists, decode rows ===== -/
def RX0 : String := "CranePads$Book"
def TX0 : u_T := fun k => match k with
  | 0 => ("CranePads$Book", "load", "[I", true)
  | 1 => ("CranePads$Book", "direction", "[I", true)
  | 2 => ("CranePads$Book", "reach", "[I", true)
  | _ => ("CranePads$Book", "size", "I", false)
def tyX0 : Nat → FieldType := fun k => match k with
  | 0 => .array .int
  | 1 => .array .int
  | 2 => .array .int
  | _ => .int
abbrev wsX00 : List Cond := u_ws RX0 TX0 4
theorem nmX0 : ∀ a, a < 4 → ∀ b, b < 4 → a ≠ b → (TX0 a).2.1 ≠ (TX0 b).2.1 := by decide +kernel
theorem tyX0_ok : ∀ k, k < 4 → parseFieldDescriptor (TX0 k).2.2.1 = some (tyX0 k) := by decide +kernel
abbrev cX0_init : ByteArray := prog_2_method_1_code
def yX0_init : MethodName := ⟨RX0, "<init>", "()V"⟩
abbrev cX0_keep : ByteArray := prog_2_method_2_code
def yX0_keep : MethodName := ⟨RX0, "keep", "(III)I"⟩
abbrev cX0_dropEldest : ByteArray := prog_2_method_3_code
def yX0_dropEldest : MethodName := ⟨RX0, "dropEldest", "()V"⟩
abbrev cX0_withMost : ByteArray := prog_2_method_4_code
def yX0_withMost : MethodName := ⟨RX0, "withMost", "()I"⟩
def RX1 : String := "CranePads$Chart"
def TX1 : u_T := fun k => match k with
  | 0 => ("CranePads$Chart", "said", "[I", true)
  | _ => ("CranePads$Chart", "size", "I", false)
def tyX1 : Nat → FieldType := fun k => match k with
  | 0 => .array .int
  | _ => .int
abbrev wsX10 : List Cond := u_ws RX1 TX1 2
theorem nmX1 : ∀ a, a < 2 → ∀ b, b < 2 → a ≠ b → (TX1 a).2.1 ≠ (TX1 b).2.1 := by decide +kernel
theorem tyX1_ok : ∀ k, k < 2 → parseFieldDescriptor (TX1 k).2.2.1 = some (tyX1 k) := by decide +kernel
abbrev cX1_init : ByteArray := prog_3_method_1_code
def yX1_init : MethodName := ⟨RX1, "<init>", "()V"⟩
abbrev cX1_has : ByteArray := prog_3_method_2_code
def yX1_has : MethodName := ⟨RX1, "has", "(I)Z"⟩
abbrev cX1_write : ByteArray := prog_3_method_3_code
def yX1_write : MethodName := ⟨RX1, "write", "(II)V"⟩
abbrev cX1_at : ByteArray := prog_3_method_4_code
def yX1_at : MethodName := ⟨RX1, "at", "(I)I"⟩
abbrev cX1_readAs : ByteArray := prog_3_method_5_code
def yX1_readAs : MethodName := ⟨RX1, "readAs", "(LCranePads$Chart;)V"⟩
def RX2 : String := "CranePads$Crane"
def TX2 : u_T := fun k => match k with
  | 0 => ("CranePads$Crane", "pads", "LCranePads$Pads;", true)
  | 1 => ("CranePads$Crane", "parts", "LCranePads$Parts;", true)
  | 2 => ("CranePads$Crane", "charts", "[LCranePads$Chart;", true)
  | _ => ("CranePads$Crane", "dials", "[I", true)
def tyX2 : Nat → FieldType := fun k => match k with
  | 0 => .object "CranePads$Pads"
  | 1 => .object "CranePads$Parts"
  | 2 => .array (.object "CranePads$Chart")
  | _ => .array .int
abbrev wsX20 : List Cond := u_ws RX2 TX2 4
theorem nmX2 : ∀ a, a < 4 → ∀ b, b < 4 → a ≠ b → (TX2 a).2.1 ≠ (TX2 b).2.1 := by decide +kernel
theorem tyX2_ok : ∀ k, k < 4 → parseFieldDescriptor (TX2 k).2.2.1 = some (tyX2 k) := by decide +kernel
abbrev cX2_init : ByteArray := prog_4_method_1_code
def yX2_init : MethodName := ⟨RX2, "<init>", "()V"⟩
abbrev cX2_become : ByteArray := prog_4_method_2_code
def yX2_become : MethodName := ⟨RX2, "become", "(LCranePads$Crane;)V"⟩
abbrev cX2_hanging : ByteArray := prog_4_method_3_code
def yX2_hanging : MethodName := ⟨RX2, "hanging", "()I"⟩
abbrev cX2_wholeMass : ByteArray := prog_4_method_4_code
def yX2_wholeMass : MethodName := ⟨RX2, "wholeMass", "()I"⟩
abbrev cX2_mayHang : ByteArray := prog_4_method_5_code
def yX2_mayHang : MethodName := ⟨RX2, "mayHang", "(II)I"⟩
abbrev cX2_room : ByteArray := prog_4_method_6_code
def yX2_room : MethodName := ⟨RX2, "room", "()I"⟩
abbrev cX2_approach : ByteArray := prog_4_method_7_code
def yX2_approach : MethodName := ⟨RX2, "approach", "(II)V"⟩
def RX3 : String := "CranePads$Judge"
def TX3 : u_T := fun k => match k with
  | 0 => ("CranePads$Judge", "w", "J", false)
  | 1 => ("CranePads$Judge", "mx", "J", false)
  | 2 => ("CranePads$Judge", "my", "J", false)
  | 3 => ("CranePads$Judge", "share", "[J", true)
  | 4 => ("CranePads$Judge", "below", "J", false)
  | 5 => ("CranePads$Judge", "inTheAir", "I", false)
  | 6 => ("CranePads$Judge", "holding", "J", false)
  | _ => ("CranePads$Judge", "tipping", "J", false)
def tyX3 : Nat → FieldType := fun k => match k with
  | 0 => .long
  | 1 => .long
  | 2 => .long
  | 3 => .array .long
  | 4 => .long
  | 5 => .int
  | 6 => .long
  | _ => .long
abbrev wsX30 : List Cond := u_ws RX3 TX3 8
theorem nmX3 : ∀ a, a < 8 → ∀ b, b < 8 → a ≠ b → (TX3 a).2.1 ≠ (TX3 b).2.1 := by decide +kernel
theorem tyX3_ok : ∀ k, k < 8 → parseFieldDescriptor (TX3 k).2.2.1 = some (tyX3 k) := by decide +kernel
abbrev cX3_init : ByteArray := prog_5_method_1_code
def yX3_init : MethodName := ⟨RX3, "<init>", "()V"⟩
abbrev cX3_verdict : ByteArray := prog_5_method_2_code
def yX3_verdict : MethodName := ⟨RX3, "verdict", "(LCranePads$Crane;)I"⟩
abbrev cX3_finds : ByteArray := prog_5_method_3_code
def yX3_finds : MethodName := ⟨RX3, "finds", "(LCranePads$Crane;)Z"⟩
abbrev cX3_lawfulDirections : ByteArray := prog_5_method_4_code
def yX3_lawfulDirections : MethodName := ⟨RX3, "lawfulDirections", "(LCranePads$Crane;I)I"⟩
abbrev cX3_gather : ByteArray := prog_5_method_5_code
def yX3_gather : MethodName := ⟨RX3, "gather", "(LCranePads$Crane;)V"⟩
abbrev cX3_about : ByteArray := prog_5_method_6_code
def yX3_about : MethodName := ⟨RX3, "about", "(LCranePads$Pads;II)J"⟩
abbrev cX3_sharesAre : ByteArray := prog_5_method_7_code
def yX3_sharesAre : MethodName := ⟨RX3, "sharesAre", "([JI)Z"⟩
abbrev cX3_wholeShare : ByteArray := prog_5_method_8_code
def yX3_wholeShare : MethodName := ⟨RX3, "wholeShare", "(I)J"⟩
abbrev cX3_splitMoments : ByteArray := prog_5_method_9_code
def yX3_splitMoments : MethodName := ⟨RX3, "splitMoments", "(LCranePads$Crane;I)V"⟩
abbrev cX3_addMoment : ByteArray := prog_5_method_10_code
def yX3_addMoment : MethodName := ⟨RX3, "addMoment", "(LCranePads$Pads;IIJJ)V"⟩
abbrev cX3_tipsOver : ByteArray := prog_5_method_11_code
def yX3_tipsOver : MethodName := ⟨RX3, "tipsOver", "(LCranePads$Pads;)Z"⟩
abbrev cX3_isOverLimit : ByteArray := prog_5_method_12_code
def yX3_isOverLimit : MethodName := ⟨RX3, "isOverLimit", "(LCranePads$Pads;)Z"⟩
abbrev cX3_lowestBelowNothing : ByteArray := prog_5_method_13_code
def yX3_lowestBelowNothing : MethodName := ⟨RX3, "lowestBelowNothing", "()I"⟩
abbrev cX3_shareByPlane : ByteArray := prog_5_method_14_code
def yX3_shareByPlane : MethodName := ⟨RX3, "shareByPlane", "(LCranePads$Pads;)V"⟩
abbrev cX3_shareByThree : ByteArray := prog_5_method_15_code
def yX3_shareByThree : MethodName := ⟨RX3, "shareByThree", "(LCranePads$Pads;I)Z"⟩
def RX4 : String := "CranePads$Pads"
def TX4 : u_T := fun k => match k with
  | 0 => ("CranePads$Pads", "x", "[I", true)
  | 1 => ("CranePads$Pads", "y", "[I", true)
  | 2 => ("CranePads$Pads", "limit", "[I", true)
  | 3 => ("CranePads$Pads", "standing", "Z", false)
  | 4 => ("CranePads$Pads", "one", "J", false)
  | 5 => ("CranePads$Pads", "oneX", "J", false)
  | 6 => ("CranePads$Pads", "oneY", "J", false)
  | 7 => ("CranePads$Pads", "xx", "J", false)
  | 8 => ("CranePads$Pads", "xy", "J", false)
  | 9 => ("CranePads$Pads", "yy", "J", false)
  | _ => ("CranePads$Pads", "determinant", "J", false)
def tyX4 : Nat → FieldType := fun k => match k with
  | 0 => .array .int
  | 1 => .array .int
  | 2 => .array .int
  | 3 => .boolean
  | 4 => .long
  | 5 => .long
  | 6 => .long
  | 7 => .long
  | 8 => .long
  | 9 => .long
  | _ => .long
abbrev wsX40 : List Cond := u_ws RX4 TX4 11
theorem nmX4 : ∀ a, a < 11 → ∀ b, b < 11 → a ≠ b → (TX4 a).2.1 ≠ (TX4 b).2.1 := by decide +kernel
theorem tyX4_ok : ∀ k, k < 11 → parseFieldDescriptor (TX4 k).2.2.1 = some (tyX4 k) := by decide +kernel
abbrev cX4_init : ByteArray := prog_6_method_1_code
def yX4_init : MethodName := ⟨RX4, "<init>", "()V"⟩
abbrev cX4_place : ByteArray := prog_6_method_2_code
def yX4_place : MethodName := ⟨RX4, "place", "(IIII)V"⟩
abbrev cX4_placeAs : ByteArray := prog_6_method_3_code
def yX4_placeAs : MethodName := ⟨RX4, "placeAs", "(LCranePads$Pads;)V"⟩
abbrev cX4_span : ByteArray := prog_6_method_4_code
def yX4_span : MethodName := ⟨RX4, "span", "(I)J"⟩
abbrev cX4_measure : ByteArray := prog_6_method_5_code
def yX4_measure : MethodName := ⟨RX4, "measure", "()V"⟩
def RX5 : String := "CranePads$Parts"
def TX5 : u_T := fun k => match k with
  | 0 => ("CranePads$Parts", "mass", "[I", true)
  | 1 => ("CranePads$Parts", "a", "[I", true)
  | 2 => ("CranePads$Parts", "b", "[I", true)
  | 3 => ("CranePads$Parts", "turning", "[Z", true)
  | 4 => ("CranePads$Parts", "size", "I", false)
  | 5 => ("CranePads$Parts", "total", "I", false)
  | 6 => ("CranePads$Parts", "stayA", "I", false)
  | 7 => ("CranePads$Parts", "stayB", "I", false)
  | 8 => ("CranePads$Parts", "turnA", "I", false)
  | _ => ("CranePads$Parts", "turnB", "I", false)
def tyX5 : Nat → FieldType := fun k => match k with
  | 0 => .array .int
  | 1 => .array .int
  | 2 => .array .int
  | 3 => .array .boolean
  | 4 => .int
  | 5 => .int
  | 6 => .int
  | 7 => .int
  | 8 => .int
  | _ => .int
abbrev wsX50 : List Cond := u_ws RX5 TX5 10
theorem nmX5 : ∀ a, a < 10 → ∀ b, b < 10 → a ≠ b → (TX5 a).2.1 ≠ (TX5 b).2.1 := by decide +kernel
theorem tyX5_ok : ∀ k, k < 10 → parseFieldDescriptor (TX5 k).2.2.1 = some (tyX5 k) := by decide +kernel
abbrev cX5_init : ByteArray := prog_7_method_1_code
def yX5_init : MethodName := ⟨RX5, "<init>", "()V"⟩
abbrev cX5_has : ByteArray := prog_7_method_2_code
def yX5_has : MethodName := ⟨RX5, "has", "(I)Z"⟩
abbrev cX5_append : ByteArray := prog_7_method_3_code
def yX5_append : MethodName := ⟨RX5, "append", "(IIIZ)I"⟩
abbrev cX5_reweigh : ByteArray := prog_7_method_4_code
def yX5_reweigh : MethodName := ⟨RX5, "reweigh", "(II)V"⟩
abbrev cX5_weighAs : ByteArray := prog_7_method_5_code
def yX5_weighAs : MethodName := ⟨RX5, "weighAs", "(LCranePads$Parts;)V"⟩
def RX6 : String := "CranePads$Plan"
def TX6 : u_T := fun k => match k with
  | 0 => ("CranePads$Plan", "dial", "[I", true)
  | 1 => ("CranePads$Plan", "goal", "[I", true)
  | _ => ("CranePads$Plan", "size", "I", false)
def tyX6 : Nat → FieldType := fun k => match k with
  | 0 => .array .int
  | 1 => .array .int
  | _ => .int
abbrev wsX60 : List Cond := u_ws RX6 TX6 3
theorem nmX6 : ∀ a, a < 3 → ∀ b, b < 3 → a ≠ b → (TX6 a).2.1 ≠ (TX6 b).2.1 := by decide +kernel
theorem tyX6_ok : ∀ k, k < 3 → parseFieldDescriptor (TX6 k).2.2.1 = some (tyX6 k) := by decide +kernel
abbrev cX6_init : ByteArray := prog_8_method_1_code
def yX6_init : MethodName := ⟨RX6, "<init>", "()V"⟩
abbrev cX6_append : ByteArray := prog_8_method_2_code
def yX6_append : MethodName := ⟨RX6, "append", "(II)V"⟩
abbrev cX6_become : ByteArray := prog_8_method_3_code
def yX6_become : MethodName := ⟨RX6, "become", "(LCranePads$Plan;)V"⟩
abbrev cX6_onlyMoves : ByteArray := prog_8_method_4_code
def yX6_onlyMoves : MethodName := ⟨RX6, "onlyMoves", "()Z"⟩
abbrev cX6_isMove : ByteArray := prog_8_method_5_code
def yX6_isMove : MethodName := ⟨RX6, "isMove", "(I)Z"⟩
abbrev cX6_turnBack : ByteArray := prog_8_method_6_code
def yX6_turnBack : MethodName := ⟨RX6, "turnBack", "(LCranePads$Plan;LCranePads$Crane;)V"⟩
def RX7 : String := "CranePads$Route"
def TX7 : u_T := fun k => match k with
  | 0 => ("CranePads$Route", "lawful", "[I", true)
  | 1 => ("CranePads$Route", "reached", "[I", true)
  | _ => ("CranePads$Route", "grown", "[I", true)
def tyX7 : Nat → FieldType := fun k => match k with
  | 0 => .array .int
  | 1 => .array .int
  | _ => .array .int
abbrev wsX70 : List Cond := u_ws RX7 TX7 3
theorem nmX7 : ∀ a, a < 3 → ∀ b, b < 3 → a ≠ b → (TX7 a).2.1 ≠ (TX7 b).2.1 := by decide +kernel
theorem tyX7_ok : ∀ k, k < 3 → parseFieldDescriptor (TX7 k).2.2.1 = some (tyX7 k) := by decide +kernel
abbrev cX7_init : ByteArray := prog_9_method_1_code
def yX7_init : MethodName := ⟨RX7, "<init>", "()V"⟩
abbrev cX7_begin : ByteArray := prog_9_method_2_code
def yX7_begin : MethodName := ⟨RX7, "begin", "(II)V"⟩
abbrev cX7_movesTo : ByteArray := prog_9_method_3_code
def yX7_movesTo : MethodName := ⟨RX7, "movesTo", "(II)I"⟩
abbrev cX7_spread : ByteArray := prog_9_method_4_code
def yX7_spread : MethodName := ⟨RX7, "spread", "()Z"⟩
def RX8 : String := "CranePads$Rows"
def TX8 : u_T := fun k => match k with
  | 0 => ("CranePads$Rows", "row", "[[J", true)
  | _ => ("CranePads$Rows", "length", "[I", true)
def tyX8 : Nat → FieldType := fun k => match k with
  | 0 => .array (.array .long)
  | _ => .array .int
abbrev wsX80 : List Cond := u_ws RX8 TX8 2
theorem nmX8 : ∀ a, a < 2 → ∀ b, b < 2 → a ≠ b → (TX8 a).2.1 ≠ (TX8 b).2.1 := by decide +kernel
theorem tyX8_ok : ∀ k, k < 2 → parseFieldDescriptor (TX8 k).2.2.1 = some (tyX8 k) := by decide +kernel
abbrev cX8_init : ByteArray := prog_10_method_1_code
def yX8_init : MethodName := ⟨RX8, "<init>", "()V"⟩
abbrev cX8_holds : ByteArray := prog_10_method_2_code
def yX8_holds : MethodName := ⟨RX8, "holds", "(I)Z"⟩
abbrev cX8_hasPlace : ByteArray := prog_10_method_3_code
def yX8_hasPlace : MethodName := ⟨RX8, "hasPlace", "(II)Z"⟩
abbrev cX8_begin : ByteArray := prog_10_method_4_code
def yX8_begin : MethodName := ⟨RX8, "begin", "(II)V"⟩
def RX9 : String := "CranePads$Tape"
def TX9 : u_T := fun k => match k with
  | 0 => ("CranePads$Tape", "bytes", "[B", true)
  | 1 => ("CranePads$Tape", "size", "I", false)
  | _ => ("CranePads$Tape", "at", "I", false)
def tyX9 : Nat → FieldType := fun k => match k with
  | 0 => .array .byte
  | 1 => .int
  | _ => .int
abbrev wsX90 : List Cond := u_ws RX9 TX9 3
theorem nmX9 : ∀ a, a < 3 → ∀ b, b < 3 → a ≠ b → (TX9 a).2.1 ≠ (TX9 b).2.1 := by decide +kernel
theorem tyX9_ok : ∀ k, k < 3 → parseFieldDescriptor (TX9 k).2.2.1 = some (tyX9 k) := by decide +kernel
abbrev cX9_init : ByteArray := prog_11_method_1_code
def yX9_init : MethodName := ⟨RX9, "<init>", "()V"⟩
abbrev cX9_append : ByteArray := prog_11_method_2_code
def yX9_append : MethodName := ⟨RX9, "append", "(I)I"⟩
abbrev cX9_readInto : ByteArray := prog_11_method_3_code
def yX9_readInto : MethodName := ⟨RX9, "readInto", "(LCranePads$Plan;)I"⟩
abbrev cX9_readStep : ByteArray := prog_11_method_4_code
def yX9_readStep : MethodName := ⟨RX9, "readStep", "(LCranePads$Plan;)I"⟩
abbrev cX9_readNumber : ByteArray := prog_11_method_5_code
def yX9_readNumber : MethodName := ⟨RX9, "readNumber", "(LCranePads$Plan;I)I"⟩
abbrev cX9_dialOfWord : ByteArray := prog_11_method_6_code
def yX9_dialOfWord : MethodName := ⟨RX9, "dialOfWord", "(I)I"⟩
abbrev cX9_spells : ByteArray := prog_11_method_7_code
def yX9_spells : MethodName := ⟨RX9, "spells", "(ILjava/lang/String;)Z"⟩
def RX10 : String := "CranePads$Walk"
def TX10 : u_T := fun k => match k with
  | 0 => ("CranePads$Walk", "moments", "I", false)
  | 1 => ("CranePads$Walk", "firstUnlawful", "I", false)
  | 2 => ("CranePads$Walk", "unlawfulStep", "I", false)
  | 3 => ("CranePads$Walk", "reason", "I", false)
  | _ => ("CranePads$Walk", "leastSpare", "I", false)
def tyX10 : Nat → FieldType := fun k => match k with
  | 0 => .int
  | 1 => .int
  | 2 => .int
  | 3 => .int
  | _ => .int
abbrev wsX100 : List Cond := u_ws RX10 TX10 5
theorem nmX10 : ∀ a, a < 5 → ∀ b, b < 5 → a ≠ b → (TX10 a).2.1 ≠ (TX10 b).2.1 := by decide +kernel
theorem tyX10_ok : ∀ k, k < 5 → parseFieldDescriptor (TX10 k).2.2.1 = some (tyX10 k) := by decide +kernel
abbrev cX10_init : ByteArray := prog_12_method_1_code
def yX10_init : MethodName := ⟨RX10, "<init>", "()V"⟩
abbrev cX10_go : ByteArray := prog_12_method_2_code
def yX10_go : MethodName := ⟨RX10, "go", "(LCranePads$Plan;LCranePads$Crane;LCranePads$Judge;)V"⟩
abbrev cX10_meet : ByteArray := prog_12_method_3_code
def yX10_meet : MethodName := ⟨RX10, "meet", "(ILCranePads$Crane;LCranePads$Judge;)V"⟩
def RX11 : String := "CranePads"
def TX11 : u_T := fun k => match k with
  | 0 => ("CranePads", "now", "LCranePads$Crane;", true)
  | 1 => ("CranePads", "kept", "LCranePads$Crane;", true)
  | 2 => ("CranePads", "draft", "LCranePads$Crane;", true)
  | 3 => ("CranePads", "judge", "LCranePads$Judge;", true)
  | 4 => ("CranePads", "route", "LCranePads$Route;", true)
  | 5 => ("CranePads", "tape", "LCranePads$Tape;", true)
  | 6 => ("CranePads", "thePlan", "LCranePads$Plan;", true)
  | 7 => ("CranePads", "otherPlan", "LCranePads$Plan;", true)
  | 8 => ("CranePads", "walk", "LCranePads$Walk;", true)
  | 9 => ("CranePads", "lifts", "LCranePads$Book;", true)
  | 10 => ("CranePads", "rows", "LCranePads$Rows;", true)
  | _ => ("CranePads", "imageTaken", "Z", false)
def tyX11 : Nat → FieldType := fun k => match k with
  | 0 => .object "CranePads$Crane"
  | 1 => .object "CranePads$Crane"
  | 2 => .object "CranePads$Crane"
  | 3 => .object "CranePads$Judge"
  | 4 => .object "CranePads$Route"
  | 5 => .object "CranePads$Tape"
  | 6 => .object "CranePads$Plan"
  | 7 => .object "CranePads$Plan"
  | 8 => .object "CranePads$Walk"
  | 9 => .object "CranePads$Book"
  | 10 => .object "CranePads$Rows"
  | _ => .boolean
abbrev wsX110 : List Cond := u_ws RX11 TX11 12
theorem nmX11 : ∀ a, a < 12 → ∀ b, b < 12 → a ≠ b → (TX11 a).2.1 ≠ (TX11 b).2.1 := by decide +kernel
theorem tyX11_ok : ∀ k, k < 12 → parseFieldDescriptor (TX11 k).2.2.1 = some (tyX11 k) := by decide +kernel
abbrev cX11_init : ByteArray := prog_1_method_1_code
def yX11_init : MethodName := ⟨RX11, "<init>", "()V"⟩
abbrev cX11_pad : ByteArray := prog_1_method_2_code
def yX11_pad : MethodName := ⟨RX11, "pad", "(IIII)I"⟩
abbrev cX11_part : ByteArray := prog_1_method_3_code
def yX11_part : MethodName := ⟨RX11, "part", "(IIIZ)I"⟩
abbrev cX11_mass : ByteArray := prog_1_method_4_code
def yX11_mass : MethodName := ⟨RX11, "mass", "(II)I"⟩
abbrev cX11_put : ByteArray := prog_1_method_5_code
def yX11_put : MethodName := ⟨RX11, "put", "(II)I"⟩
abbrev cX11_told : ByteArray := prog_1_method_6_code
def yX11_told : MethodName := ⟨RX11, "told", "(I)I"⟩
abbrev cX11_padOf : ByteArray := prog_1_method_7_code
def yX11_padOf : MethodName := ⟨RX11, "padOf", "(II)J"⟩
abbrev cX11_entry : ByteArray := prog_1_method_8_code
def yX11_entry : MethodName := ⟨RX11, "entry", "(III)I"⟩
abbrev cX11_read : ByteArray := prog_1_method_9_code
def yX11_read : MethodName := ⟨RX11, "read", "(II)I"⟩
abbrev cX11_allowed : ByteArray := prog_1_method_10_code
def yX11_allowed : MethodName := ⟨RX11, "allowed", "(II)I"⟩
abbrev cX11_weight : ByteArray := prog_1_method_11_code
def yX11_weight : MethodName := ⟨RX11, "weight", "()I"⟩
abbrev cX11_centre : ByteArray := prog_1_method_12_code
def yX11_centre : MethodName := ⟨RX11, "centre", "(II)J"⟩
abbrev cX11_moment : ByteArray := prog_1_method_13_code
def yX11_moment : MethodName := ⟨RX11, "moment", "(II)J"⟩
abbrev cX11_factor : ByteArray := prog_1_method_14_code
def yX11_factor : MethodName := ⟨RX11, "factor", "(II)J"⟩
abbrev cX11_push : ByteArray := prog_1_method_15_code
def yX11_push : MethodName := ⟨RX11, "push", "(II)J"⟩
abbrev cX11_lifted : ByteArray := prog_1_method_16_code
def yX11_lifted : MethodName := ⟨RX11, "lifted", "()I"⟩
abbrev cX11_mat : ByteArray := prog_1_method_17_code
def yX11_mat : MethodName := ⟨RX11, "mat", "(I)I"⟩
abbrev cX11_why : ByteArray := prog_1_method_18_code
def yX11_why : MethodName := ⟨RX11, "why", "()I"⟩
abbrev cX11_most : ByteArray := prog_1_method_19_code
def yX11_most : MethodName := ⟨RX11, "most", "()I"⟩
abbrev cX11_where : ByteArray := prog_1_method_20_code
def yX11_where : MethodName := ⟨RX11, "where", "(I)I"⟩
abbrev cX11_farthest : ByteArray := prog_1_method_21_code
def yX11_farthest : MethodName := ⟨RX11, "farthest", "(I)I"⟩
abbrev cX11_way : ByteArray := prog_1_method_22_code
def yX11_way : MethodName := ⟨RX11, "way", "(II)I"⟩
abbrev cX11_ballast : ByteArray := prog_1_method_23_code
def yX11_ballast : MethodName := ⟨RX11, "ballast", "(I)I"⟩
abbrev cX11_feed : ByteArray := prog_1_method_24_code
def yX11_feed : MethodName := ⟨RX11, "feed", "(I)I"⟩
abbrev cX11_clear : ByteArray := prog_1_method_25_code
def yX11_clear : MethodName := ⟨RX11, "clear", "()I"⟩
abbrev cX11_plan : ByteArray := prog_1_method_26_code
def yX11_plan : MethodName := ⟨RX11, "plan", "()I"⟩
abbrev cX11_checked : ByteArray := prog_1_method_27_code
def yX11_checked : MethodName := ⟨RX11, "checked", "(I)I"⟩
abbrev cX11_spare : ByteArray := prog_1_method_28_code
def yX11_spare : MethodName := ⟨RX11, "spare", "()J"⟩
abbrev cX11_done : ByteArray := prog_1_method_29_code
def yX11_done : MethodName := ⟨RX11, "done", "()I"⟩
abbrev cX11_backward : ByteArray := prog_1_method_30_code
def yX11_backward : MethodName := ⟨RX11, "backward", "()I"⟩
abbrev cX11_seen : ByteArray := prog_1_method_31_code
def yX11_seen : MethodName := ⟨RX11, "seen", "(III)I"⟩
abbrev cX11_lay : ByteArray := prog_1_method_32_code
def yX11_lay : MethodName := ⟨RX11, "lay", "(II)I"⟩
abbrev cX11_book : ByteArray := prog_1_method_33_code
def yX11_book : MethodName := ⟨RX11, "book", "()I"⟩
abbrev cX11_booked : ByteArray := prog_1_method_34_code
def yX11_booked : MethodName := ⟨RX11, "booked", "(II)I"⟩
abbrev cX11_heaviest : ByteArray := prog_1_method_35_code
def yX11_heaviest : MethodName := ⟨RX11, "heaviest", "()I"⟩
abbrev cX11_list : ByteArray := prog_1_method_36_code
def yX11_list : MethodName := ⟨RX11, "list", "(II)I"⟩
abbrev cX11_set : ByteArray := prog_1_method_37_code
def yX11_set : MethodName := ⟨RX11, "set", "(IIJ)I"⟩
abbrev cX11_get : ByteArray := prog_1_method_38_code
def yX11_get : MethodName := ⟨RX11, "get", "(II)J"⟩
abbrev cX11_count : ByteArray := prog_1_method_39_code
def yX11_count : MethodName := ⟨RX11, "count", "(I)I"⟩
abbrev cX11_image : ByteArray := prog_1_method_40_code
def yX11_image : MethodName := ⟨RX11, "image", "()I"⟩
abbrev cX11_undo : ByteArray := prog_1_method_41_code
def yX11_undo : MethodName := ⟨RX11, "undo", "()I"⟩
abbrev cX11_mayBeAsBooked : ByteArray := prog_1_method_42_code
def yX11_mayBeAsBooked : MethodName := ⟨RX11, "mayBeAsBooked", "(I)Z"⟩
abbrev cX11_within : ByteArray := prog_1_method_43_code
def yX11_within : MethodName := ⟨RX11, "within", "(III)Z"⟩
abbrev cX11_isPad : ByteArray := prog_1_method_44_code
def yX11_isPad : MethodName := ⟨RX11, "isPad", "(I)Z"⟩
abbrev cX11_isChart : ByteArray := prog_1_method_45_code
def yX11_isChart : MethodName := ⟨RX11, "isChart", "(I)Z"⟩
abbrev cX11_isList : ByteArray := prog_1_method_46_code
def yX11_isList : MethodName := ⟨RX11, "isList", "(I)Z"⟩
abbrev cX11_isMass : ByteArray := prog_1_method_47_code
def yX11_isMass : MethodName := ⟨RX11, "isMass", "(I)Z"⟩
abbrev cX11_isDial : ByteArray := prog_1_method_48_code
def yX11_isDial : MethodName := ⟨RX11, "isDial", "(I)Z"⟩
abbrev cX11_fitsDial : ByteArray := prog_1_method_49_code
def yX11_fitsDial : MethodName := ⟨RX11, "fitsDial", "(II)Z"⟩
abbrev cX11_isSide : ByteArray := prog_1_method_50_code
def yX11_isSide : MethodName := ⟨RX11, "isSide", "(I)Z"⟩
abbrev cX11_next : ByteArray := prog_1_method_51_code
def yX11_next : MethodName := ⟨RX11, "next", "(I)I"⟩
abbrev cX11_inLowestTerms : ByteArray := prog_1_method_52_code
def yX11_inLowestTerms : MethodName := ⟨RX11, "inLowestTerms", "(JJI)J"⟩
abbrev cX11_commonDivisor : ByteArray := prog_1_method_53_code
def yX11_commonDivisor : MethodName := ⟨RX11, "commonDivisor", "(JJ)J"⟩
def RX12 : String := "CranePadsModel"
def TX12 : u_T := fun k => match k with
  | 0 => ("CranePadsModel", "pad", "[I", true)
  | 1 => ("CranePadsModel", "parts", "I", false)
  | 2 => ("CranePadsModel", "mass", "[I", true)
  | 3 => ("CranePadsModel", "a", "[I", true)
  | 4 => ("CranePadsModel", "b", "[I", true)
  | 5 => ("CranePadsModel", "turns", "[I", true)
  | 6 => ("CranePadsModel", "entries", "[I", true)
  | 7 => ("CranePadsModel", "at", "[I", true)
  | 8 => ("CranePadsModel", "hangs", "[I", true)
  | 9 => ("CranePadsModel", "is", "[I", true)
  | 10 => ("CranePadsModel", "imaged", "[I", true)
  | 11 => ("CranePadsModel", "hasImage", "Z", false)
  | 12 => ("CranePadsModel", "things", "I", false)
  | 13 => ("CranePadsModel", "weighs", "[I", true)
  | 14 => ("CranePadsModel", "atX", "[J", true)
  | 15 => ("CranePadsModel", "atY", "[J", true)
  | 16 => ("CranePadsModel", "push", "[J", true)
  | 17 => ("CranePadsModel", "below", "J", false)
  | 18 => ("CranePadsModel", "lifted", "I", false)
  | 19 => ("CranePadsModel", "far", "[I", true)
  | 20 => ("CranePadsModel", "queue", "[I", true)
  | 21 => ("CranePadsModel", "queued", "I", false)
  | 22 => ("CranePadsModel", "tape", "[I", true)
  | 23 => ("CranePadsModel", "taped", "I", false)
  | 24 => ("CranePadsModel", "steps", "I", false)
  | 25 => ("CranePadsModel", "step", "[I", true)
  | 26 => ("CranePadsModel", "to", "[I", true)
  | 27 => ("CranePadsModel", "readStep", "[I", true)
  | 28 => ("CranePadsModel", "readTo", "[I", true)
  | 29 => ("CranePadsModel", "place", "I", false)
  | 30 => ("CranePadsModel", "moments", "I", false)
  | 31 => ("CranePadsModel", "firstBad", "I", false)
  | 32 => ("CranePadsModel", "badStep", "I", false)
  | 33 => ("CranePadsModel", "badWhy", "I", false)
  | 34 => ("CranePadsModel", "leastSpare", "I", false)
  | 35 => ("CranePadsModel", "isBefore", "[I", true)
  | 36 => ("CranePadsModel", "begunAt", "[I", true)
  | 37 => ("CranePadsModel", "size", "[I", true)
  | 38 => ("CranePadsModel", "cell", "[J", true)
  | 39 => ("CranePadsModel", "lifts", "I", false)
  | _ => ("CranePadsModel", "lift", "[I", true)
def tyX12 : Nat → FieldType := fun k => match k with
  | 0 => .array .int
  | 1 => .int
  | 2 => .array .int
  | 3 => .array .int
  | 4 => .array .int
  | 5 => .array .int
  | 6 => .array .int
  | 7 => .array .int
  | 8 => .array .int
  | 9 => .array .int
  | 10 => .array .int
  | 11 => .boolean
  | 12 => .int
  | 13 => .array .int
  | 14 => .array .long
  | 15 => .array .long
  | 16 => .array .long
  | 17 => .long
  | 18 => .int
  | 19 => .array .int
  | 20 => .array .int
  | 21 => .int
  | 22 => .array .int
  | 23 => .int
  | 24 => .int
  | 25 => .array .int
  | 26 => .array .int
  | 27 => .array .int
  | 28 => .array .int
  | 29 => .int
  | 30 => .int
  | 31 => .int
  | 32 => .int
  | 33 => .int
  | 34 => .int
  | 35 => .array .int
  | 36 => .array .int
  | 37 => .array .int
  | 38 => .array .long
  | 39 => .int
  | _ => .array .int
abbrev wsX120 : List Cond := u_ws RX12 TX12 41
theorem nmX12 : ∀ a, a < 41 → ∀ b, b < 41 → a ≠ b → (TX12 a).2.1 ≠ (TX12 b).2.1 := by decide +kernel
theorem tyX12_ok : ∀ k, k < 41 → parseFieldDescriptor (TX12 k).2.2.1 = some (tyX12 k) := by decide +kernel
abbrev cX12_init : ByteArray := prog_14_method_1_code
def yX12_init : MethodName := ⟨RX12, "<init>", "()V"⟩
abbrev cX12_in : ByteArray := prog_14_method_2_code
def yX12_in : MethodName := ⟨RX12, "in", "(III)Z"⟩
abbrev cX12_divisor : ByteArray := prog_14_method_3_code
def yX12_divisor : MethodName := ⟨RX12, "divisor", "(JJ)J"⟩
abbrev cX12_part : ByteArray := prog_14_method_4_code
def yX12_part : MethodName := ⟨RX12, "part", "(JJI)J"⟩
abbrev cX12_isPart : ByteArray := prog_14_method_5_code
def yX12_isPart : MethodName := ⟨RX12, "isPart", "(I)Z"⟩
abbrev cX12_isPad : ByteArray := prog_14_method_6_code
def yX12_isPad : MethodName := ⟨RX12, "isPad", "(I)Z"⟩
abbrev cX12_x : ByteArray := prog_14_method_7_code
def yX12_x : MethodName := ⟨RX12, "x", "(I)I"⟩
abbrev cX12_y : ByteArray := prog_14_method_8_code
def yX12_y : MethodName := ⟨RX12, "y", "(I)I"⟩
abbrev cX12_stands : ByteArray := prog_14_method_9_code
def yX12_stands : MethodName := ⟨RX12, "stands", "()Z"⟩
abbrev cX12_pad : ByteArray := prog_14_method_10_code
def yX12_pad : MethodName := ⟨RX12, "pad", "(IIII)I"⟩
abbrev cX12_part_ : ByteArray := prog_14_method_11_code
def yX12_part_ : MethodName := ⟨RX12, "part", "(IIIZ)I"⟩
abbrev cX12_isPartOf : ByteArray := prog_14_method_12_code
def yX12_isPartOf : MethodName := ⟨RX12, "isPartOf", "(I)Z"⟩
abbrev cX12_mass : ByteArray := prog_14_method_13_code
def yX12_mass : MethodName := ⟨RX12, "mass", "(II)I"⟩
abbrev cX12_isWhat : ByteArray := prog_14_method_14_code
def yX12_isWhat : MethodName := ⟨RX12, "isWhat", "(I)Z"⟩
abbrev cX12_most : ByteArray := prog_14_method_15_code
def yX12_most : MethodName := ⟨RX12, "most", "(I)I"⟩
abbrev cX12_isFor : ByteArray := prog_14_method_16_code
def yX12_isFor : MethodName := ⟨RX12, "isFor", "(II)Z"⟩
abbrev cX12_put : ByteArray := prog_14_method_17_code
def yX12_put : MethodName := ⟨RX12, "put", "(II)I"⟩
abbrev cX12_told : ByteArray := prog_14_method_18_code
def yX12_told : MethodName := ⟨RX12, "told", "(I)I"⟩
abbrev cX12_padOf : ByteArray := prog_14_method_19_code
def yX12_padOf : MethodName := ⟨RX12, "padOf", "(II)J"⟩
abbrev cX12_isChart : ByteArray := prog_14_method_20_code
def yX12_isChart : MethodName := ⟨RX12, "isChart", "(I)Z"⟩
abbrev cX12_isReach : ByteArray := prog_14_method_21_code
def yX12_isReach : MethodName := ⟨RX12, "isReach", "(I)Z"⟩
abbrev cX12_placeOf : ByteArray := prog_14_method_22_code
def yX12_placeOf : MethodName := ⟨RX12, "placeOf", "(II)I"⟩
abbrev cX12_isThere : ByteArray := prog_14_method_23_code
def yX12_isThere : MethodName := ⟨RX12, "isThere", "(III)Z"⟩
abbrev cX12_goes : ByteArray := prog_14_method_24_code
def yX12_goes : MethodName := ⟨RX12, "goes", "(II)V"⟩
abbrev cX12_comes : ByteArray := prog_14_method_25_code
def yX12_comes : MethodName := ⟨RX12, "comes", "(III)V"⟩
abbrev cX12_entry : ByteArray := prog_14_method_26_code
def yX12_entry : MethodName := ⟨RX12, "entry", "(III)I"⟩
abbrev cX12_readOf : ByteArray := prog_14_method_27_code
def yX12_readOf : MethodName := ⟨RX12, "readOf", "(II)I"⟩
abbrev cX12_read : ByteArray := prog_14_method_28_code
def yX12_read : MethodName := ⟨RX12, "read", "(II)I"⟩
abbrev cX12_allowedAt : ByteArray := prog_14_method_29_code
def yX12_allowedAt : MethodName := ⟨RX12, "allowedAt", "(II)I"⟩
abbrev cX12_isDirection : ByteArray := prog_14_method_30_code
def yX12_isDirection : MethodName := ⟨RX12, "isDirection", "(I)Z"⟩
abbrev cX12_allowed : ByteArray := prog_14_method_31_code
def yX12_allowed : MethodName := ⟨RX12, "allowed", "(II)I"⟩
abbrev cX12_plainCos : ByteArray := prog_14_method_32_code
def yX12_plainCos : MethodName := ⟨RX12, "plainCos", "(I)I"⟩
abbrev cX12_plainSin : ByteArray := prog_14_method_33_code
def yX12_plainSin : MethodName := ⟨RX12, "plainSin", "(I)I"⟩
abbrev cX12_cos : ByteArray := prog_14_method_34_code
def yX12_cos : MethodName := ⟨RX12, "cos", "(I)I"⟩
abbrev cX12_sin : ByteArray := prog_14_method_35_code
def yX12_sin : MethodName := ⟨RX12, "sin", "(I)I"⟩
abbrev cX12_lays : ByteArray := prog_14_method_36_code
def yX12_lays : MethodName := ⟨RX12, "lays", "(IJJ)V"⟩
abbrev cX12_looks : ByteArray := prog_14_method_37_code
def yX12_looks : MethodName := ⟨RX12, "looks", "()V"⟩
abbrev cX12_sum : ByteArray := prog_14_method_38_code
def yX12_sum : MethodName := ⟨RX12, "sum", "(I)J"⟩
abbrev cX12_momentOf : ByteArray := prog_14_method_39_code
def yX12_momentOf : MethodName := ⟨RX12, "momentOf", "(II)J"⟩
abbrev cX12_moments : ByteArray := prog_14_method_40_code
def yX12_moments : MethodName := ⟨RX12, "moments", "(II)J"⟩
abbrev cX12_weight : ByteArray := prog_14_method_41_code
def yX12_weight : MethodName := ⟨RX12, "weight", "()I"⟩
abbrev cX12_centre : ByteArray := prog_14_method_42_code
def yX12_centre : MethodName := ⟨RX12, "centre", "(II)J"⟩
abbrev cX12_moment : ByteArray := prog_14_method_43_code
def yX12_moment : MethodName := ⟨RX12, "moment", "(II)J"⟩
abbrev cX12_factor : ByteArray := prog_14_method_44_code
def yX12_factor : MethodName := ⟨RX12, "factor", "(II)J"⟩
abbrev cX12_tips : ByteArray := prog_14_method_45_code
def yX12_tips : MethodName := ⟨RX12, "tips", "()Z"⟩
abbrev cX12_determinant : ByteArray := prog_14_method_46_code
def yX12_determinant : MethodName := ⟨RX12, "determinant", "(JJJJJJJJJ)J"⟩
abbrev cX12_plane : ByteArray := prog_14_method_47_code
def yX12_plane : MethodName := ⟨RX12, "plane", "(I)V"⟩
abbrev cX12_least : ByteArray := prog_14_method_48_code
def yX12_least : MethodName := ⟨RX12, "least", "()I"⟩
abbrev cX12_pushes : ByteArray := prog_14_method_49_code
def yX12_pushes : MethodName := ⟨RX12, "pushes", "()I"⟩
abbrev cX12_isAboveLimit : ByteArray := prog_14_method_50_code
def yX12_isAboveLimit : MethodName := ⟨RX12, "isAboveLimit", "()Z"⟩
abbrev cX12_spareNow : ByteArray := prog_14_method_51_code
def yX12_spareNow : MethodName := ⟨RX12, "spareNow", "()I"⟩
abbrev cX12_whyNow : ByteArray := prog_14_method_52_code
def yX12_whyNow : MethodName := ⟨RX12, "whyNow", "()I"⟩
abbrev cX12_may : ByteArray := prog_14_method_53_code
def yX12_may : MethodName := ⟨RX12, "may", "()Z"⟩
abbrev cX12_push : ByteArray := prog_14_method_54_code
def yX12_push : MethodName := ⟨RX12, "push", "(II)J"⟩
abbrev cX12_lifted : ByteArray := prog_14_method_55_code
def yX12_lifted : MethodName := ⟨RX12, "lifted", "()I"⟩
abbrev cX12_mat : ByteArray := prog_14_method_56_code
def yX12_mat : MethodName := ⟨RX12, "mat", "(I)I"⟩
abbrev cX12_why : ByteArray := prog_14_method_57_code
def yX12_why : MethodName := ⟨RX12, "why", "()I"⟩
abbrev cX12_most_ : ByteArray := prog_14_method_58_code
def yX12_most_ : MethodName := ⟨RX12, "most", "()I"⟩
abbrev cX12_mayAt : ByteArray := prog_14_method_59_code
def yX12_mayAt : MethodName := ⟨RX12, "mayAt", "(II)Z"⟩
abbrev cX12_where : ByteArray := prog_14_method_60_code
def yX12_where : MethodName := ⟨RX12, "where", "(I)I"⟩
abbrev cX12_farthest : ByteArray := prog_14_method_61_code
def yX12_farthest : MethodName := ⟨RX12, "farthest", "(I)I"⟩
abbrev cX12_comesTo : ByteArray := prog_14_method_62_code
def yX12_comesTo : MethodName := ⟨RX12, "comesTo", "(III)V"⟩
abbrev cX12_way : ByteArray := prog_14_method_63_code
def yX12_way : MethodName := ⟨RX12, "way", "(II)I"⟩
abbrev cX12_ballast : ByteArray := prog_14_method_64_code
def yX12_ballast : MethodName := ⟨RX12, "ballast", "(I)I"⟩
abbrev cX12_feed : ByteArray := prog_14_method_65_code
def yX12_feed : MethodName := ⟨RX12, "feed", "(I)I"⟩
abbrev cX12_clear : ByteArray := prog_14_method_66_code
def yX12_clear : MethodName := ⟨RX12, "clear", "()I"⟩
abbrev cX12_here : ByteArray := prog_14_method_67_code
def yX12_here : MethodName := ⟨RX12, "here", "()I"⟩
abbrev cX12_word : ByteArray := prog_14_method_68_code
def yX12_word : MethodName := ⟨RX12, "word", "(I)Ljava/lang/String;"⟩
abbrev cX12_isWord : ByteArray := prog_14_method_69_code
def yX12_isWord : MethodName := ⟨RX12, "isWord", "(ILjava/lang/String;)Z"⟩
abbrev cX12_whatOf : ByteArray := prog_14_method_70_code
def yX12_whatOf : MethodName := ⟨RX12, "whatOf", "(I)I"⟩
abbrev cX12_readStep : ByteArray := prog_14_method_71_code
def yX12_readStep : MethodName := ⟨RX12, "readStep", "(I)I"⟩
abbrev cX12_reads : ByteArray := prog_14_method_72_code
def yX12_reads : MethodName := ⟨RX12, "reads", "()I"⟩
abbrev cX12_plan : ByteArray := prog_14_method_73_code
def yX12_plan : MethodName := ⟨RX12, "plan", "()I"⟩
abbrev cX12_begins : ByteArray := prog_14_method_74_code
def yX12_begins : MethodName := ⟨RX12, "begins", "()V"⟩
abbrev cX12_looksAt : ByteArray := prog_14_method_75_code
def yX12_looksAt : MethodName := ⟨RX12, "looksAt", "(I)V"⟩
abbrev cX12_slews : ByteArray := prog_14_method_76_code
def yX12_slews : MethodName := ⟨RX12, "slews", "(II)V"⟩
abbrev cX12_reaches : ByteArray := prog_14_method_77_code
def yX12_reaches : MethodName := ⟨RX12, "reaches", "(II)V"⟩
abbrev cX12_goesStep : ByteArray := prog_14_method_78_code
def yX12_goesStep : MethodName := ⟨RX12, "goesStep", "(I)V"⟩
abbrev cX12_remembers : ByteArray := prog_14_method_79_code
def yX12_remembers : MethodName := ⟨RX12, "remembers", "()V"⟩
abbrev cX12_returns : ByteArray := prog_14_method_80_code
def yX12_returns : MethodName := ⟨RX12, "returns", "()V"⟩
abbrev cX12_goesAll : ByteArray := prog_14_method_81_code
def yX12_goesAll : MethodName := ⟨RX12, "goesAll", "()V"⟩
abbrev cX12_checks : ByteArray := prog_14_method_82_code
def yX12_checks : MethodName := ⟨RX12, "checks", "()V"⟩
abbrev cX12_checked : ByteArray := prog_14_method_83_code
def yX12_checked : MethodName := ⟨RX12, "checked", "(I)I"⟩
abbrev cX12_spare : ByteArray := prog_14_method_84_code
def yX12_spare : MethodName := ⟨RX12, "spare", "()J"⟩
abbrev cX12_done : ByteArray := prog_14_method_85_code
def yX12_done : MethodName := ⟨RX12, "done", "()I"⟩
abbrev cX12_backward : ByteArray := prog_14_method_86_code
def yX12_backward : MethodName := ⟨RX12, "backward", "()I"⟩
abbrev cX12_isList : ByteArray := prog_14_method_87_code
def yX12_isList : MethodName := ⟨RX12, "isList", "(I)Z"⟩
abbrev cX12_isSeen : ByteArray := prog_14_method_88_code
def yX12_isSeen : MethodName := ⟨RX12, "isSeen", "(I)Z"⟩
abbrev cX12_seen : ByteArray := prog_14_method_89_code
def yX12_seen : MethodName := ⟨RX12, "seen", "(III)I"⟩
abbrev cX12_lay : ByteArray := prog_14_method_90_code
def yX12_lay : MethodName := ⟨RX12, "lay", "(II)I"⟩
abbrev cX12_list : ByteArray := prog_14_method_91_code
def yX12_list : MethodName := ⟨RX12, "list", "(II)I"⟩
abbrev cX12_set : ByteArray := prog_14_method_92_code
def yX12_set : MethodName := ⟨RX12, "set", "(IIJ)I"⟩
abbrev cX12_get : ByteArray := prog_14_method_93_code
def yX12_get : MethodName := ⟨RX12, "get", "(II)J"⟩
abbrev cX12_book : ByteArray := prog_14_method_94_code
def yX12_book : MethodName := ⟨RX12, "book", "()I"⟩
abbrev cX12_mayLift : ByteArray := prog_14_method_95_code
def yX12_mayLift : MethodName := ⟨RX12, "mayLift", "(I)Z"⟩
abbrev cX12_booked : ByteArray := prog_14_method_96_code
def yX12_booked : MethodName := ⟨RX12, "booked", "(II)I"⟩
abbrev cX12_heaviest : ByteArray := prog_14_method_97_code
def yX12_heaviest : MethodName := ⟨RX12, "heaviest", "()I"⟩
abbrev cX12_count : ByteArray := prog_14_method_98_code
def yX12_count : MethodName := ⟨RX12, "count", "(I)I"⟩
abbrev cX12_image : ByteArray := prog_14_method_99_code
def yX12_image : MethodName := ⟨RX12, "image", "()I"⟩
abbrev cX12_undo : ByteArray := prog_14_method_100_code
def yX12_undo : MethodName := ⟨RX12, "undo", "()I"⟩
def RJx145de : String := "java/io/Serializable"
def TJx145de : u_T := fun k => match k with
  | _ => ("", "", "", false)
def tyJx145de : Nat → FieldType := fun k => match k with
  | _ => .int
abbrev wsJx145de0 : List Cond := u_ws RJx145de TJx145de 0
theorem nmJx145de : ∀ a, a < 0 → ∀ b, b < 0 → a ≠ b → (TJx145de a).2.1 ≠ (TJx145de b).2.1 := by decide +kernel
theorem tyJx145de_ok : ∀ k, k < 0 → parseFieldDescriptor (TJx145de k).2.2.1 = some (tyJx145de k) := by decide +kernel
def RJx9f9b0 : String := "java/lang/CharSequence"
def TJx9f9b0 : u_T := fun k => match k with
  | _ => ("", "", "", false)
def tyJx9f9b0 : Nat → FieldType := fun k => match k with
  | _ => .int
abbrev wsJx9f9b00 : List Cond := u_ws RJx9f9b0 TJx9f9b0 0
theorem nmJx9f9b0 : ∀ a, a < 0 → ∀ b, b < 0 → a ≠ b → (TJx9f9b0 a).2.1 ≠ (TJx9f9b0 b).2.1 := by decide +kernel
theorem tyJx9f9b0_ok : ∀ k, k < 0 → parseFieldDescriptor (TJx9f9b0 k).2.2.1 = some (tyJx9f9b0 k) := by decide +kernel
def RJx8e188 : String := "java/lang/Cloneable"
def TJx8e188 : u_T := fun k => match k with
  | _ => ("", "", "", false)
def tyJx8e188 : Nat → FieldType := fun k => match k with
  | _ => .int
abbrev wsJx8e1880 : List Cond := u_ws RJx8e188 TJx8e188 0
theorem nmJx8e188 : ∀ a, a < 0 → ∀ b, b < 0 → a ≠ b → (TJx8e188 a).2.1 ≠ (TJx8e188 b).2.1 := by decide +kernel
theorem tyJx8e188_ok : ∀ k, k < 0 → parseFieldDescriptor (TJx8e188 k).2.2.1 = some (tyJx8e188 k) := by decide +kernel
def RJxb160c : String := "java/lang/Comparable"
def TJxb160c : u_T := fun k => match k with
  | _ => ("", "", "", false)
def tyJxb160c : Nat → FieldType := fun k => match k with
  | _ => .int
abbrev wsJxb160c0 : List Cond := u_ws RJxb160c TJxb160c 0
theorem nmJxb160c : ∀ a, a < 0 → ∀ b, b < 0 → a ≠ b → (TJxb160c a).2.1 ≠ (TJxb160c b).2.1 := by decide +kernel
theorem tyJxb160c_ok : ∀ k, k < 0 → parseFieldDescriptor (TJxb160c k).2.2.1 = some (tyJxb160c k) := by decide +kernel
def RJ9 : String := "java/lang/Math"
def TJ9 : u_T := fun k => match k with
  | _ => ("", "", "", false)
def tyJ9 : Nat → FieldType := fun k => match k with
  | _ => .int
abbrev wsJ90 : List Cond := u_ws RJ9 TJ9 0
theorem nmJ9 : ∀ a, a < 0 → ∀ b, b < 0 → a ≠ b → (TJ9 a).2.1 ≠ (TJ9 b).2.1 := by decide +kernel
theorem tyJ9_ok : ∀ k, k < 0 → parseFieldDescriptor (TJ9 k).2.2.1 = some (tyJ9 k) := by decide +kernel
abbrev cJ9_floorMod_7cf53 : ByteArray := prog_16_method_50_code
def yJ9_floorMod_7cf53 : MethodName := ⟨RJ9, "floorMod", "(II)I"⟩
abbrev cJ9_abs_067f4 : ByteArray := prog_16_method_61_code
def yJ9_abs_067f4 : MethodName := ⟨RJ9, "abs", "(J)J"⟩
abbrev cJ9_max_7cf53 : ByteArray := prog_16_method_65_code
def yJ9_max_7cf53 : MethodName := ⟨RJ9, "max", "(II)I"⟩
abbrev cJ9_min_7cf53 : ByteArray := prog_16_method_69_code
def yJ9_min_7cf53 : MethodName := ⟨RJ9, "min", "(II)I"⟩
def RJ0 : String := "java/lang/String"
def TJ0 : u_T := fun k => match k with
  | _ => ("", "", "", false)
def tyJ0 : Nat → FieldType := fun k => match k with
  | _ => .int
abbrev wsJ00 : List Cond := u_ws RJ0 TJ0 0
theorem nmJ0 : ∀ a, a < 0 → ∀ b, b < 0 → a ≠ b → (TJ0 a).2.1 ≠ (TJ0 b).2.1 := by decide +kernel
theorem tyJ0_ok : ∀ k, k < 0 → parseFieldDescriptor (TJ0 k).2.2.1 = some (tyJ0 k) := by decide +kernel
abbrev cJ0_length_8abf5 : ByteArray := prog_17_method_54_code
def yJ0_length_8abf5 : MethodName := ⟨RJ0, "length", "()I"⟩
abbrev cJ0_charAt_5068e : ByteArray := prog_17_method_56_code
def yJ0_charAt_5068e : MethodName := ⟨RJ0, "charAt", "(I)C"⟩
abbrev cJ0_coder_7d493 : ByteArray := prog_17_method_152_code
def yJ0_coder_7d493 : MethodName := ⟨RJ0, "coder", "()B"⟩
abbrev cJ0_isLatin1_aae02 : ByteArray := prog_17_method_154_code
def yJ0_isLatin1_aae02 : MethodName := ⟨RJ0, "isLatin1", "()Z"⟩
abbrev cJ0_checkIndex_df160 : ByteArray := prog_17_method_155_code
def yJ0_checkIndex_df160 : MethodName := ⟨RJ0, "checkIndex", "(II)V"⟩
def RJ1 : String := "java/lang/StringLatin1"
def TJ1 : u_T := fun k => match k with
  | _ => ("", "", "", false)
def tyJ1 : Nat → FieldType := fun k => match k with
  | _ => .int
abbrev wsJ10 : List Cond := u_ws RJ1 TJ1 0
theorem nmJ1 : ∀ a, a < 0 → ∀ b, b < 0 → a ≠ b → (TJ1 a).2.1 ≠ (TJ1 b).2.1 := by decide +kernel
theorem tyJ1_ok : ∀ k, k < 0 → parseFieldDescriptor (TJ1 k).2.2.1 = some (tyJ1 k) := by decide +kernel
abbrev cJ1_charAt_3b067 : ByteArray := prog_18_method_2_code
def yJ1_charAt_3b067 : MethodName := ⟨RJ1, "charAt", "([BI)C"⟩
def RJ2 : String := "java/lang/StringUTF16"
def TJ2 : u_T := fun k => match k with
  | _ => ("", "", "", false)
def tyJ2 : Nat → FieldType := fun k => match k with
  | _ => .int
abbrev wsJ20 : List Cond := u_ws RJ2 TJ2 0
theorem nmJ2 : ∀ a, a < 0 → ∀ b, b < 0 → a ≠ b → (TJ2 a).2.1 ≠ (TJ2 b).2.1 := by decide +kernel
theorem tyJ2_ok : ∀ k, k < 0 → parseFieldDescriptor (TJ2 k).2.2.1 = some (tyJ2 k) := by decide +kernel
abbrev cJ2_getChar_3b067 : ByteArray := prog_19_method_5_code
def yJ2_getChar_3b067 : MethodName := ⟨RJ2, "getChar", "([BI)C"⟩
abbrev cJ2_length_9d52b : ByteArray := prog_19_method_6_code
def yJ2_length_9d52b : MethodName := ⟨RJ2, "length", "([B)I"⟩
abbrev cJ2_charAt_3b067 : ByteArray := prog_19_method_83_code
def yJ2_charAt_3b067 : MethodName := ⟨RJ2, "charAt", "([BI)C"⟩
abbrev cJ2_checkIndex_2214a : ByteArray := prog_19_method_91_code
def yJ2_checkIndex_2214a : MethodName := ⟨RJ2, "checkIndex", "(I[B)V"⟩
def RJ10 : String := "java/lang/System"
def TJ10 : u_T := fun k => match k with
  | _ => ("", "", "", false)
def tyJ10 : Nat → FieldType := fun k => match k with
  | _ => .int
abbrev wsJ100 : List Cond := u_ws RJ10 TJ10 0
theorem nmJ10 : ∀ a, a < 0 → ∀ b, b < 0 → a ≠ b → (TJ10 a).2.1 ≠ (TJ10 b).2.1 := by decide +kernel
theorem tyJ10_ok : ∀ k, k < 0 → parseFieldDescriptor (TJ10 k).2.2.1 = some (tyJ10 k) := by decide +kernel
def RJxfd54e : String := "java/lang/constant/Constable"
def TJxfd54e : u_T := fun k => match k with
  | _ => ("", "", "", false)
def tyJxfd54e : Nat → FieldType := fun k => match k with
  | _ => .int
abbrev wsJxfd54e0 : List Cond := u_ws RJxfd54e TJxfd54e 0
theorem nmJxfd54e : ∀ a, a < 0 → ∀ b, b < 0 → a ≠ b → (TJxfd54e a).2.1 ≠ (TJxfd54e b).2.1 := by decide +kernel
theorem tyJxfd54e_ok : ∀ k, k < 0 → parseFieldDescriptor (TJxfd54e k).2.2.1 = some (tyJxfd54e k) := by decide +kernel
def RJx3cf43 : String := "java/lang/constant/ConstantDesc"
def TJx3cf43 : u_T := fun k => match k with
  | _ => ("", "", "", false)
def tyJx3cf43 : Nat → FieldType := fun k => match k with
  | _ => .int
abbrev wsJx3cf430 : List Cond := u_ws RJx3cf43 TJx3cf43 0
theorem nmJx3cf43 : ∀ a, a < 0 → ∀ b, b < 0 → a ≠ b → (TJx3cf43 a).2.1 ≠ (TJx3cf43 b).2.1 := by decide +kernel
theorem tyJx3cf43_ok : ∀ k, k < 0 → parseFieldDescriptor (TJx3cf43 k).2.2.1 = some (tyJx3cf43 k) := by decide +kernel
def RJ7 : String := "java/util/Arrays"
def TJ7 : u_T := fun k => match k with
  | _ => ("", "", "", false)
def tyJ7 : Nat → FieldType := fun k => match k with
  | _ => .int
abbrev wsJ70 : List Cond := u_ws RJ7 TJ7 0
theorem nmJ7 : ∀ a, a < 0 → ∀ b, b < 0 → a ≠ b → (TJ7 a).2.1 ≠ (TJ7 b).2.1 := by decide +kernel
theorem tyJ7_ok : ∀ k, k < 0 → parseFieldDescriptor (TJ7 k).2.2.1 = some (tyJ7 k) := by decide +kernel
abbrev cJ7_fill_d0a16 : ByteArray := prog_21_method_101_code
def yJ7_fill_d0a16 : MethodName := ⟨RJ7, "fill", "([JJ)V"⟩
abbrev cJ7_fill_53178 : ByteArray := prog_21_method_103_code
def yJ7_fill_53178 : MethodName := ⟨RJ7, "fill", "([II)V"⟩
def RJ3 : String := "jdk/internal/util/Preconditions"
def TJ3 : u_T := fun k => match k with
  | _ => ("", "", "", false)
def tyJ3 : Nat → FieldType := fun k => match k with
  | _ => .int
abbrev wsJ30 : List Cond := u_ws RJ3 TJ3 0
theorem nmJ3 : ∀ a, a < 0 → ∀ b, b < 0 → a ≠ b → (TJ3 a).2.1 ≠ (TJ3 b).2.1 := by decide +kernel
theorem tyJ3_ok : ∀ k, k < 0 → parseFieldDescriptor (TJ3 k).2.2.1 = some (tyJ3 k) := by decide +kernel
abbrev cJ3_checkIndex_8e157 : ByteArray := prog_22_method_11_code
def yJ3_checkIndex_8e157 : MethodName := ⟨RJ3, "checkIndex", "(IILjava/util/function/BiFunction;)I"⟩
def RL : String := "CranePadsLaw"
abbrev cL_law : ByteArray := code
def yL_law : MethodName := ⟨RL, "law", "([I)Z"⟩
abbrev vwCl : List vw_C := [(RX0, TX0, 4), (RX1, TX1, 2), (RX2, TX2, 4), (RX3, TX3, 8), (RX4, TX4, 11), (RX5, TX5, 10), (RX6, TX6, 3), (RX7, TX7, 3), (RX8, TX8, 2), (RX9, TX9, 3), (RX10, TX10, 5), (RX11, TX11, 12), (RX12, TX12, 41)]
end
section
/-! ===== the words that every method carries: all good words of the tables ===== -/
def GG : List Cond := lw_tbl.filter goodWord
theorem gg_mem (i : Nat) {w : Cond} (h : lw_tbl[i]? = some w) (hg : goodWord w = true) : w ∈ GG := List.mem_filter.mpr ⟨List.mem_of_getElem? h, hg⟩
theorem gg_good : ∀ w ∈ GG, (w.onTables && w.keeps) = true ∨ ∃ ty, w = .arrayClass ty := fun w h => good_of_word (List.mem_filter.mp h).2
theorem gg_tbl : ∀ w ∈ GG, w ∈ lw_tbl := fun _ h => (List.mem_filter.mp h).1
theorem gg_call {w : Cond} (hw : w ∈ GG) : GoodIn GG (w :: GG) := fun v hv => (List.mem_cons.mp hv).elim (fun e => by rw [e]; exact ⟨hw, gg_good _ hw⟩) (fun h => ⟨h, gg_good _ h⟩)
theorem gg_ps {ws : List Cond} (ps : List Nat) (hp : ws = ps.filterMap (fun i => lw_tbl[i]?)) (hg : ws.all goodWord = true) : ∀ w ∈ ws, w ∈ GG := by
  intro w hw
  have h1 := List.all_eq_true.mp hg w hw
  rw [hp] at hw
  obtain ⟨i, -, hi⟩ := List.mem_filterMap.mp hw
  exact gg_mem i hi h1
/-! ===== binds ===== -/
theorem bd_some {α β : Type} {x : Option α} {K : α → Option β} {y : β} (h : x.bind K = some y) : ∃ v, x = some v ∧ K v = some y := by
  cases x with
  | none => cases h
  | some v => exact ⟨v, rfl, h⟩
theorem lc_eq {x y : Int64} : lg_cmp x y = 0 ↔ x = y := by
  unfold lg_cmp
  by_cases h1 : x > y
  · rw [if_pos h1]
    exact ⟨fun h => absurd h (by decide), fun h => by subst h; exact absurd h1 Int64.lt_irrefl⟩
  · rw [if_neg h1]
    by_cases h2 : x = y
    · rw [if_pos h2]; exact ⟨fun _ => h2, fun _ => rfl⟩
    · rw [if_neg h2]; exact ⟨fun h => absurd h (by decide), fun h => absurd h h2⟩
theorem lc_tri (x y : Int64) : x < y ∨ x = y ∨ y < x := by
  have h := Int.lt_trichotomy x.toInt y.toInt
  rcases h with h | h | h
  · exact Or.inl (Int64.lt_iff_toInt_lt.mpr h)
  · exact Or.inr (Or.inl (Int64.toInt_inj.mp h))
  · exact Or.inr (Or.inr (Int64.lt_iff_toInt_lt.mpr h))
theorem lc_lt {x y : Int64} : lg_cmp x y < 0 ↔ x < y := by
  unfold lg_cmp
  rcases lc_tri x y with h | h | h
  · have h1 : ¬ x > y := fun z => absurd (Int64.lt_iff_toInt_lt.mp z) (by have := Int64.lt_iff_toInt_lt.mp h; omega)
    have h2 : ¬ x = y := fun z => by subst z; exact absurd h Int64.lt_irrefl
    rw [if_neg h1, if_neg h2]; exact ⟨fun _ => h, fun _ => by decide⟩
  · subst h
    rw [if_neg Int64.lt_irrefl, if_pos rfl]; exact ⟨fun h => absurd h (by decide), fun h => absurd h Int64.lt_irrefl⟩
  · have h1 : x > y := h
    rw [if_pos h1]; exact ⟨fun h => absurd h (by decide), fun z => absurd (Int64.lt_iff_toInt_lt.mp z) (by have := Int64.lt_iff_toInt_lt.mp h; omega)⟩
theorem lc_gt {x y : Int64} : 0 < lg_cmp x y ↔ y < x := by
  unfold lg_cmp
  by_cases h1 : x > y
  · rw [if_pos h1]; exact ⟨fun _ => h1, fun _ => by decide⟩
  · rw [if_neg h1]
    by_cases h2 : x = y
    · rw [if_pos h2]; exact ⟨fun h => absurd h (by decide), fun h => absurd h h1⟩
    · rw [if_neg h2]; exact ⟨fun h => absurd h (by decide), fun h => absurd h h1⟩
theorem lc_nlt {x y : Int64} : ¬ x < y ↔ y ≤ x := Int64.not_lt
theorem lc_ge {x y : Int64} : 0 ≤ lg_cmp x y ↔ y ≤ x := by
  rw [← lc_nlt, ← lc_lt]; exact Int32.not_lt.symm
theorem lc_le {x y : Int64} : lg_cmp x y ≤ 0 ↔ x ≤ y := by
  rw [← lc_nlt, ← lc_gt]; exact Int32.not_lt.symm
def o_idiv (x y : Int32) : Option Int32 := if y = 0 then none else some (x / y)
def o_irem (x y : Int32) : Option Int32 := if y = 0 then none else some (x - x / y * y)
def o_ldiv (x y : Int64) : Option Int64 := if y = 0 then none else some (x / y)
def o_lrem (x y : Int64) : Option Int64 := if y = 0 then none else some (x - x / y * y)
/-! ===== loops: a body over its own continuation, with fuel ===== -/
def lpN {σ ρ : Type} (body : (σ → Option ρ) → σ → Option ρ) : Nat → σ → Option ρ
  | 0, _ => none
  | n + 1, x => body (lpN body n) x
theorem lpN_sound {σ ρ : Type} {body : (σ → Option ρ) → σ → Option ρ} {X : ρ} (P : σ → Prop) (hb : ∀ self, (∀ x, self x = some X → P x) → ∀ x, body self x = some X → P x) : ∀ n x, lpN body n x = some X → P x
  | 0, _, h => by cases h
  | n + 1, x, h => hb (lpN body n) (lpN_sound P hb n) x h
theorem lpN_succ {σ ρ : Type} (body : (σ → Option ρ) → σ → Option ρ) (n : Nat) (x : σ) : lpN body (n + 1) x = body (lpN body n) x := rfl
def fu : Nat := 5000
/-! ===== classes ===== -/
def tyf (ci : Nat) : Nat → FieldType := match ci with
  | 0 => tyX0 | 1 => tyX1 | 2 => tyX2 | 3 => tyX3 | 4 => tyX4 | 5 => tyX5 | 6 => tyX6 | 7 => tyX7 | 8 => tyX8 | 9 => tyX9 | 10 => tyX10 | 11 => tyX11 | _ => tyX12
def nf (ci : Nat) : Nat := match ci with
  | 0 => 4 | 1 => 2 | 2 => 4 | 3 => 8 | 4 => 11 | 5 => 10 | 6 => 3 | 7 => 3 | 8 => 2 | 9 => 3 | 10 => 5 | 11 => 12 | _ => 41
/-- what is known of class ci -/
def CP (ci : Nat) (C : String) (T : u_T) (N : Nat) : Prop := vwCl[ci]? = some (C, T, N) ∧ nf ci = N ∧ (∀ w ∈ u_ws C T N, w ∈ GG) ∧ (∀ k, k < N → parseFieldDescriptor (T k).2.2.1 = some (tyf ci k)) ∧ ∀ a, a < N → ∀ b, b < N → a ≠ b → (T a).2.1 ≠ (T b).2.1
/-- a field's link: own class, pool index, class and field -/
def FL (own : String) (idx ci j : Nat) : Prop := ∃ C T N, CP ci C T N ∧ j < N ∧ Cond.fieldLink own idx C (T j).2.1 (T j).2.2.1 ∈ GG ∧ (T j).1 = C
/-- one that may be written -/
def FW (own : String) (idx ci j : Nat) : Prop := ∃ C T N, CP ci C T N ∧ j < N ∧ Cond.fieldLink own idx C (T j).2.1 (T j).2.2.1 ∈ GG ∧ (T j).1 = C ∧ (T j).2.2.2 = false
theorem FW.l {own : String} {idx ci j : Nat} (h : FW own idx ci j) : FL own idx ci j := by
  obtain ⟨C, T, N, h1, h2, h3, h4, -⟩ := h
  exact ⟨C, T, N, h1, h2, h3, h4⟩
def kI (t : FieldType) : Bool := match t with
  | .int => true | .boolean => true | .byte => true | .short => true | .char => true | _ => false
def kR (t : FieldType) : Bool := match t with
  | .object _ => true | .array _ => true | _ => false
/-! ===== the pure state ===== -/
abbrev Mem : Type := (Nat → Nat → Int32) × (Nat → Nat → Int64)
abbrev Shp : Type := (Nat × (Nat → Option Nat)) ⊕ (FieldType × Nat × (Nat → Option Nat))
abbrev SH : Type := Nat × (Nat → Shp)
/-- classes and slots; array classes; base; static arrays; String constants and their bytes -/
abbrev GE : Type := va_G × (FieldType → ClassId) × Nat × (Nat → Nat) × (Nat → Nat) × (Nat → Nat)
def gD (γ : GE) : va_G := γ.1
def gA (γ : GE) : FieldType → ClassId := γ.2.1
def gb (γ : GE) : Nat := γ.2.2.1
def gs (γ : GE) : Nat → Nat := γ.2.2.2.1
def gK (γ : GE) : Nat → Nat := γ.2.2.2.2.1
def gV (γ : GE) : Nat → Nat := γ.2.2.2.2.2
def AA (γ : GE) : Nat → Prop := fun q => gb γ ≤ q
def upI (μ : Mem) (o j : Nat) (v : Int32) : Mem := (fun k i => if k = o ∧ i = j then v else μ.1 k i, μ.2)
def upL (μ : Mem) (o j : Nat) (v : Int64) : Mem := (μ.1, fun k i => if k = o ∧ i = j then v else μ.2 k i)
def inb (i : Int32) (n : Nat) : Bool := !decide (i < 0) && decide (i.toNatClampNeg < n)
theorem inb_in {i : Int32} {n : Nat} (h : inb i n = true) : vp_in i n := by
  simp only [inb, Bool.and_eq_true, Bool.not_eq_true', decide_eq_false_iff_not, decide_eq_true_eq] at h
  rintro (q | q)
  · exact h.1 q
  · omega
/-- is there an object of class ci at o -/
def isO (S : SH) (ci o : Nat) : Bool := match S.2 o with
  | .inl (c, _) => decide (c = ci) && decide (o < S.1)
  | _ => false
/-- is there an array of ty at o, and its length -/
def isA (S : SH) (ty : FieldType) (o : Nat) : Option Nat := match S.2 o with
  | .inr (t, n, _) => if t = ty ∧ o < S.1 then some n else none
  | _ => none
def gR (S : SH) (ci o j : Nat) : Option Nat := match S.2 o with
  | .inl (c, rs) => if c = ci ∧ o < S.1 then rs j else none
  | _ => none
def gI (S : SH) (ci o j : Nat) (μ : Mem) : Option Int32 := if isO S ci o = true then some (μ.1 o j) else none
def gL (S : SH) (ci o j : Nat) (μ : Mem) : Option Int64 := if isO S ci o = true then some (μ.2 o j) else none
def pI (S : SH) (ci o j : Nat) (v : Int32) (μ : Mem) : Option Mem := if isO S ci o = true then some (upI μ o j v) else none
def pZ (S : SH) (ci o j : Nat) (v : Int32) (μ : Mem) : Option Mem := if isO S ci o = true ∧ (v = 0 ∨ v = 1) then some (upI μ o j v) else none
def pL (S : SH) (ci o j : Nat) (v : Int64) (μ : Mem) : Option Mem := if isO S ci o = true then some (upL μ o j v) else none
def aI (S : SH) (ty : FieldType) (o : Nat) (i : Int32) (μ : Mem) : Option Int32 := (isA S ty o).bind fun n => if inb i n = true then some (μ.1 o i.toNatClampNeg) else none
def aL (S : SH) (o : Nat) (i : Int32) (μ : Mem) : Option Int64 := (isA S .long o).bind fun n => if inb i n = true then some (μ.2 o i.toNatClampNeg) else none
def sI (S : SH) (o : Nat) (i v : Int32) (μ : Mem) : Option Mem := (isA S .int o).bind fun n => if inb i n = true then some (upI μ o i.toNatClampNeg v) else none
def sB (S : SH) (o : Nat) (i v : Int32) (μ : Mem) : Option Mem := (isA S .byte o).bind fun n => if inb i n = true then some (upI μ o i.toNatClampNeg (vp_nar .byte v)) else none
def sZ (S : SH) (o : Nat) (i v : Int32) (μ : Mem) : Option Mem := (isA S .boolean o).bind fun n => if inb i n = true then some (upI μ o i.toNatClampNeg (vp_nar .boolean v)) else none
def sL (S : SH) (o : Nat) (i : Int32) (v : Int64) (μ : Mem) : Option Mem := (isA S .long o).bind fun n => if inb i n = true then some (upL μ o i.toNatClampNeg v) else none
def aR (S : SH) (ty : FieldType) (o : Nat) (i : Int32) : Option Nat := match S.2 o with
  | .inr (t, n, rs) => if t = ty ∧ o < S.1 ∧ inb i n = true then rs i.toNatClampNeg else none
  | _ => none
def aN (S : SH) (ty : FieldType) (o : Nat) : Option Int32 := (isA S ty o).map Int32.ofNat
/-- n ints from place i of o on are laid into o2 from place j on -/
def cpI (S : SH) (ty : FieldType) (o : Nat) (i : Int32) (o2 : Nat) (j n : Int32) (μ : Mem) : Option Mem := (isA S ty o).bind fun n0 => (isA S ty o2).bind fun n1 =>
  if ¬ i < 0 ∧ ¬ j < 0 ∧ ¬ n < 0 ∧ i.toNatClampNeg + n.toNatClampNeg ≤ n0 ∧ j.toNatClampNeg + n.toNatClampNeg ≤ n1 then some (fun k q => if k = o2 then va_cpy (μ.1 o) (μ.1 o2) i.toNatClampNeg j.toNatClampNeg n.toNatClampNeg q else μ.1 k q, μ.2) else none
/-! static arrays -/
def stN (i : Nat) : String := match i with
  | 0 => "FIRST_OF_DIAL" | 1 => "LEAST_OF_DIAL" | 2 => "MOST_OF_DIAL" | 3 => "ALONG_X" | _ => "ALONG_Y"
def stT (i : Nat) : List Int32 := match i with
  | 0 => [0, 5, 0, 0, 50, 0, 0, 0, 0, 0, 100, 100, 100, 100]
  | 1 => [0, 0, 0, 0, 1, 0, 0, 0, 0, 0, 0, 0, 0, 0]
  | 2 => [19, 60, 999, 9999, 999, 2, 9, 2, 0, 0, 100, 100, 100, 100]
  | 3 => [65, 60, 52, 39, 25, 0, -25, -39, -52, -60, -65, -60, -52, -39, -25, 0, 25, 39, 52, 60]
  | _ => [0, 25, 39, 52, 60, 65, 60, 52, 39, 25, 0, -25, -39, -52, -60, -65, -60, -52, -39, -25]
def aT (t : Nat) (i : Int32) : Option Int32 := if inb i (stT t).length = true then some ((stT t).getD i.toNatClampNeg 0) else none
/-! String constants: place i -/
def ksO (i : Nat) : String := if i < 5 then "CranePads$Tape" else "CranePadsModel"
def ksI (i : Nat) : Nat := match i with
  | 0 => 29 | 1 => 57 | 2 => 59 | 3 => 61 | 4 => 63 | 5 => 262 | 6 => 264 | 7 => 266 | 8 => 268 | _ => 270
def ksT (i : Nat) : String := match i with
  | 0 => "set" | 1 => "take" | 2 => "slew" | 3 => "reach" | 4 => "wind" | 5 => "take" | 6 => "slew" | 7 => "reach" | 8 => "set" | _ => "wind"
def ksB (i : Nat) : List Int32 := match i with
  | 0 => [115, 101, 116] | 1 => [116, 97, 107, 101] | 2 => [115, 108, 101, 119] | 3 => [114, 101, 97, 99, 104] | 4 => [119, 105, 110, 100]
  | 5 => [116, 97, 107, 101] | 6 => [115, 108, 101, 119] | 7 => [114, 101, 97, 99, 104] | 8 => [115, 101, 116] | _ => [119, 105, 110, 100]
/-- of a String constant: length and the char at a place -/
def tLen (i : Nat) : Option Int32 := if i < 10 then some (Int32.ofNat (ksB i).length) else none
def tAt (i : Nat) (k : Int32) : Option Int32 := if i < 10 ∧ inb k (ksB i).length = true then some ((ksB i).getD k.toNatClampNeg 0) else none
/-! ===== what is known of the machine's tables and of what nobody writes ===== -/
def tysG (γ : GE) : List (ClassId × FieldType) := [(gA γ .int, .int), (gA γ .long, .long), (gA γ .byte, .byte), (gA γ .boolean, .boolean), (gA γ (.object "CranePads$Chart"), .object "CranePads$Chart"), (gA γ (.array .long), .array .long)]
def nestF : List Cond := [(Jvm.Cond.fieldLinkNest "CranePads$Crane" (32 : Nat) "CranePads" "FIRST_OF_DIAL" "[I" "CranePads"), (Jvm.Cond.fieldLinkNest "CranePads$Judge" (73 : Nat) "CranePads" "ALONG_X" "[I" "CranePads"), (Jvm.Cond.fieldLinkNest "CranePads$Judge" (76 : Nat) "CranePads" "ALONG_Y" "[I" "CranePads")]
def nestM : List Cond := [(Jvm.Cond.methodLinkNest "CranePads$Pads" (56 : Nat) ({ cls := "CranePads", name := "next", desc := "(I)I" } : Jvm.MethodName) "CranePads"), (Jvm.Cond.methodLinkNest "CranePads$Crane" (20 : Nat) ({ cls := "CranePads$Parts", name := "<init>", desc := "()V" } : Jvm.MethodName) "CranePads"), (Jvm.Cond.methodLinkNest "CranePads" (26 : Nat) ({ cls := "CranePads$Judge", name := "<init>", desc := "()V" } : Jvm.MethodName) "CranePads"), (Jvm.Cond.methodLinkNest "CranePads" (33 : Nat) ({ cls := "CranePads$Route", name := "<init>", desc := "()V" } : Jvm.MethodName) "CranePads"), (Jvm.Cond.methodLinkNest "CranePads" (40 : Nat) ({ cls := "CranePads$Tape", name := "<init>", desc := "()V" } : Jvm.MethodName) "CranePads"), (Jvm.Cond.methodLinkNest "CranePads" (47 : Nat) ({ cls := "CranePads$Plan", name := "<init>", desc := "()V" } : Jvm.MethodName) "CranePads"), (Jvm.Cond.methodLinkNest "CranePads" (57 : Nat) ({ cls := "CranePads$Walk", name := "<init>", desc := "()V" } : Jvm.MethodName) "CranePads"), (Jvm.Cond.methodLinkNest "CranePads" (64 : Nat) ({ cls := "CranePads$Book", name := "<init>", desc := "()V" } : Jvm.MethodName) "CranePads"), (Jvm.Cond.methodLinkNest "CranePads" (71 : Nat) ({ cls := "CranePads$Rows", name := "<init>", desc := "()V" } : Jvm.MethodName) "CranePads"), (Jvm.Cond.methodLinkNest "CranePads$Judge" (146 : Nat) ({ cls := "CranePads", name := "next", desc := "(I)I" } : Jvm.MethodName) "CranePads"), (Jvm.Cond.methodLinkNest "CranePads$Tape" (53 : Nat) ({ cls := "CranePads", name := "fitsDial", desc := "(II)Z" } : Jvm.MethodName) "CranePads")]
def strOK (γ : GE) (U : State) (H : Heap) : Prop := (∀ i, i < 10 → va_O "java/lang/String" (gK γ i) (AA γ) U H ∧ va_OF "java/lang/String" "coder" "B" (.int 0) (gK γ i) (AA γ) U H ∧ va_OF "java/lang/String" "value" "[B" (.ref (gV γ i)) (gK γ i) (AA γ) U H ∧ va_T .byte (gV γ i) (ksB i).length (fun j => .int ((ksB i).getD j 0)) (AA γ) U H) ∧ (∀ i, i < 10 → vk_R (ksO i) (ksI i) (ksT i) (gK γ i) U) ∧ va_Z "java/lang/String" "COMPACT_STRINGS" "Z" (.int 1) (AA γ) U H
def Ken (γ : GE) (U : State) (H : Heap) : Prop := va_K (gD γ) vwCl (tysG γ) U ∧ (∀ w ∈ nestF, va_Nw w U) ∧ (∀ w ∈ nestM, va_Nw w U) ∧ (∀ i, i < 5 → va_Z "CranePads" (stN i) "[I" (.ref (gs γ i)) (AA γ) U H ∧ va_T .int (gs γ i) (stT i).length (fun j => .int ((stT i).getD j 0)) (AA γ) U H) ∧ strOK γ U H
/-! ===== the world: the cells from the base on ===== -/
def fvl (γ : GE) (μ : Mem) (k ci : Nat) (rs : Nat → Option Nat) (j : Nat) : Value := match tyf ci j with
  | .long => .long (μ.2 k j)
  | .array _ => va_rf ((rs j).map (gb γ + ·))
  | .object _ => va_rf ((rs j).map (gb γ + ·))
  | _ => .int (μ.1 k j)
def celA (γ : GE) (μ : Mem) (k : Nat) (ty : FieldType) (n : Nat) (rs : Nat → Option Nat) : vp_A := match ty with
  | .long => (n, .inr (.inl (μ.2 k)))
  | .array _ => (n, .inr (.inr (.inr (.inr (fun j => (rs j).map (gb γ + ·))))))
  | .object _ => (n, .inr (.inr (.inr (.inr (fun j => (rs j).map (gb γ + ·))))))
  | _ => (n, .inl (μ.1 k))
def celE (γ : GE) (μ : Mem) (k : Nat) (sh : Shp) : va_E := match sh with
  | .inl (ci, rs) => .inr (ci, (List.range (nf ci)).map (fvl γ μ k ci rs))
  | .inr (ty, n, rs) => .inl (gA γ ty, celA γ μ k ty n rs)
def Wd (γ : GE) (S : SH) (μ : Mem) (H : Heap) : Prop := H.size = gb γ + S.1 ∧ ∀ k, k < S.1 → va_at (gD γ) vwCl (gb γ + k, celE γ μ k (S.2 k)) H
theorem fvl_len {γ : GE} {μ : Mem} {k ci : Nat} {rs : Nat → Option Nat} : ((List.range (nf ci)).map (fvl γ μ k ci rs)).length = nf ci := by simp
theorem fvl_get {γ : GE} {μ : Mem} {k ci : Nat} {rs : Nat → Option Nat} {j : Nat} (hj : j < nf ci) : ((List.range (nf ci)).map (fvl γ μ k ci rs))[j]? = some (fvl γ μ k ci rs j) := by
  rw [List.getElem?_map, List.getElem?_range hj]; rfl
theorem celE_congr {γ : GE} {μ μ' : Mem} {k : Nat} {sh : Shp} (h1 : μ'.1 k = μ.1 k) (h2 : μ'.2 k = μ.2 k) : celE γ μ' k sh = celE γ μ k sh := by
  obtain ⟨ci, rs⟩ | ⟨ty, n, rs⟩ := sh
  · show Sum.inr (ci, _) = Sum.inr (ci, _)
    have : fvl γ μ' k ci rs = fvl γ μ k ci rs := by funext j; unfold fvl; rw [h1, h2]
    rw [this]
  · show Sum.inl (_, _) = Sum.inl (_, _)
    have : celA γ μ' k ty n rs = celA γ μ k ty n rs := by unfold celA; rw [h1, h2]
    rw [this]
/-- one cell is written -/
theorem Wd.set {γ : GE} {S : SH} {μ μ' : Mem} {H H1 : Heap} {o : Nat} (h : Wd γ S μ H) (hz : H1.size = H.size) (hq : ∀ q : Nat, q ≠ gb γ + o → H1[q]? = H[q]?) (ho : va_at (gD γ) vwCl (gb γ + o, celE γ μ' o (S.2 o)) H1) (hm : ∀ k, k ≠ o → μ'.1 k = μ.1 k ∧ μ'.2 k = μ.2 k) : Wd γ S μ' H1 := by
  refine ⟨hz.trans h.1, fun k hk => ?_⟩
  by_cases hko : k = o
  · subst hko; exact ho
  · rw [celE_congr (hm k hko).1 (hm k hko).2]
    exact (h.2 k hk).kept (hq _ (by show gb γ + k ≠ gb γ + o; omega))
theorem isO_spec {S : SH} {ci o : Nat} (h : isO S ci o = true) : o < S.1 ∧ ∃ rs, S.2 o = .inl (ci, rs) := by
  unfold isO at h
  split at h
  · rename_i c rs he
    simp only [Bool.and_eq_true, decide_eq_true_eq] at h
    obtain ⟨h1, h2⟩ := h
    subst h1
    exact ⟨h2, rs, he⟩
  · cases h
theorem isA_spec {S : SH} {ty : FieldType} {o n : Nat} (h : isA S ty o = some n) : o < S.1 ∧ ∃ rs, S.2 o = .inr (ty, n, rs) := by
  unfold isA at h
  split at h
  · rename_i t n' rs he
    split at h
    · rename_i hh
      cases h
      obtain ⟨h1, h2⟩ := hh
      subst h1
      exact ⟨h2, rs, he⟩
    · cases h
  · cases h
theorem gR_spec {S : SH} {ci o j k : Nat} (h : gR S ci o j = some k) : o < S.1 ∧ ∃ rs, S.2 o = .inl (ci, rs) ∧ rs j = some k := by
  unfold gR at h
  split at h
  · rename_i c rs he
    split at h
    · rename_i hh
      obtain ⟨h1, h2⟩ := hh
      subst h1
      exact ⟨h2, rs, he, h⟩
    · cases h
  · cases h
theorem aR_spec {S : SH} {ty : FieldType} {o k : Nat} {i : Int32} (h : aR S ty o i = some k) : o < S.1 ∧ ∃ n rs, S.2 o = .inr (ty, n, rs) ∧ inb i n = true ∧ rs i.toNatClampNeg = some k := by
  unfold aR at h
  split at h
  · rename_i t n rs he
    split at h
    · rename_i hh
      obtain ⟨h1, h2, h3⟩ := hh
      subst h1
      exact ⟨h2, n, rs, he, h3, h⟩
    · cases h
  · cases h
theorem Wd.ob {γ : GE} {S : SH} {μ : Mem} {H : Heap} {ci o : Nat} {rs : Nat → Option Nat} (h : Wd γ S μ H) (ho : o < S.1) (hs : S.2 o = .inl (ci, rs)) : va_P (gD γ) vwCl [(gb γ + o, .inr (ci, (List.range (nf ci)).map (fvl γ μ o ci rs)))] H := by
  intro k q hk
  have hz : k < 1 := (List.getElem?_eq_some_iff.mp hk).1
  rw [show k = 0 by omega] at hk
  cases hk
  have h1 := h.2 o ho
  rw [hs] at h1
  exact h1
theorem Wd.ar {γ : GE} {S : SH} {μ : Mem} {H : Heap} {ty : FieldType} {o n : Nat} {rs : Nat → Option Nat} (h : Wd γ S μ H) (ho : o < S.1) (hs : S.2 o = .inr (ty, n, rs)) : va_P (gD γ) vwCl [(gb γ + o, .inl (gA γ ty, celA γ μ o ty n rs))] H := by
  intro k q hk
  have hz : k < 1 := (List.getElem?_eq_some_iff.mp hk).1
  rw [show k = 0 by omega] at hk
  cases hk
  have h1 := h.2 o ho
  rw [hs] at h1
  exact h1
theorem fvl_I {γ : GE} {μ : Mem} {k ci : Nat} {rs : Nat → Option Nat} {j : Nat} (h : kI (tyf ci j) = true) : fvl γ μ k ci rs j = .int (μ.1 k j) := by
  unfold fvl; revert h; cases tyf ci j <;> intro h <;> first | rfl | cases h
theorem fvl_L {γ : GE} {μ : Mem} {k ci : Nat} {rs : Nat → Option Nat} {j : Nat} (h : tyf ci j = .long) : fvl γ μ k ci rs j = .long (μ.2 k j) := by
  unfold fvl; rw [h]
theorem fvl_R {γ : GE} {μ : Mem} {k ci : Nat} {rs : Nat → Option Nat} {j : Nat} (h : kR (tyf ci j) = true) : fvl γ μ k ci rs j = va_rf ((rs j).map (gb γ + ·)) := by
  unfold fvl; revert h; cases tyf ci j <;> intro h <;> first | rfl | cases h
theorem celA_I {γ : GE} {μ : Mem} {k : Nat} {ty : FieldType} {n : Nat} {rs : Nat → Option Nat} (h : kI ty = true) : celA γ μ k ty n rs = (n, .inl (μ.1 k)) := by
  unfold celA; revert h; cases ty <;> intro h <;> first | rfl | cases h
theorem celA_R {γ : GE} {μ : Mem} {k : Nat} {ty : FieldType} {n : Nat} {rs : Nat → Option Nat} (h : kR ty = true) : celA γ μ k ty n rs = (n, .inr (.inr (.inr (.inr (fun j => (rs j).map (gb γ + ·)))))) := by
  unfold celA; revert h; cases ty <;> intro h <;> first | rfl | cases h
/-! ===== the context of a method, and the judgement ===== -/
def FX (γ : GE) (p : Program) (s : State) (m : MethodId) (args : Array Value) (meth : Method) (c : Code) (cc : ByteArray) (own : String) (nL : Nat) : Prop :=
  p.tables.exec = Jvm.exec ∧ c.code = cc ∧ c.maxLocals = nL ∧ s.vm.findClass own = some m.cls ∧ (∀ w ∈ GG, w.before args s = true) ∧ Ken γ s s.heap ∧ meth.locks = false
def JJ (γ : GE) (p : Program) (l : Launch) (e : Env) (R : Room) (s : State) (m : MethodId) (args : Array Value) (below : List Frame) (meth : Method) (c : Code) (nL : Nat) (cells slots : Nat) (Q : State → Prop) (S : SH) (μ : Mem) (pc : Nat) (lv : List (Nat × Value)) (st : List Value) : Prop :=
  ∀ (H : Heap) (locs : List Loc) (ls : Array Slot), Wd γ S μ H → va_S (AA γ) s.heap H locs → lv_has ls nL lv → W p l e R s m args below meth c H locs cells slots Q (F0 m pc ls st)

section Rows
variable {γ : GE} {p : Program} {l : Launch} {e : Env} {R : Room} {s : State} {m : MethodId} {args : Array Value} {below : List Frame} {meth : Method} {c : Code} {cc : ByteArray} {own : String} {nL : Nat} {cells slots : Nat} {Q : State → Prop} {S : SH} {μ : Mem} {pc : Nat} {lv : List (Nat × Value)} {st : List Value} {ρ : Type} {X : ρ}
theorem j_iadd (F : FX γ p s m args meth c cc own nL) {x y : Int32} (hd : decode cc pc = .ok (.iadd, 1))  (k : JJ γ p l e R s m args below meth c nL cells slots Q S μ (pc + 1) (lv) (.int (x + y) :: st)) : JJ γ p l e R s m args below meth c nL cells slots Q S μ (pc) (lv) (.int y :: .int x :: st) :=
  fun H locs ls hW hS hl => lv_iadd F.1 F.2.1 hd (k H locs ls hW hS hl)
theorem j_isub (F : FX γ p s m args meth c cc own nL) {x y : Int32} (hd : decode cc pc = .ok (.isub, 1))  (k : JJ γ p l e R s m args below meth c nL cells slots Q S μ (pc + 1) (lv) (.int (x - y) :: st)) : JJ γ p l e R s m args below meth c nL cells slots Q S μ (pc) (lv) (.int y :: .int x :: st) :=
  fun H locs ls hW hS hl => lv_isub F.1 F.2.1 hd (k H locs ls hW hS hl)
theorem j_imul (F : FX γ p s m args meth c cc own nL) {x y : Int32} (hd : decode cc pc = .ok (.imul, 1))  (k : JJ γ p l e R s m args below meth c nL cells slots Q S μ (pc + 1) (lv) (.int (x * y) :: st)) : JJ γ p l e R s m args below meth c nL cells slots Q S μ (pc) (lv) (.int y :: .int x :: st) :=
  fun H locs ls hW hS hl => lv_imul F.1 F.2.1 hd (k H locs ls hW hS hl)
theorem j_iand (F : FX γ p s m args meth c cc own nL) {x y : Int32} (hd : decode cc pc = .ok (.iand, 1))  (k : JJ γ p l e R s m args below meth c nL cells slots Q S μ (pc + 1) (lv) (.int (x &&& y) :: st)) : JJ γ p l e R s m args below meth c nL cells slots Q S μ (pc) (lv) (.int y :: .int x :: st) :=
  fun H locs ls hW hS hl => lv_iand F.1 F.2.1 hd (k H locs ls hW hS hl)
theorem j_ior (F : FX γ p s m args meth c cc own nL) {x y : Int32} (hd : decode cc pc = .ok (.ior, 1))  (k : JJ γ p l e R s m args below meth c nL cells slots Q S μ (pc + 1) (lv) (.int (x ||| y) :: st)) : JJ γ p l e R s m args below meth c nL cells slots Q S μ (pc) (lv) (.int y :: .int x :: st) :=
  fun H locs ls hW hS hl => lv_ior F.1 F.2.1 hd (k H locs ls hW hS hl)
theorem j_ladd (F : FX γ p s m args meth c cc own nL) {x y : Int64} (hd : decode cc pc = .ok (.ladd, 1))  (k : JJ γ p l e R s m args below meth c nL cells slots Q S μ (pc + 1) (lv) (.long (x + y) :: st)) : JJ γ p l e R s m args below meth c nL cells slots Q S μ (pc) (lv) (.long y :: .long x :: st) :=
  fun H locs ls hW hS hl => lv_ladd F.1 F.2.1 hd (k H locs ls hW hS hl)
theorem j_lsub (F : FX γ p s m args meth c cc own nL) {x y : Int64} (hd : decode cc pc = .ok (.lsub, 1))  (k : JJ γ p l e R s m args below meth c nL cells slots Q S μ (pc + 1) (lv) (.long (x - y) :: st)) : JJ γ p l e R s m args below meth c nL cells slots Q S μ (pc) (lv) (.long y :: .long x :: st) :=
  fun H locs ls hW hS hl => lv_lsub F.1 F.2.1 hd (k H locs ls hW hS hl)
theorem j_lmul (F : FX γ p s m args meth c cc own nL) {x y : Int64} (hd : decode cc pc = .ok (.lmul, 1))  (k : JJ γ p l e R s m args below meth c nL cells slots Q S μ (pc + 1) (lv) (.long (x * y) :: st)) : JJ γ p l e R s m args below meth c nL cells slots Q S μ (pc) (lv) (.long y :: .long x :: st) :=
  fun H locs ls hW hS hl => lv_lmul F.1 F.2.1 hd (k H locs ls hW hS hl)
theorem j_land (F : FX γ p s m args meth c cc own nL) {x y : Int64} (hd : decode cc pc = .ok (.land, 1))  (k : JJ γ p l e R s m args below meth c nL cells slots Q S μ (pc + 1) (lv) (.long (x &&& y) :: st)) : JJ γ p l e R s m args below meth c nL cells slots Q S μ (pc) (lv) (.long y :: .long x :: st) :=
  fun H locs ls hW hS hl => lv_land F.1 F.2.1 hd (k H locs ls hW hS hl)
theorem j_lor (F : FX γ p s m args meth c cc own nL) {x y : Int64} (hd : decode cc pc = .ok (.lor, 1))  (k : JJ γ p l e R s m args below meth c nL cells slots Q S μ (pc + 1) (lv) (.long (x ||| y) :: st)) : JJ γ p l e R s m args below meth c nL cells slots Q S μ (pc) (lv) (.long y :: .long x :: st) :=
  fun H locs ls hW hS hl => lv_lor F.1 F.2.1 hd (k H locs ls hW hS hl)
theorem j_ineg (F : FX γ p s m args meth c cc own nL) {x : Int32} (hd : decode cc pc = .ok (.ineg, 1))  (k : JJ γ p l e R s m args below meth c nL cells slots Q S μ (pc + 1) (lv) (.int (-x) :: st)) : JJ γ p l e R s m args below meth c nL cells slots Q S μ (pc) (lv) (.int x :: st) :=
  fun H locs ls hW hS hl => lv_ineg F.1 F.2.1 hd (k H locs ls hW hS hl)
theorem j_lneg (F : FX γ p s m args meth c cc own nL) {x : Int64} (hd : decode cc pc = .ok (.lneg, 1))  (k : JJ γ p l e R s m args below meth c nL cells slots Q S μ (pc + 1) (lv) (.long (-x) :: st)) : JJ γ p l e R s m args below meth c nL cells slots Q S μ (pc) (lv) (.long x :: st) :=
  fun H locs ls hW hS hl => lv_lneg F.1 F.2.1 hd (k H locs ls hW hS hl)
theorem j_ishl (F : FX γ p s m args meth c cc own nL) {x y : Int32} (hd : decode cc pc = .ok (.ishl, 1))  (k : JJ γ p l e R s m args below meth c nL cells slots Q S μ (pc + 1) (lv) (.int (x <<< (y &&& 31)) :: st)) : JJ γ p l e R s m args below meth c nL cells slots Q S μ (pc) (lv) (.int y :: .int x :: st) :=
  fun H locs ls hW hS hl => lv_ishl F.1 F.2.1 hd (k H locs ls hW hS hl)
theorem j_ishr (F : FX γ p s m args meth c cc own nL) {x y : Int32} (hd : decode cc pc = .ok (.ishr, 1))  (k : JJ γ p l e R s m args below meth c nL cells slots Q S μ (pc + 1) (lv) (.int (x >>> (y &&& 31)) :: st)) : JJ γ p l e R s m args below meth c nL cells slots Q S μ (pc) (lv) (.int y :: .int x :: st) :=
  fun H locs ls hW hS hl => lv_ishr F.1 F.2.1 hd (k H locs ls hW hS hl)
theorem j_lshl (F : FX γ p s m args meth c cc own nL) {x : Int64} {y : Int32} (hd : decode cc pc = .ok (.lshl, 1))  (k : JJ γ p l e R s m args below meth c nL cells slots Q S μ (pc + 1) (lv) (.long (x <<< (y.toInt64 &&& 63)) :: st)) : JJ γ p l e R s m args below meth c nL cells slots Q S μ (pc) (lv) (.int y :: .long x :: st) :=
  fun H locs ls hW hS hl => lv_lshl F.1 F.2.1 hd rfl (k H locs ls hW hS hl)
theorem j_i2l (F : FX γ p s m args meth c cc own nL) {x : Int32} (hd : decode cc pc = .ok (.i2l, 1))  (k : JJ γ p l e R s m args below meth c nL cells slots Q S μ (pc + 1) (lv) (.long x.toInt64 :: st)) : JJ γ p l e R s m args below meth c nL cells slots Q S μ (pc) (lv) (.int x :: st) :=
  fun H locs ls hW hS hl => lv_i2l F.1 F.2.1 hd rfl (k H locs ls hW hS hl)
theorem j_l2i (F : FX γ p s m args meth c cc own nL) {x : Int64} (hd : decode cc pc = .ok (.l2i, 1))  (k : JJ γ p l e R s m args below meth c nL cells slots Q S μ (pc + 1) (lv) (.int x.toInt32 :: st)) : JJ γ p l e R s m args below meth c nL cells slots Q S μ (pc) (lv) (.long x :: st) :=
  fun H locs ls hW hS hl => lv_l2i F.1 F.2.1 hd rfl (k H locs ls hW hS hl)
theorem j_i2b (F : FX γ p s m args meth c cc own nL) {x : Int32} (hd : decode cc pc = .ok (.i2b, 1))  (k : JJ γ p l e R s m args below meth c nL cells slots Q S μ (pc + 1) (lv) (.int x.toInt8.toInt32 :: st)) : JJ γ p l e R s m args below meth c nL cells slots Q S μ (pc) (lv) (.int x :: st) :=
  fun H locs ls hW hS hl => lv_i2b F.1 F.2.1 hd rfl (k H locs ls hW hS hl)
theorem j_iconst (F : FX γ p s m args meth c cc own nL) {n : Int} (v : Int32) (hd : decode cc pc = .ok (.iconst n, 1)) (hv : Int32.ofInt n = v) (k : JJ γ p l e R s m args below meth c nL cells slots Q S μ (pc + 1) (lv) (.int v :: st)) : JJ γ p l e R s m args below meth c nL cells slots Q S μ (pc) (lv) (st) :=
  fun H locs ls hW hS hl => lv_iconst F.1 F.2.1 hd hv (k H locs ls hW hS hl)
theorem j_bipush (F : FX γ p s m args meth c cc own nL) {n : Int} (v : Int32) (hd : decode cc pc = .ok (.bipush n, 2)) (hv : (Int8.ofInt n).toInt32 = v) (k : JJ γ p l e R s m args below meth c nL cells slots Q S μ (pc + 2) (lv) (.int v :: st)) : JJ γ p l e R s m args below meth c nL cells slots Q S μ (pc) (lv) (st) :=
  fun H locs ls hW hS hl => lv_bipush F.1 F.2.1 hd hv (k H locs ls hW hS hl)
theorem j_sipush (F : FX γ p s m args meth c cc own nL) {n : Int} (v : Int32) (hd : decode cc pc = .ok (.sipush n, 3)) (hv : (Int16.ofInt n).toInt32 = v) (k : JJ γ p l e R s m args below meth c nL cells slots Q S μ (pc + 3) (lv) (.int v :: st)) : JJ γ p l e R s m args below meth c nL cells slots Q S μ (pc) (lv) (st) :=
  fun H locs ls hW hS hl => lv_sipush F.1 F.2.1 hd hv (k H locs ls hW hS hl)
theorem j_lconst (F : FX γ p s m args meth c cc own nL) {n : Fin 2} (v : Int64) (hd : decode cc pc = .ok (.lconst n, 1)) (hv : Int64.ofNat (n : Nat) = v) (k : JJ γ p l e R s m args below meth c nL cells slots Q S μ (pc + 1) (lv) (.long v :: st)) : JJ γ p l e R s m args below meth c nL cells slots Q S μ (pc) (lv) (st) :=
  fun H locs ls hW hS hl => lv_lconst F.1 F.2.1 hd hv (k H locs ls hW hS hl)
theorem j_dup (F : FX γ p s m args meth c cc own nL) {x : Value} (hd : decode cc pc = .ok (.dup, 1)) (hc : x.category = 1) (k : JJ γ p l e R s m args below meth c nL cells slots Q S μ (pc + 1) (lv) (x :: x :: st)) : JJ γ p l e R s m args below meth c nL cells slots Q S μ (pc) (lv) (x :: st) :=
  fun H locs ls hW hS hl => lv_dup F.1 F.2.1 hd hc (k H locs ls hW hS hl)
theorem j_dup2 (F : FX γ p s m args meth c cc own nL) {x y : Value} (hd : decode cc pc = .ok (.dup2, 1)) (hc : x.category = 1) (hc2 : y.category = 1) (k : JJ γ p l e R s m args below meth c nL cells slots Q S μ (pc + 1) (lv) (x :: y :: x :: y :: st)) : JJ γ p l e R s m args below meth c nL cells slots Q S μ (pc) (lv) (x :: y :: st) :=
  fun H locs ls hW hS hl => lv_dup2_11 F.1 F.2.1 hd hc hc2 (k H locs ls hW hS hl)
theorem j_ldc2 (F : FX γ p s m args meth c cc own nL) {idx : Nat} (v : Int64) (hd : decode cc pc = .ok (.ldc2_w idx, 3)) (hw : Cond.constantLong own idx v ∈ GG) (k : JJ γ p l e R s m args below meth c nL cells slots Q S μ (pc + 3) (lv) (.long v :: st)) : JJ γ p l e R s m args below meth c nL cells slots Q S μ (pc) (lv) (st) :=
  fun H locs ls hW hS hl => lv_ldc2 F.1 F.2.1 F.2.2.2.1 (F.2.2.2.2.1 _ hw) hd (k H locs ls hW hS hl)
theorem j_ldci (F : FX γ p s m args meth c cc own nL) {idx : Nat} (v : Int32) (hd : decode cc pc = .ok (.ldc idx, 2)) (hw : Cond.constant own idx v ∈ GG) (k : JJ γ p l e R s m args below meth c nL cells slots Q S μ (pc + 2) (lv) (.int v :: st)) : JJ γ p l e R s m args below meth c nL cells slots Q S μ (pc) (lv) (st) :=
  fun H locs ls hW hS hl => lv_ldc F.1 F.2.1 F.2.2.2.1 (F.2.2.2.2.1 _ hw) hd (k H locs ls hW hS hl)
theorem j_iload_n (F : FX γ p s m args meth c cc own nL) {k : Fin 4} {x : Int32} (q : Nat) (hd : decode cc pc = .ok (.iload_n k, 1)) (hq : lv[q]? = some ((k : Nat), .int x)) (kk : JJ γ p l e R s m args below meth c nL cells slots Q S μ (pc + 1) (lv) (.int x :: st)) : JJ γ p l e R s m args below meth c nL cells slots Q S μ (pc) (lv) (st) :=
  fun H locs ls hW hS hl => lv_iload_n F.1 F.2.1 hd rfl (lv_at hl q hq) (kk H locs ls hW hS hl)
theorem j_iload (F : FX γ p s m args meth c cc own nL) {i : Nat} {x : Int32} (q : Nat) (hd : decode cc pc = .ok (.iload i, 2)) (hq : lv[q]? = some (i, .int x)) (kk : JJ γ p l e R s m args below meth c nL cells slots Q S μ (pc + 2) (lv) (.int x :: st)) : JJ γ p l e R s m args below meth c nL cells slots Q S μ (pc) (lv) (st) :=
  fun H locs ls hW hS hl => lv_iload F.1 F.2.1 hd (lv_at hl q hq) (kk H locs ls hW hS hl)
theorem j_istore_n (F : FX γ p s m args meth c cc own nL) {k : Fin 4} {i : Nat} {x : Int32} (lv' : List (Nat × Value)) (hd : decode cc pc = .ok (.istore_n k, 1)) (hi : (k : Nat) = i) (hn : i < nL) (hl' : (i, Value.int x) :: lv.filter (fun q => !(q.1 == i) && !(q.1 + 1 == i && q.2.category == 2)) = lv') (kk : JJ γ p l e R s m args below meth c nL cells slots Q S μ (pc + 1) (lv') (st)) : JJ γ p l e R s m args below meth c nL cells slots Q S μ (pc) (lv) (.int x :: st) :=
  fun H locs ls hW hS hl => lv_istore_n F.1 F.2.1 hd hi hl hn hl' (fun ls' hl2 => kk H locs ls' hW hS hl2)
theorem j_istore (F : FX γ p s m args meth c cc own nL) {i : Nat} {x : Int32} (lv' : List (Nat × Value)) (hd : decode cc pc = .ok (.istore i, 2)) (hn : i < nL) (hl' : (i, Value.int x) :: lv.filter (fun q => !(q.1 == i) && !(q.1 + 1 == i && q.2.category == 2)) = lv') (kk : JJ γ p l e R s m args below meth c nL cells slots Q S μ (pc + 2) (lv') (st)) : JJ γ p l e R s m args below meth c nL cells slots Q S μ (pc) (lv) (.int x :: st) :=
  fun H locs ls hW hS hl => lv_istore F.1 F.2.1 hd hl hn hl' (fun ls' hl2 => kk H locs ls' hW hS hl2)
theorem j_lload_n (F : FX γ p s m args meth c cc own nL) {k : Fin 4} {x : Int64} (q : Nat) (hd : decode cc pc = .ok (.lload_n k, 1)) (hq : lv[q]? = some ((k : Nat), .long x)) (kk : JJ γ p l e R s m args below meth c nL cells slots Q S μ (pc + 1) (lv) (.long x :: st)) : JJ γ p l e R s m args below meth c nL cells slots Q S μ (pc) (lv) (st) :=
  fun H locs ls hW hS hl => lv_lload_n F.1 F.2.1 hd rfl (lv_at hl q hq) (kk H locs ls hW hS hl)
theorem j_lload (F : FX γ p s m args meth c cc own nL) {i : Nat} {x : Int64} (q : Nat) (hd : decode cc pc = .ok (.lload i, 2)) (hq : lv[q]? = some (i, .long x)) (kk : JJ γ p l e R s m args below meth c nL cells slots Q S μ (pc + 2) (lv) (.long x :: st)) : JJ γ p l e R s m args below meth c nL cells slots Q S μ (pc) (lv) (st) :=
  fun H locs ls hW hS hl => lv_lload F.1 F.2.1 hd (lv_at hl q hq) (kk H locs ls hW hS hl)
theorem j_lstore_n (F : FX γ p s m args meth c cc own nL) {k : Fin 4} {i : Nat} {x : Int64} (lv' : List (Nat × Value)) (hd : decode cc pc = .ok (.lstore_n k, 1)) (hi : (k : Nat) = i) (hn : i + 1 < nL) (hl' : (i, Value.long x) :: lv.filter (fun q => !(q.1 == i) && (!(q.1 == i + 1) && !(q.1 + 1 == i && q.2.category == 2))) = lv') (kk : JJ γ p l e R s m args below meth c nL cells slots Q S μ (pc + 1) (lv') (st)) : JJ γ p l e R s m args below meth c nL cells slots Q S μ (pc) (lv) (.long x :: st) :=
  fun H locs ls hW hS hl => lv_lstore_n F.1 F.2.1 hd hi hl hn hl' (fun ls' hl2 => kk H locs ls' hW hS hl2)
theorem j_lstore (F : FX γ p s m args meth c cc own nL) {i : Nat} {x : Int64} (lv' : List (Nat × Value)) (hd : decode cc pc = .ok (.lstore i, 2)) (hn : i + 1 < nL) (hl' : (i, Value.long x) :: lv.filter (fun q => !(q.1 == i) && (!(q.1 == i + 1) && !(q.1 + 1 == i && q.2.category == 2))) = lv') (kk : JJ γ p l e R s m args below meth c nL cells slots Q S μ (pc + 2) (lv') (st)) : JJ γ p l e R s m args below meth c nL cells slots Q S μ (pc) (lv) (.long x :: st) :=
  fun H locs ls hW hS hl => lv_lstore F.1 F.2.1 hd hl hn hl' (fun ls' hl2 => kk H locs ls' hW hS hl2)
theorem j_aload_n (F : FX γ p s m args meth c cc own nL) {k : Fin 4} {x : Nat} (q : Nat) (hd : decode cc pc = .ok (.aload_n k, 1)) (hq : lv[q]? = some ((k : Nat), .ref x)) (kk : JJ γ p l e R s m args below meth c nL cells slots Q S μ (pc + 1) (lv) (.ref x :: st)) : JJ γ p l e R s m args below meth c nL cells slots Q S μ (pc) (lv) (st) :=
  fun H locs ls hW hS hl => lv_aload_n F.1 F.2.1 hd rfl (lv_at hl q hq) (kk H locs ls hW hS hl)
theorem j_aload (F : FX γ p s m args meth c cc own nL) {i : Nat} {x : Nat} (q : Nat) (hd : decode cc pc = .ok (.aload i, 2)) (hq : lv[q]? = some (i, .ref x)) (kk : JJ γ p l e R s m args below meth c nL cells slots Q S μ (pc + 2) (lv) (.ref x :: st)) : JJ γ p l e R s m args below meth c nL cells slots Q S μ (pc) (lv) (st) :=
  fun H locs ls hW hS hl => lv_aload F.1 F.2.1 hd (lv_at hl q hq) (kk H locs ls hW hS hl)
theorem j_astore_n (F : FX γ p s m args meth c cc own nL) {k : Fin 4} {i : Nat} {x : Nat} (lv' : List (Nat × Value)) (hd : decode cc pc = .ok (.astore_n k, 1)) (hi : (k : Nat) = i) (hn : i < nL) (hl' : (i, Value.ref x) :: lv.filter (fun q => !(q.1 == i) && !(q.1 + 1 == i && q.2.category == 2)) = lv') (kk : JJ γ p l e R s m args below meth c nL cells slots Q S μ (pc + 1) (lv') (st)) : JJ γ p l e R s m args below meth c nL cells slots Q S μ (pc) (lv) (.ref x :: st) :=
  fun H locs ls hW hS hl => lv_astore_n F.1 F.2.1 hd hi hl hn hl' (fun ls' hl2 => kk H locs ls' hW hS hl2)
theorem j_astore (F : FX γ p s m args meth c cc own nL) {i : Nat} {x : Nat} (lv' : List (Nat × Value)) (hd : decode cc pc = .ok (.astore i, 2)) (hn : i < nL) (hl' : (i, Value.ref x) :: lv.filter (fun q => !(q.1 == i) && !(q.1 + 1 == i && q.2.category == 2)) = lv') (kk : JJ γ p l e R s m args below meth c nL cells slots Q S μ (pc + 2) (lv') (st)) : JJ γ p l e R s m args below meth c nL cells slots Q S μ (pc) (lv) (.ref x :: st) :=
  fun H locs ls hW hS hl => lv_astore F.1 F.2.1 hd hl hn hl' (fun ls' hl2 => kk H locs ls' hW hS hl2)
theorem j_iinc (F : FX γ p s m args meth c cc own nL) {i : Nat} {n : Int} {x : Int32} (v : Int32) (q : Nat) (lv' : List (Nat × Value)) (hd : decode cc pc = .ok (.iinc i n, 3)) (hq : lv[q]? = some (i, .int x)) (hv : Int32.ofInt n = v) (hn : i < nL) (hl' : (i, Value.int (x + v)) :: lv.filter (fun q => !(q.1 == i) && !(q.1 + 1 == i && q.2.category == 2)) = lv') (kk : JJ γ p l e R s m args below meth c nL cells slots Q S μ (pc + 3) (lv') (st)) : JJ γ p l e R s m args below meth c nL cells slots Q S μ (pc) (lv) (st) :=
  fun H locs ls hW hS hl => lv_iinc F.1 F.2.1 hd hl hq (by rw [hv]) hn hl' (fun ls' hl2 => kk H locs ls' hW hS hl2)
theorem j_ifeq (F : FX γ p s m args meth c cc own nL) {x : Int32} {off : Int} (tgt : Nat) {a b : Option ρ} (hd : decode cc pc = .ok (.ifCond .eq off, 3)) (ht : (pc : Int) + off = (tgt : Int)) (h : (if x = 0 then a else b) = some X) (kt : x = 0 → a = some X → JJ γ p l e R s m args below meth c nL cells slots Q S μ (tgt) (lv) (st)) (kf : ¬ (x = 0) → b = some X → JJ γ p l e R s m args below meth c nL cells slots Q S μ (pc + 3) (lv) (st)) : JJ γ p l e R s m args below meth c nL cells slots Q S μ (pc) (lv) (.int x :: st) :=
  fun H locs ls hW hS hl => lv_if_eq F.1 F.2.1 hd ht (fun q => kt q (by rw [if_pos q] at h; exact h) H locs ls hW hS hl) (fun q => kf q (by rw [if_neg q] at h; exact h) H locs ls hW hS hl)
theorem j_icmpeq (F : FX γ p s m args meth c cc own nL) {x y : Int32} {off : Int} (tgt : Nat) {a b : Option ρ} (hd : decode cc pc = .ok (.if_icmp .eq off, 3)) (ht : (pc : Int) + off = (tgt : Int)) (h : (if x = y then a else b) = some X) (kt : x = y → a = some X → JJ γ p l e R s m args below meth c nL cells slots Q S μ (tgt) (lv) (st)) (kf : ¬ (x = y) → b = some X → JJ γ p l e R s m args below meth c nL cells slots Q S μ (pc + 3) (lv) (st)) : JJ γ p l e R s m args below meth c nL cells slots Q S μ (pc) (lv) (.int y :: .int x :: st) :=
  fun H locs ls hW hS hl => lv_icmp_eq F.1 F.2.1 hd ht (fun q => kt q (by rw [if_pos q] at h; exact h) H locs ls hW hS hl) (fun q => kf q (by rw [if_neg q] at h; exact h) H locs ls hW hS hl)
theorem j_iflt (F : FX γ p s m args meth c cc own nL) {x : Int32} {off : Int} (tgt : Nat) {a b : Option ρ} (hd : decode cc pc = .ok (.ifCond .lt off, 3)) (ht : (pc : Int) + off = (tgt : Int)) (h : (if x < 0 then a else b) = some X) (kt : x < 0 → a = some X → JJ γ p l e R s m args below meth c nL cells slots Q S μ (tgt) (lv) (st)) (kf : ¬ (x < 0) → b = some X → JJ γ p l e R s m args below meth c nL cells slots Q S μ (pc + 3) (lv) (st)) : JJ γ p l e R s m args below meth c nL cells slots Q S μ (pc) (lv) (.int x :: st) :=
  fun H locs ls hW hS hl => lv_if_lt F.1 F.2.1 hd ht (fun q => kt q (by rw [if_pos q] at h; exact h) H locs ls hW hS hl) (fun q => kf q (by rw [if_neg q] at h; exact h) H locs ls hW hS hl)
theorem j_icmplt (F : FX γ p s m args meth c cc own nL) {x y : Int32} {off : Int} (tgt : Nat) {a b : Option ρ} (hd : decode cc pc = .ok (.if_icmp .lt off, 3)) (ht : (pc : Int) + off = (tgt : Int)) (h : (if x < y then a else b) = some X) (kt : x < y → a = some X → JJ γ p l e R s m args below meth c nL cells slots Q S μ (tgt) (lv) (st)) (kf : ¬ (x < y) → b = some X → JJ γ p l e R s m args below meth c nL cells slots Q S μ (pc + 3) (lv) (st)) : JJ γ p l e R s m args below meth c nL cells slots Q S μ (pc) (lv) (.int y :: .int x :: st) :=
  fun H locs ls hW hS hl => lv_icmp_lt F.1 F.2.1 hd ht (fun q => kt q (by rw [if_pos q] at h; exact h) H locs ls hW hS hl) (fun q => kf q (by rw [if_neg q] at h; exact h) H locs ls hW hS hl)
theorem j_ifge (F : FX γ p s m args meth c cc own nL) {x : Int32} {off : Int} (tgt : Nat) {a b : Option ρ} (hd : decode cc pc = .ok (.ifCond .ge off, 3)) (ht : (pc : Int) + off = (tgt : Int)) (h : (if 0 ≤ x then a else b) = some X) (kt : 0 ≤ x → a = some X → JJ γ p l e R s m args below meth c nL cells slots Q S μ (tgt) (lv) (st)) (kf : ¬ (0 ≤ x) → b = some X → JJ γ p l e R s m args below meth c nL cells slots Q S μ (pc + 3) (lv) (st)) : JJ γ p l e R s m args below meth c nL cells slots Q S μ (pc) (lv) (.int x :: st) :=
  fun H locs ls hW hS hl => lv_if_ge F.1 F.2.1 hd ht (fun q => kt q (by rw [if_pos q] at h; exact h) H locs ls hW hS hl) (fun q => kf q (by rw [if_neg q] at h; exact h) H locs ls hW hS hl)
theorem j_icmpge (F : FX γ p s m args meth c cc own nL) {x y : Int32} {off : Int} (tgt : Nat) {a b : Option ρ} (hd : decode cc pc = .ok (.if_icmp .ge off, 3)) (ht : (pc : Int) + off = (tgt : Int)) (h : (if y ≤ x then a else b) = some X) (kt : y ≤ x → a = some X → JJ γ p l e R s m args below meth c nL cells slots Q S μ (tgt) (lv) (st)) (kf : ¬ (y ≤ x) → b = some X → JJ γ p l e R s m args below meth c nL cells slots Q S μ (pc + 3) (lv) (st)) : JJ γ p l e R s m args below meth c nL cells slots Q S μ (pc) (lv) (.int y :: .int x :: st) :=
  fun H locs ls hW hS hl => lv_icmp_ge F.1 F.2.1 hd ht (fun q => kt q (by rw [if_pos q] at h; exact h) H locs ls hW hS hl) (fun q => kf q (by rw [if_neg q] at h; exact h) H locs ls hW hS hl)
theorem j_ifgt (F : FX γ p s m args meth c cc own nL) {x : Int32} {off : Int} (tgt : Nat) {a b : Option ρ} (hd : decode cc pc = .ok (.ifCond .gt off, 3)) (ht : (pc : Int) + off = (tgt : Int)) (h : (if 0 < x then a else b) = some X) (kt : 0 < x → a = some X → JJ γ p l e R s m args below meth c nL cells slots Q S μ (tgt) (lv) (st)) (kf : ¬ (0 < x) → b = some X → JJ γ p l e R s m args below meth c nL cells slots Q S μ (pc + 3) (lv) (st)) : JJ γ p l e R s m args below meth c nL cells slots Q S μ (pc) (lv) (.int x :: st) :=
  fun H locs ls hW hS hl => lv_if_gt F.1 F.2.1 hd ht (fun q => kt q (by rw [if_pos q] at h; exact h) H locs ls hW hS hl) (fun q => kf q (by rw [if_neg q] at h; exact h) H locs ls hW hS hl)
theorem j_icmpgt (F : FX γ p s m args meth c cc own nL) {x y : Int32} {off : Int} (tgt : Nat) {a b : Option ρ} (hd : decode cc pc = .ok (.if_icmp .gt off, 3)) (ht : (pc : Int) + off = (tgt : Int)) (h : (if y < x then a else b) = some X) (kt : y < x → a = some X → JJ γ p l e R s m args below meth c nL cells slots Q S μ (tgt) (lv) (st)) (kf : ¬ (y < x) → b = some X → JJ γ p l e R s m args below meth c nL cells slots Q S μ (pc + 3) (lv) (st)) : JJ γ p l e R s m args below meth c nL cells slots Q S μ (pc) (lv) (.int y :: .int x :: st) :=
  fun H locs ls hW hS hl => lv_icmp_gt F.1 F.2.1 hd ht (fun q => kt q (by rw [if_pos q] at h; exact h) H locs ls hW hS hl) (fun q => kf q (by rw [if_neg q] at h; exact h) H locs ls hW hS hl)
theorem j_ifle (F : FX γ p s m args meth c cc own nL) {x : Int32} {off : Int} (tgt : Nat) {a b : Option ρ} (hd : decode cc pc = .ok (.ifCond .le off, 3)) (ht : (pc : Int) + off = (tgt : Int)) (h : (if x ≤ 0 then a else b) = some X) (kt : x ≤ 0 → a = some X → JJ γ p l e R s m args below meth c nL cells slots Q S μ (tgt) (lv) (st)) (kf : ¬ (x ≤ 0) → b = some X → JJ γ p l e R s m args below meth c nL cells slots Q S μ (pc + 3) (lv) (st)) : JJ γ p l e R s m args below meth c nL cells slots Q S μ (pc) (lv) (.int x :: st) :=
  fun H locs ls hW hS hl => lv_if_le F.1 F.2.1 hd ht (fun q => kt q (by rw [if_pos q] at h; exact h) H locs ls hW hS hl) (fun q => kf q (by rw [if_neg q] at h; exact h) H locs ls hW hS hl)
theorem j_icmple (F : FX γ p s m args meth c cc own nL) {x y : Int32} {off : Int} (tgt : Nat) {a b : Option ρ} (hd : decode cc pc = .ok (.if_icmp .le off, 3)) (ht : (pc : Int) + off = (tgt : Int)) (h : (if x ≤ y then a else b) = some X) (kt : x ≤ y → a = some X → JJ γ p l e R s m args below meth c nL cells slots Q S μ (tgt) (lv) (st)) (kf : ¬ (x ≤ y) → b = some X → JJ γ p l e R s m args below meth c nL cells slots Q S μ (pc + 3) (lv) (st)) : JJ γ p l e R s m args below meth c nL cells slots Q S μ (pc) (lv) (.int y :: .int x :: st) :=
  fun H locs ls hW hS hl => lv_icmp_le F.1 F.2.1 hd ht (fun q => kt q (by rw [if_pos q] at h; exact h) H locs ls hW hS hl) (fun q => kf q (by rw [if_neg q] at h; exact h) H locs ls hW hS hl)
theorem j_ifne (F : FX γ p s m args meth c cc own nL) {x : Int32} {off : Int} (tgt : Nat) {a b : Option ρ} (hd : decode cc pc = .ok (.ifCond .ne off, 3)) (ht : (pc : Int) + off = (tgt : Int)) (h : (if x = 0 then a else b) = some X) (kt : ¬ (x = 0) → b = some X → JJ γ p l e R s m args below meth c nL cells slots Q S μ (tgt) (lv) (st)) (kf : x = 0 → a = some X → JJ γ p l e R s m args below meth c nL cells slots Q S μ (pc + 3) (lv) (st)) : JJ γ p l e R s m args below meth c nL cells slots Q S μ (pc) (lv) (.int x :: st) :=
  fun H locs ls hW hS hl => lv_if_ne F.1 F.2.1 hd ht (fun q => kt q (by rw [if_neg q] at h; exact h) H locs ls hW hS hl) (fun q => kf q (by rw [if_pos q] at h; exact h) H locs ls hW hS hl)
theorem j_icmpne (F : FX γ p s m args meth c cc own nL) {x y : Int32} {off : Int} (tgt : Nat) {a b : Option ρ} (hd : decode cc pc = .ok (.if_icmp .ne off, 3)) (ht : (pc : Int) + off = (tgt : Int)) (h : (if x = y then a else b) = some X) (kt : ¬ (x = y) → b = some X → JJ γ p l e R s m args below meth c nL cells slots Q S μ (tgt) (lv) (st)) (kf : x = y → a = some X → JJ γ p l e R s m args below meth c nL cells slots Q S μ (pc + 3) (lv) (st)) : JJ γ p l e R s m args below meth c nL cells slots Q S μ (pc) (lv) (.int y :: .int x :: st) :=
  fun H locs ls hW hS hl => lv_icmp_ne F.1 F.2.1 hd ht (fun q => kt q (by rw [if_neg q] at h; exact h) H locs ls hW hS hl) (fun q => kf q (by rw [if_pos q] at h; exact h) H locs ls hW hS hl)
theorem j_lcmpeq (F : FX γ p s m args meth c cc own nL) {x y : Int64} {off : Int} (tgt : Nat) {a b : Option ρ} (hd : decode cc pc = .ok (.lcmp, 1)) (hd2 : decode cc (pc + 1) = .ok (.ifCond .eq off, 3)) (ht : ((pc + 1 : Nat) : Int) + off = (tgt : Int)) (h : (if x = y then a else b) = some X) (kt : x = y → a = some X → JJ γ p l e R s m args below meth c nL cells slots Q S μ (tgt) (lv) (st)) (kf : ¬ (x = y) → b = some X → JJ γ p l e R s m args below meth c nL cells slots Q S μ (pc + 1 + 3) (lv) (st)) : JJ γ p l e R s m args below meth c nL cells slots Q S μ (pc) (lv) (.long y :: .long x :: st) :=
  fun H locs ls hW hS hl => W.lcmp F.1 F.2.1 hd (lv_if_eq F.1 F.2.1 hd2 ht (fun q => kt (lc_eq.mp q) (by rw [if_pos (lc_eq.mp q)] at h; exact h) H locs ls hW hS hl) (fun q => kf (fun z => q (lc_eq.mpr z)) (by rw [if_neg (fun z => q (lc_eq.mpr z))] at h; exact h) H locs ls hW hS hl))
theorem j_lcmplt (F : FX γ p s m args meth c cc own nL) {x y : Int64} {off : Int} (tgt : Nat) {a b : Option ρ} (hd : decode cc pc = .ok (.lcmp, 1)) (hd2 : decode cc (pc + 1) = .ok (.ifCond .lt off, 3)) (ht : ((pc + 1 : Nat) : Int) + off = (tgt : Int)) (h : (if x < y then a else b) = some X) (kt : x < y → a = some X → JJ γ p l e R s m args below meth c nL cells slots Q S μ (tgt) (lv) (st)) (kf : ¬ (x < y) → b = some X → JJ γ p l e R s m args below meth c nL cells slots Q S μ (pc + 1 + 3) (lv) (st)) : JJ γ p l e R s m args below meth c nL cells slots Q S μ (pc) (lv) (.long y :: .long x :: st) :=
  fun H locs ls hW hS hl => W.lcmp F.1 F.2.1 hd (lv_if_lt F.1 F.2.1 hd2 ht (fun q => kt (lc_lt.mp q) (by rw [if_pos (lc_lt.mp q)] at h; exact h) H locs ls hW hS hl) (fun q => kf (fun z => q (lc_lt.mpr z)) (by rw [if_neg (fun z => q (lc_lt.mpr z))] at h; exact h) H locs ls hW hS hl))
theorem j_lcmpge (F : FX γ p s m args meth c cc own nL) {x y : Int64} {off : Int} (tgt : Nat) {a b : Option ρ} (hd : decode cc pc = .ok (.lcmp, 1)) (hd2 : decode cc (pc + 1) = .ok (.ifCond .ge off, 3)) (ht : ((pc + 1 : Nat) : Int) + off = (tgt : Int)) (h : (if y ≤ x then a else b) = some X) (kt : y ≤ x → a = some X → JJ γ p l e R s m args below meth c nL cells slots Q S μ (tgt) (lv) (st)) (kf : ¬ (y ≤ x) → b = some X → JJ γ p l e R s m args below meth c nL cells slots Q S μ (pc + 1 + 3) (lv) (st)) : JJ γ p l e R s m args below meth c nL cells slots Q S μ (pc) (lv) (.long y :: .long x :: st) :=
  fun H locs ls hW hS hl => W.lcmp F.1 F.2.1 hd (lv_if_ge F.1 F.2.1 hd2 ht (fun q => kt (lc_ge.mp q) (by rw [if_pos (lc_ge.mp q)] at h; exact h) H locs ls hW hS hl) (fun q => kf (fun z => q (lc_ge.mpr z)) (by rw [if_neg (fun z => q (lc_ge.mpr z))] at h; exact h) H locs ls hW hS hl))
theorem j_lcmpgt (F : FX γ p s m args meth c cc own nL) {x y : Int64} {off : Int} (tgt : Nat) {a b : Option ρ} (hd : decode cc pc = .ok (.lcmp, 1)) (hd2 : decode cc (pc + 1) = .ok (.ifCond .gt off, 3)) (ht : ((pc + 1 : Nat) : Int) + off = (tgt : Int)) (h : (if y < x then a else b) = some X) (kt : y < x → a = some X → JJ γ p l e R s m args below meth c nL cells slots Q S μ (tgt) (lv) (st)) (kf : ¬ (y < x) → b = some X → JJ γ p l e R s m args below meth c nL cells slots Q S μ (pc + 1 + 3) (lv) (st)) : JJ γ p l e R s m args below meth c nL cells slots Q S μ (pc) (lv) (.long y :: .long x :: st) :=
  fun H locs ls hW hS hl => W.lcmp F.1 F.2.1 hd (lv_if_gt F.1 F.2.1 hd2 ht (fun q => kt (lc_gt.mp q) (by rw [if_pos (lc_gt.mp q)] at h; exact h) H locs ls hW hS hl) (fun q => kf (fun z => q (lc_gt.mpr z)) (by rw [if_neg (fun z => q (lc_gt.mpr z))] at h; exact h) H locs ls hW hS hl))
theorem j_lcmple (F : FX γ p s m args meth c cc own nL) {x y : Int64} {off : Int} (tgt : Nat) {a b : Option ρ} (hd : decode cc pc = .ok (.lcmp, 1)) (hd2 : decode cc (pc + 1) = .ok (.ifCond .le off, 3)) (ht : ((pc + 1 : Nat) : Int) + off = (tgt : Int)) (h : (if x ≤ y then a else b) = some X) (kt : x ≤ y → a = some X → JJ γ p l e R s m args below meth c nL cells slots Q S μ (tgt) (lv) (st)) (kf : ¬ (x ≤ y) → b = some X → JJ γ p l e R s m args below meth c nL cells slots Q S μ (pc + 1 + 3) (lv) (st)) : JJ γ p l e R s m args below meth c nL cells slots Q S μ (pc) (lv) (.long y :: .long x :: st) :=
  fun H locs ls hW hS hl => W.lcmp F.1 F.2.1 hd (lv_if_le F.1 F.2.1 hd2 ht (fun q => kt (lc_le.mp q) (by rw [if_pos (lc_le.mp q)] at h; exact h) H locs ls hW hS hl) (fun q => kf (fun z => q (lc_le.mpr z)) (by rw [if_neg (fun z => q (lc_le.mpr z))] at h; exact h) H locs ls hW hS hl))
theorem j_lcmpne (F : FX γ p s m args meth c cc own nL) {x y : Int64} {off : Int} (tgt : Nat) {a b : Option ρ} (hd : decode cc pc = .ok (.lcmp, 1)) (hd2 : decode cc (pc + 1) = .ok (.ifCond .ne off, 3)) (ht : ((pc + 1 : Nat) : Int) + off = (tgt : Int)) (h : (if x = y then a else b) = some X) (kt : ¬ (x = y) → b = some X → JJ γ p l e R s m args below meth c nL cells slots Q S μ (tgt) (lv) (st)) (kf : x = y → a = some X → JJ γ p l e R s m args below meth c nL cells slots Q S μ (pc + 1 + 3) (lv) (st)) : JJ γ p l e R s m args below meth c nL cells slots Q S μ (pc) (lv) (.long y :: .long x :: st) :=
  fun H locs ls hW hS hl => W.lcmp F.1 F.2.1 hd (lv_if_ne F.1 F.2.1 hd2 ht (fun q => kt (fun z => q (lc_eq.mpr z)) (by rw [if_neg (fun z => q (lc_eq.mpr z))] at h; exact h) H locs ls hW hS hl) (fun q => kf (lc_eq.mp q) (by rw [if_pos (lc_eq.mp q)] at h; exact h) H locs ls hW hS hl))
theorem j_goto (F : FX γ p s m args meth c cc own nL) {off : Int} (tgt : Nat) (hd : decode cc pc = .ok (.goto off, 3)) (ht : (pc : Int) + off = (tgt : Int)) (k : JJ γ p l e R s m args below meth c nL cells slots Q S μ (tgt) (lv) (st)) : JJ γ p l e R s m args below meth c nL cells slots Q S μ (pc) (lv) (st) :=
  fun H locs ls hW hS hl => lv_goto F.1 F.2.1 hd ht (k H locs ls hW hS hl)
theorem j_idiv (F : FX γ p s m args meth c cc own nL) {x y : Int32} {K : Int32 → Option ρ} (hd : decode cc pc = .ok (.idiv, 1)) (h : (o_idiv x y).bind K = some X) (k : ∀ v, K v = some X → JJ γ p l e R s m args below meth c nL cells slots Q S μ (pc + 1) (lv) (.int v :: st)) : JJ γ p l e R s m args below meth c nL cells slots Q S μ (pc) (lv) (.int y :: .int x :: st) := by
  obtain ⟨v, hv, h⟩ := bd_some h
  unfold o_idiv at hv
  split at hv
  · cases hv
  · cases hv
    exact fun H locs ls hW hS hl => lv_idiv F.1 F.2.1 hd (by assumption) (k _ h H locs ls hW hS hl)
theorem j_idivc (F : FX γ p s m args meth c cc own nL) {x y : Int32} (hd : decode cc pc = .ok (.idiv, 1)) (hy : ¬ y = 0) (k : JJ γ p l e R s m args below meth c nL cells slots Q S μ (pc + 1) (lv) (.int (x / y) :: st)) : JJ γ p l e R s m args below meth c nL cells slots Q S μ (pc) (lv) (.int y :: .int x :: st) :=
  fun H locs ls hW hS hl => lv_idiv F.1 F.2.1 hd hy (k H locs ls hW hS hl)
theorem j_irem (F : FX γ p s m args meth c cc own nL) {x y : Int32} {K : Int32 → Option ρ} (hd : decode cc pc = .ok (.irem, 1)) (h : (o_irem x y).bind K = some X) (k : ∀ v, K v = some X → JJ γ p l e R s m args below meth c nL cells slots Q S μ (pc + 1) (lv) (.int v :: st)) : JJ γ p l e R s m args below meth c nL cells slots Q S μ (pc) (lv) (.int y :: .int x :: st) := by
  obtain ⟨v, hv, h⟩ := bd_some h
  unfold o_irem at hv
  split at hv
  · cases hv
  · cases hv
    exact fun H locs ls hW hS hl => lv_irem F.1 F.2.1 hd (by assumption) (k _ h H locs ls hW hS hl)
theorem j_iremc (F : FX γ p s m args meth c cc own nL) {x y : Int32} (hd : decode cc pc = .ok (.irem, 1)) (hy : ¬ y = 0) (k : JJ γ p l e R s m args below meth c nL cells slots Q S μ (pc + 1) (lv) (.int (x - x / y * y) :: st)) : JJ γ p l e R s m args below meth c nL cells slots Q S μ (pc) (lv) (.int y :: .int x :: st) :=
  fun H locs ls hW hS hl => lv_irem F.1 F.2.1 hd hy (k H locs ls hW hS hl)
theorem j_ldiv (F : FX γ p s m args meth c cc own nL) {x y : Int64} {K : Int64 → Option ρ} (hd : decode cc pc = .ok (.ldiv, 1)) (h : (o_ldiv x y).bind K = some X) (k : ∀ v, K v = some X → JJ γ p l e R s m args below meth c nL cells slots Q S μ (pc + 1) (lv) (.long v :: st)) : JJ γ p l e R s m args below meth c nL cells slots Q S μ (pc) (lv) (.long y :: .long x :: st) := by
  obtain ⟨v, hv, h⟩ := bd_some h
  unfold o_ldiv at hv
  split at hv
  · cases hv
  · cases hv
    exact fun H locs ls hW hS hl => lv_ldiv F.1 F.2.1 hd (by assumption) (k _ h H locs ls hW hS hl)
theorem j_ldivc (F : FX γ p s m args meth c cc own nL) {x y : Int64} (hd : decode cc pc = .ok (.ldiv, 1)) (hy : ¬ y = 0) (k : JJ γ p l e R s m args below meth c nL cells slots Q S μ (pc + 1) (lv) (.long (x / y) :: st)) : JJ γ p l e R s m args below meth c nL cells slots Q S μ (pc) (lv) (.long y :: .long x :: st) :=
  fun H locs ls hW hS hl => lv_ldiv F.1 F.2.1 hd hy (k H locs ls hW hS hl)
theorem j_lrem (F : FX γ p s m args meth c cc own nL) {x y : Int64} {K : Int64 → Option ρ} (hd : decode cc pc = .ok (.lrem, 1)) (h : (o_lrem x y).bind K = some X) (k : ∀ v, K v = some X → JJ γ p l e R s m args below meth c nL cells slots Q S μ (pc + 1) (lv) (.long v :: st)) : JJ γ p l e R s m args below meth c nL cells slots Q S μ (pc) (lv) (.long y :: .long x :: st) := by
  obtain ⟨v, hv, h⟩ := bd_some h
  unfold o_lrem at hv
  split at hv
  · cases hv
  · cases hv
    exact fun H locs ls hW hS hl => lv_lrem F.1 F.2.1 hd (by assumption) (k _ h H locs ls hW hS hl)
theorem j_lremc (F : FX γ p s m args meth c cc own nL) {x y : Int64} (hd : decode cc pc = .ok (.lrem, 1)) (hy : ¬ y = 0) (k : JJ γ p l e R s m args below meth c nL cells slots Q S μ (pc + 1) (lv) (.long (x - x / y * y) :: st)) : JJ γ p l e R s m args below meth c nL cells slots Q S μ (pc) (lv) (.long y :: .long x :: st) :=
  fun H locs ls hW hS hl => lv_lrem F.1 F.2.1 hd hy (k H locs ls hW hS hl)
theorem ofB {x : Int32} {n : Nat} {ρ : Type} {a : ρ} {X : ρ} (h : (if inb x n = true then some a else none) = some X) : inb x n = true ∧ a = X := by
  by_cases hi : inb x n = true
  · rw [if_pos hi] at h; exact ⟨hi, Option.some.inj h⟩
  · rw [if_neg hi] at h; cases h
theorem j_gI (F : FX γ p s m args meth c cc own nL) {idx ci o j : Nat} {K : Int32 → Option ρ} (hf : FL own idx ci j) (ht : kI (tyf ci j) = true) (hd : decode cc pc = .ok (.getfield idx, 3)) (h : (gI S ci o j μ).bind K = some X) (k : ∀ v, K v = some X → JJ γ p l e R s m args below meth c nL cells slots Q S μ (pc + 3) lv (.int v :: st)) : JJ γ p l e R s m args below meth c nL cells slots Q S μ pc lv (.ref (gb γ + o) :: st) := by
  obtain ⟨v, hv, h⟩ := bd_some h
  unfold gI at hv
  by_cases hi : isO S ci o = true
  · rw [if_pos hi] at hv
    cases hv
    obtain ⟨ho, rs, hs⟩ := isO_spec hi
    obtain ⟨C, T, N, ⟨c1, c2, c3, c4, c5⟩, hj, hw, hC⟩ := hf
    intro H locs ls hW hS hl
    refine va_get (D := gD γ) (ci := ci) (v := .int (μ.1 o j)) (C := C) (T := T) (N := N) F.1 F.2.1 F.2.2.2.2.1 c3 F.2.2.2.1 F.2.2.2.2.2.1.1 (hW.ob ho hs) 0 rfl c1 j hj (F.2.2.2.2.1 _ hw) (by rw [hC]; exact fun _ h9 => h9) ?_ hd (k _ h H locs ls hW hS hl)
    rw [fvl_get (by rw [c2]; exact hj), fvl_I ht]
  · rw [if_neg hi] at hv; cases hv
theorem j_gL (F : FX γ p s m args meth c cc own nL) {idx ci o j : Nat} {K : Int64 → Option ρ} (hf : FL own idx ci j) (ht : tyf ci j = .long) (hd : decode cc pc = .ok (.getfield idx, 3)) (h : (gL S ci o j μ).bind K = some X) (k : ∀ v, K v = some X → JJ γ p l e R s m args below meth c nL cells slots Q S μ (pc + 3) lv (.long v :: st)) : JJ γ p l e R s m args below meth c nL cells slots Q S μ pc lv (.ref (gb γ + o) :: st) := by
  obtain ⟨v, hv, h⟩ := bd_some h
  unfold gL at hv
  by_cases hi : isO S ci o = true
  · rw [if_pos hi] at hv
    cases hv
    obtain ⟨ho, rs, hs⟩ := isO_spec hi
    obtain ⟨C, T, N, ⟨c1, c2, c3, c4, c5⟩, hj, hw, hC⟩ := hf
    intro H locs ls hW hS hl
    refine va_get (D := gD γ) (ci := ci) (v := .long (μ.2 o j)) (C := C) (T := T) (N := N) F.1 F.2.1 F.2.2.2.2.1 c3 F.2.2.2.1 F.2.2.2.2.2.1.1 (hW.ob ho hs) 0 rfl c1 j hj (F.2.2.2.2.1 _ hw) (by rw [hC]; exact fun _ h9 => h9) ?_ hd (k _ h H locs ls hW hS hl)
    rw [fvl_get (by rw [c2]; exact hj), fvl_L ht]
  · rw [if_neg hi] at hv; cases hv
theorem j_gR (F : FX γ p s m args meth c cc own nL) {idx ci o j : Nat} {K : Nat → Option ρ} (hf : FL own idx ci j) (ht : kR (tyf ci j) = true) (hd : decode cc pc = .ok (.getfield idx, 3)) (h : (gR S ci o j).bind K = some X) (k : ∀ v, K v = some X → JJ γ p l e R s m args below meth c nL cells slots Q S μ (pc + 3) lv (.ref (gb γ + v) :: st)) : JJ γ p l e R s m args below meth c nL cells slots Q S μ pc lv (.ref (gb γ + o) :: st) := by
  obtain ⟨v, hv, h⟩ := bd_some h
  obtain ⟨ho, rs, hs, hr⟩ := gR_spec hv
  obtain ⟨C, T, N, ⟨c1, c2, c3, c4, c5⟩, hj, hw, hC⟩ := hf
  intro H locs ls hW hS hl
  refine va_get (D := gD γ) (ci := ci) (v := .ref (gb γ + v)) (C := C) (T := T) (N := N) F.1 F.2.1 F.2.2.2.2.1 c3 F.2.2.2.1 F.2.2.2.2.2.1.1 (hW.ob ho hs) 0 rfl c1 j hj (F.2.2.2.2.1 _ hw) (by rw [hC]; exact fun _ h9 => h9) ?_ hd (k _ h H locs ls hW hS hl)
  rw [fvl_get (by rw [c2]; exact hj), fvl_R ht, hr]
  rfl
/-- a field is written: any value that fits, the memory changes at o alone -/
theorem j_put (F : FX γ p s m args meth c cc own nL) {idx ci o j : Nat} {v : Value} {μ' : Mem} {ty : FieldType} (hf : FW own idx ci j) (hty : tyf ci j = ty) (hn : narrow ty v = v) (hfit : fits ty v = true) (hi : isO S ci o = true) (hd : decode cc pc = .ok (.putfield idx, 3)) (hm : ∀ k, k ≠ o → μ'.1 k = μ.1 k ∧ μ'.2 k = μ.2 k) (hv : ∀ rs i, fvl γ μ' o ci rs i = if i = j then v else fvl γ μ o ci rs i)
    (k : JJ γ p l e R s m args below meth c nL cells slots Q S μ' (pc + 3) lv st) : JJ γ p l e R s m args below meth c nL cells slots Q S μ pc lv (v :: .ref (gb γ + o) :: st) := by
  obtain ⟨ho, rs, hs⟩ := isO_spec hi
  obtain ⟨C, T, N, ⟨c1, c2, c3, c4, c5⟩, hj, hw, hC, hfin⟩ := hf
  intro H locs ls hW hS hl
  have hK := F.2.2.2.2.2.1.1
  have hts := F.2.2.2.2.1
  have hap := va_apart (own := own) hts c3 (tyf ci) c4 c5 hK c1
  obtain ⟨r, h1, cell, q1, q2, q3, q4⟩ := hW.ob ho hs 0 _ rfl
  have hr : r = (C, T, N) := Option.some.inj (h1.symm.trans c1)
  subst hr
  obtain ⟨hSl, hfc, kC, hkC, hkind⟩ := hK.1 ci _ c1
  obtain ⟨cf, kf, fi, f, hif, hsl⟩ := hSl j hj
  have hlay := hts _ (c3 _ (u_in_lay hj))
  unfold u_lay at hlay
  rw [if_neg (by rw [hfin]; decide)] at hlay
  have hst := (u_facts hfc hkC (u_lays hts c3 hj) hif).1
  have h6 := u_store hfc hkC hkind hlay hif (by rw [c4 j hj, hty]) hn hfit
  refine W.putK F.1 F.2.1 (f := f) ⟨F.2.2.2.1, hts _ hw, ⟨_, _, _, by rw [hC] at hif; exact hif⟩, hst⟩ (by rw [q2]; exact h6) q1 q3 (by rw [hsl]; exact k2_hasslot (q4 j hj)) rfl rfl hd fun H' e1 e2 e3 => ?_
  rw [hsl] at e1 ⊢
  refine k H' _ ls (hW.set e2 e3 ?_ hm) (hS.put e2 e3 (Nat.le_add_right _ _)) hl
  rw [hs]
  refine ⟨_, c1, t_OB.to (V := updV (vp_V ((List.range (nf ci)).map (fvl γ μ o ci rs))) j v) ⟨_, e1, q2, q3, t_set q4 hap hj v⟩ (fun i hi => ?_)⟩
  have hi' : i < nf ci := by rw [c2]; exact hi
  show updV (vp_V ((List.range (nf ci)).map (fvl γ μ o ci rs))) j v i = vp_V ((List.range (nf ci)).map (fvl γ μ' o ci rs)) i
  have e : ∀ ν : Mem, vp_V ((List.range (nf ci)).map (fvl γ ν o ci rs)) i = fvl γ ν o ci rs i := fun ν => by
    unfold vp_V
    rw [List.getD_eq_getElem?_getD, fvl_get hi']; rfl
  rw [e μ', hv rs i]
  unfold updV
  by_cases q : i = j
  · rw [if_pos q, if_pos q]
  · rw [if_neg q, if_neg q, e μ]
theorem upI_off {μ : Mem} {o j : Nat} {v : Int32} : ∀ k, k ≠ o → (upI μ o j v).1 k = μ.1 k ∧ (upI μ o j v).2 k = μ.2 k := fun k hk => ⟨by funext i; simp [upI, hk], rfl⟩
theorem upL_off {μ : Mem} {o j : Nat} {v : Int64} : ∀ k, k ≠ o → (upL μ o j v).1 k = μ.1 k ∧ (upL μ o j v).2 k = μ.2 k := fun k hk => ⟨rfl, by funext i; simp [upL, hk]⟩
theorem fvl_upI {μ : Mem} {o j ci : Nat} {v : Int32} (ht : kI (tyf ci j) = true) (rs : Nat → Option Nat) (i : Nat) : fvl γ (upI μ o j v) o ci rs i = if i = j then .int v else fvl γ μ o ci rs i := by
  by_cases q : i = j
  · subst q
    rw [if_pos rfl, fvl_I ht]
    simp [upI]
  · rw [if_neg q]
    unfold fvl
    have e : (upI μ o j v).1 o i = μ.1 o i := by simp [upI, q]
    rw [e]
    rfl
theorem fvl_upL {μ : Mem} {o j ci : Nat} {v : Int64} (ht : tyf ci j = .long) (rs : Nat → Option Nat) (i : Nat) : fvl γ (upL μ o j v) o ci rs i = if i = j then .long v else fvl γ μ o ci rs i := by
  by_cases q : i = j
  · subst q
    rw [if_pos rfl, fvl_L ht]
    simp [upL]
  · rw [if_neg q]
    unfold fvl
    have e : (upL μ o j v).2 o i = μ.2 o i := by simp [upL, q]
    rw [e]
    rfl
theorem j_pI (F : FX γ p s m args meth c cc own nL) {idx ci o j : Nat} {v : Int32} {K : Mem → Option ρ} (hf : FW own idx ci j) (ht : tyf ci j = .int) (hd : decode cc pc = .ok (.putfield idx, 3)) (h : (pI S ci o j v μ).bind K = some X) (k : ∀ ν, K ν = some X → JJ γ p l e R s m args below meth c nL cells slots Q S ν (pc + 3) lv st) : JJ γ p l e R s m args below meth c nL cells slots Q S μ pc lv (.int v :: .ref (gb γ + o) :: st) := by
  obtain ⟨ν, hv, h⟩ := bd_some h
  unfold pI at hv
  by_cases hi : isO S ci o = true
  · rw [if_pos hi] at hv
    cases hv
    exact j_put F hf ht rfl rfl hi hd upI_off (fun rs i => fvl_upI (by rw [ht]; rfl) rs i) (k _ h)
  · rw [if_neg hi] at hv; cases hv
theorem j_pZ (F : FX γ p s m args meth c cc own nL) {idx ci o j : Nat} {v : Int32} {K : Mem → Option ρ} (hf : FW own idx ci j) (ht : tyf ci j = .boolean) (hd : decode cc pc = .ok (.putfield idx, 3)) (h : (pZ S ci o j v μ).bind K = some X) (k : ∀ ν, K ν = some X → JJ γ p l e R s m args below meth c nL cells slots Q S ν (pc + 3) lv st) : JJ γ p l e R s m args below meth c nL cells slots Q S μ pc lv (.int v :: .ref (gb γ + o) :: st) := by
  obtain ⟨ν, hv, h⟩ := bd_some h
  unfold pZ at hv
  by_cases hi : isO S ci o = true ∧ (v = 0 ∨ v = 1)
  · rw [if_pos hi] at hv
    cases hv
    refine j_put F hf ht ?_ ?_ hi.1 hd upI_off (fun rs i => fvl_upI (by rw [ht]; rfl) rs i) (k _ h)
    · rcases hi.2 with q | q <;> subst q <;> rfl
    · rcases hi.2 with q | q <;> subst q <;> rfl
  · rw [if_neg hi] at hv; cases hv
theorem j_pL (F : FX γ p s m args meth c cc own nL) {idx ci o j : Nat} {v : Int64} {K : Mem → Option ρ} (hf : FW own idx ci j) (ht : tyf ci j = .long) (hd : decode cc pc = .ok (.putfield idx, 3)) (h : (pL S ci o j v μ).bind K = some X) (k : ∀ ν, K ν = some X → JJ γ p l e R s m args below meth c nL cells slots Q S ν (pc + 3) lv st) : JJ γ p l e R s m args below meth c nL cells slots Q S μ pc lv (.long v :: .ref (gb γ + o) :: st) := by
  obtain ⟨ν, hv, h⟩ := bd_some h
  unfold pL at hv
  by_cases hi : isO S ci o = true
  · rw [if_pos hi] at hv
    cases hv
    exact j_put F hf ht rfl rfl hi hd upL_off (fun rs i => fvl_upL ht rs i) (k _ h)
  · rw [if_neg hi] at hv; cases hv
/-! arrays -/
theorem j_iald (F : FX γ p s m args meth c cc own nL) {o : Nat} {i : Int32} {K : Int32 → Option ρ} (hd : decode cc pc = .ok (.iaload, 1)) (h : (aI S .int o i μ).bind K = some X) (k : ∀ v, K v = some X → JJ γ p l e R s m args below meth c nL cells slots Q S μ (pc + 1) lv (.int v :: st)) : JJ γ p l e R s m args below meth c nL cells slots Q S μ pc lv (.int i :: .ref (gb γ + o) :: st) := by
  obtain ⟨v, hv, h⟩ := bd_some h
  obtain ⟨n, hn, hv⟩ := bd_some hv
  obtain ⟨hi, rfl⟩ := ofB hv
  obtain ⟨ho, rs, hs⟩ := isA_spec hn
  intro H locs ls hW hS hl
  have hP := hW.ar ho hs
  rw [celA_I rfl] at hP
  exact va_iald F.1 F.2.1 F.2.2.2.2.2.1.1 hP 0 0 rfl rfl (inb_in hi) hd (k _ h H locs ls hW hS hl)
theorem j_bald (F : FX γ p s m args meth c cc own nL) {o : Nat} {i : Int32} {K : Int32 → Option ρ} (hd : decode cc pc = .ok (.baload, 1)) (h : (aI S .byte o i μ).bind K = some X) (k : ∀ v, K v = some X → JJ γ p l e R s m args below meth c nL cells slots Q S μ (pc + 1) lv (.int v :: st)) : JJ γ p l e R s m args below meth c nL cells slots Q S μ pc lv (.int i :: .ref (gb γ + o) :: st) := by
  obtain ⟨v, hv, h⟩ := bd_some h
  obtain ⟨n, hn, hv⟩ := bd_some hv
  obtain ⟨hi, rfl⟩ := ofB hv
  obtain ⟨ho, rs, hs⟩ := isA_spec hn
  intro H locs ls hW hS hl
  have hP := hW.ar ho hs
  rw [celA_I rfl] at hP
  exact va_bald F.1 F.2.1 F.2.2.2.2.2.1.1 hP 0 2 rfl rfl (inb_in hi) hd (k _ h H locs ls hW hS hl)
theorem j_zald (F : FX γ p s m args meth c cc own nL) {o : Nat} {i : Int32} {K : Int32 → Option ρ} (hd : decode cc pc = .ok (.baload, 1)) (h : (aI S .boolean o i μ).bind K = some X) (k : ∀ v, K v = some X → JJ γ p l e R s m args below meth c nL cells slots Q S μ (pc + 1) lv (.int v :: st)) : JJ γ p l e R s m args below meth c nL cells slots Q S μ pc lv (.int i :: .ref (gb γ + o) :: st) := by
  obtain ⟨v, hv, h⟩ := bd_some h
  obtain ⟨n, hn, hv⟩ := bd_some hv
  obtain ⟨hi, rfl⟩ := ofB hv
  obtain ⟨ho, rs, hs⟩ := isA_spec hn
  intro H locs ls hW hS hl
  have hP := hW.ar ho hs
  rw [celA_I rfl] at hP
  exact va_zald F.1 F.2.1 F.2.2.2.2.2.1.1 hP 0 3 rfl rfl (inb_in hi) hd (k _ h H locs ls hW hS hl)
theorem j_lald (F : FX γ p s m args meth c cc own nL) {o : Nat} {i : Int32} {K : Int64 → Option ρ} (hd : decode cc pc = .ok (.laload, 1)) (h : (aL S o i μ).bind K = some X) (k : ∀ v, K v = some X → JJ γ p l e R s m args below meth c nL cells slots Q S μ (pc + 1) lv (.long v :: st)) : JJ γ p l e R s m args below meth c nL cells slots Q S μ pc lv (.int i :: .ref (gb γ + o) :: st) := by
  obtain ⟨v, hv, h⟩ := bd_some h
  obtain ⟨n, hn, hv⟩ := bd_some hv
  obtain ⟨hi, rfl⟩ := ofB hv
  obtain ⟨ho, rs, hs⟩ := isA_spec hn
  intro H locs ls hW hS hl
  have hP := hW.ar ho hs
  exact va_lald F.1 F.2.1 F.2.2.2.2.2.1.1 hP 0 1 rfl rfl (inb_in hi) hd (k _ h H locs ls hW hS hl)
theorem j_aald (F : FX γ p s m args meth c cc own nL) {o : Nat} {i : Int32} {ty : FieldType} (t0 : Nat) {K : Nat → Option ρ} (hty : kR ty = true) (hr : ty.isReference = true) (ht : (tysG γ)[t0]? = some (gA γ ty, ty)) (hd : decode cc pc = .ok (.aaload, 1)) (h : (aR S ty o i).bind K = some X) (k : ∀ v, K v = some X → JJ γ p l e R s m args below meth c nL cells slots Q S μ (pc + 1) lv (.ref (gb γ + v) :: st)) : JJ γ p l e R s m args below meth c nL cells slots Q S μ pc lv (.int i :: .ref (gb γ + o) :: st) := by
  obtain ⟨v, hv, h⟩ := bd_some h
  obtain ⟨ho, n, rs, hs, hi, hrs⟩ := aR_spec hv
  intro H locs ls hW hS hl
  have hP := hW.ar ho hs
  rw [celA_R hty] at hP
  have hin := inb_in hi
  have hlt : i.toNatClampNeg < n := Nat.not_le.mp fun q => hin (Or.inr q)
  have hK := F.2.2.2.2.2.1.1
  exact W.aald (v := .ref (gb γ + v)) (ty := ty) F.1 F.2.1 (hP 0 _ rfl) ((hK.2 t0 _ ht).1 n (fun j => va_rf ((rs j).map (gb γ + ·)))) hr (fun q => by cases q) (by show ¬ (i < 0 ∨ (arrV _ _ _).slots.size ≤ _); rw [arrV_size]; exact hin) (by show (arrV _ _ _).slots[_]? = _; rw [arrV_read _ _ hlt]; show some (va_rf ((rs i.toNatClampNeg).map (gb γ + ·))) = _; rw [hrs]; rfl) rfl rfl hd (k _ h H locs ls hW hS hl)
theorem j_alen (F : FX γ p s m args meth c cc own nL) {o : Nat} {ty : FieldType} (t0 : Nat) {K : Int32 → Option ρ} (ht : (tysG γ)[t0]? = some (gA γ ty, ty)) (hd : decode cc pc = .ok (.arraylength, 1)) (h : (aN S ty o).bind K = some X) (k : ∀ v, K v = some X → JJ γ p l e R s m args below meth c nL cells slots Q S μ (pc + 1) lv (.int v :: st)) : JJ γ p l e R s m args below meth c nL cells slots Q S μ pc lv (.ref (gb γ + o) :: st) := by
  obtain ⟨v, hv, h⟩ := bd_some h
  unfold aN at hv
  cases hA : isA S ty o with
  | none => rw [hA] at hv; cases hv
  | some n =>
    rw [hA] at hv
    cases hv
    obtain ⟨ho, rs, hs⟩ := isA_spec hA
    intro H locs ls hW hS hl
    have hP := hW.ar ho hs
    refine va_alen F.1 F.2.1 F.2.2.2.2.2.1.1 hP 0 t0 rfl ht (v := Int32.ofNat n) ?_ hd (k _ h H locs ls hW hS hl)
    unfold celA; cases ty <;> rfl
/-- an int-like array's place is written -/
theorem j_ast {o n : Nat} {ty : FieldType} {rs : Nat → Option Nat} {i v : Int32} (hty : kI ty = true) (ho : o < S.1) (hs : S.2 o = .inr (ty, n, rs)) {H H1 : Heap} (hW : Wd γ S μ H) (e : H1[gb γ + o]? = some ((vp_cell (gA γ ty) (n, .inl (μ.1 o))).setSlot i.toNatClampNeg (.int v))) (z : H1.size = H.size) (oq : ∀ q, q ≠ gb γ + o → H1[q]? = H[q]?) : Wd γ S (upI μ o i.toNatClampNeg v) H1 := by
  refine hW.set z oq ?_ upI_off
  rw [hs]
  show H1[gb γ + o]? = some (vp_cell (gA γ ty) (celA γ (upI μ o i.toNatClampNeg v) o ty n rs))
  rw [celA_I hty, e, vp_cell_i, vp_cell_i, arrV_store]
  congr 2
  funext q
  by_cases hq : q = i.toNatClampNeg
  · simp [updV, upI, hq]
  · simp [updV, upI, hq]
theorem j_iast (F : FX γ p s m args meth c cc own nL) {o : Nat} {i v : Int32} {K : Mem → Option ρ} (hd : decode cc pc = .ok (.iastore, 1)) (h : (sI S o i v μ).bind K = some X) (k : ∀ ν, K ν = some X → JJ γ p l e R s m args below meth c nL cells slots Q S ν (pc + 1) lv st) : JJ γ p l e R s m args below meth c nL cells slots Q S μ pc lv (.int v :: .int i :: .ref (gb γ + o) :: st) := by
  obtain ⟨ν, hv, h⟩ := bd_some h
  obtain ⟨n, hn, hv⟩ := bd_some hv
  obtain ⟨hi, rfl⟩ := ofB hv
  obtain ⟨ho, rs, hs⟩ := isA_spec hn
  intro H locs ls hW hS hl
  have hP := hW.ar ho hs
  refine W.iast F.1 F.2.1 (hP 0 _ rfl) ((F.2.2.2.2.2.1.1.2 0 _ rfl).1 n (fun j => .int (μ.1 o j))) (fun q => by cases q) (by show ¬ (i < 0 ∨ (arrV _ _ _).slots.size ≤ _); rw [arrV_size]; exact inb_in hi) rfl rfl hd fun H1 e z oq => ?_
  exact k _ h H1 _ ls (j_ast rfl ho hs hW e z oq) (hS.put z oq (Nat.le_add_right _ _)) hl
theorem j_bast (F : FX γ p s m args meth c cc own nL) {o : Nat} {i v : Int32} {K : Mem → Option ρ} (hd : decode cc pc = .ok (.bastore, 1)) (h : (sB S o i v μ).bind K = some X) (k : ∀ ν, K ν = some X → JJ γ p l e R s m args below meth c nL cells slots Q S ν (pc + 1) lv st) : JJ γ p l e R s m args below meth c nL cells slots Q S μ pc lv (.int v :: .int i :: .ref (gb γ + o) :: st) := by
  obtain ⟨ν, hv, h⟩ := bd_some h
  obtain ⟨n, hn, hv⟩ := bd_some hv
  obtain ⟨hi, rfl⟩ := ofB hv
  obtain ⟨ho, rs, hs⟩ := isA_spec hn
  intro H locs ls hW hS hl
  have hP := hW.ar ho hs
  refine W.bast F.1 F.2.1 (hP 0 _ rfl) ((F.2.2.2.2.2.1.1.2 2 _ rfl).1 n (fun j => .int (μ.1 o j))) (fun q => by cases q) (by show ¬ (i < 0 ∨ (arrV _ _ _).slots.size ≤ _); rw [arrV_size]; exact inb_in hi) rfl rfl hd fun H1 e z oq => ?_
  exact k _ h H1 _ ls (j_ast rfl ho hs hW e z oq) (hS.put z oq (Nat.le_add_right _ _)) hl
theorem j_zast (F : FX γ p s m args meth c cc own nL) {o : Nat} {i v : Int32} {K : Mem → Option ρ} (hd : decode cc pc = .ok (.bastore, 1)) (h : (sZ S o i v μ).bind K = some X) (k : ∀ ν, K ν = some X → JJ γ p l e R s m args below meth c nL cells slots Q S ν (pc + 1) lv st) : JJ γ p l e R s m args below meth c nL cells slots Q S μ pc lv (.int v :: .int i :: .ref (gb γ + o) :: st) := by
  obtain ⟨ν, hv, h⟩ := bd_some h
  obtain ⟨n, hn, hv⟩ := bd_some hv
  obtain ⟨hi, rfl⟩ := ofB hv
  obtain ⟨ho, rs, hs⟩ := isA_spec hn
  intro H locs ls hW hS hl
  have hP := hW.ar ho hs
  refine W.zast F.1 F.2.1 (hP 0 _ rfl) ((F.2.2.2.2.2.1.1.2 3 _ rfl).1 n (fun j => .int (μ.1 o j))) (fun q => by cases q) (by show ¬ (i < 0 ∨ (arrV _ _ _).slots.size ≤ _); rw [arrV_size]; exact inb_in hi) rfl rfl hd fun H1 e z oq => ?_
  exact k _ h H1 _ ls (j_ast rfl ho hs hW e z oq) (hS.put z oq (Nat.le_add_right _ _)) hl
theorem j_last (F : FX γ p s m args meth c cc own nL) {o : Nat} {i : Int32} {v : Int64} {K : Mem → Option ρ} (hd : decode cc pc = .ok (.lastore, 1)) (h : (sL S o i v μ).bind K = some X) (k : ∀ ν, K ν = some X → JJ γ p l e R s m args below meth c nL cells slots Q S ν (pc + 1) lv st) : JJ γ p l e R s m args below meth c nL cells slots Q S μ pc lv (.long v :: .int i :: .ref (gb γ + o) :: st) := by
  obtain ⟨ν, hv, h⟩ := bd_some h
  obtain ⟨n, hn, hv⟩ := bd_some hv
  obtain ⟨hi, rfl⟩ := ofB hv
  obtain ⟨ho, rs, hs⟩ := isA_spec hn
  intro H locs ls hW hS hl
  have hP := hW.ar ho hs
  refine W.last F.1 F.2.1 (hP 0 _ rfl) ((F.2.2.2.2.2.1.1.2 1 _ rfl).1 n (fun j => .long (μ.2 o j))) (fun q => by cases q) (by show ¬ (i < 0 ∨ (arrV _ _ _).slots.size ≤ _); rw [arrV_size]; exact inb_in hi) rfl rfl hd fun H1 e z oq => ?_
  refine k _ h H1 _ ls (hW.set z oq ?_ upL_off) (hS.put z oq (Nat.le_add_right _ _)) hl
  rw [hs]
  show H1[gb γ + o]? = some (vp_cell (gA γ .long) (celA γ (upL μ o i.toNatClampNeg v) o .long n rs))
  rw [e]
  show some ((vp_cell (gA γ .long) (n, .inr (.inl (μ.2 o)))).setSlot i.toNatClampNeg (.long v)) = some (vp_cell (gA γ .long) (n, .inr (.inl ((upL μ o i.toNatClampNeg v).2 o))))
  rw [vp_cell_l, vp_cell_l, arrV_store]
  congr 2
  funext q
  by_cases hq : q = i.toNatClampNeg
  · simp [updV, upL, hq]
  · simp [updV, upL, hq]
/-! static arrays, String constants -/
theorem j_gets (F : FX γ p s m args meth c cc own nL) {idx : Nat} (t : Nat) (ht : t < 5) (hw : Cond.fieldLink own idx "CranePads" (stN t) "[I" ∈ GG) (hd : decode cc pc = .ok (.getstatic idx, 3)) (k : JJ γ p l e R s m args below meth c nL cells slots Q S μ (pc + 3) lv (.ref (gs γ t) :: st)) : JJ γ p l e R s m args below meth c nL cells slots Q S μ pc lv st :=
  fun H locs ls hW hS hl => va_gets F.1 F.2.1 (F.2.2.2.2.2.1.2.2.2.1 t ht).1 hS F.2.2.2.1 (F.2.2.2.2.1 _ hw) (fun _ h9 => h9) hd (k H locs ls hW hS hl)
theorem j_getsN (F : FX γ p s m args meth c cc own nL) {idx : Nat} (t : Nat) (ht : t < 5) (hw : Cond.fieldLinkNest own idx "CranePads" (stN t) "[I" "CranePads" ∈ nestF) (hd : decode cc pc = .ok (.getstatic idx, 3)) (k : JJ γ p l e R s m args below meth c nL cells slots Q S μ (pc + 3) lv (.ref (gs γ t) :: st)) : JJ γ p l e R s m args below meth c nL cells slots Q S μ pc lv st :=
  fun H locs ls hW hS hl => va_getsN F.1 F.2.1 (F.2.2.2.2.2.1.2.2.2.1 t ht).1 hS F.2.2.2.1 (va_Nw.use rfl (F.2.2.2.2.2.1.2.1 _ hw)) (fun _ h9 => h9) hd (k H locs ls hW hS hl)
theorem j_tald (F : FX γ p s m args meth c cc own nL) {t : Nat} {i : Int32} {K : Int32 → Option ρ} (ht : t < 5) (hd : decode cc pc = .ok (.iaload, 1)) (h : (aT t i).bind K = some X) (k : ∀ v, K v = some X → JJ γ p l e R s m args below meth c nL cells slots Q S μ (pc + 1) lv (.int v :: st)) : JJ γ p l e R s m args below meth c nL cells slots Q S μ pc lv (.int i :: .ref (gs γ t) :: st) := by
  obtain ⟨v, hv, h⟩ := bd_some h
  obtain ⟨hi, rfl⟩ := ofB hv
  exact fun H locs ls hW hS hl => va_ti F.1 F.2.1 (F.2.2.2.2.2.1.2.2.2.1 t ht).2 hS (inb_in hi) rfl hd (k _ h H locs ls hW hS hl)
theorem j_ldcS (F : FX γ p s m args meth c cc own nL) {idx : Nat} (t : Nat) (ht : t < 10) (h1 : ksO t = own) (h2 : ksI t = idx) (hd : decode cc pc = .ok (.ldc idx, 2)) (k : JJ γ p l e R s m args below meth c nL cells slots Q S μ (pc + 2) lv (.ref (gK γ t) :: st)) : JJ γ p l e R s m args below meth c nL cells slots Q S μ pc lv st := by
  subst h1; subst h2
  exact fun H locs ls hW hS hl => va_ldcS F.1 F.2.1 F.2.2.2.1 (F.2.2.2.2.2.1.2.2.2.2.2.1 t ht) hd (k H locs ls hW hS hl)
theorem j_ldcSw (F : FX γ p s m args meth c cc own nL) {idx : Nat} (t : Nat) (ht : t < 10) (h1 : ksO t = own) (h2 : ksI t = idx) (hd : decode cc pc = .ok (.ldc_w idx, 3)) (k : JJ γ p l e R s m args below meth c nL cells slots Q S μ (pc + 3) lv (.ref (gK γ t) :: st)) : JJ γ p l e R s m args below meth c nL cells slots Q S μ pc lv st := by
  subst h1; subst h2
  intro H locs ls hW hS hl T hT XX
  obtain ⟨t9, a1, b1⟩ := k H locs ls hW hS hl T hT XX
  have hZ := F.2.2.2.2.2.1.2.2.2.2.2.1 t ht
  exact ⟨t9, XX.ldcStringW F.1 F.2.2.2.1 (text := ksT t) (a := gK γ t) hZ.1 hZ.2 (g := F0 m pc ls st) rfl (by rw [F.2.1]; exact hd) t9 a1, b1⟩
/-! Math -/
theorem j_mmax (F : FX γ p s m args meth c cc own nL) {idx : Nat} {x y : Int32} (hl : Cond.methodLink own idx Lib.Math.max.name ∈ GG) (hR : 1 ≤ R.frames ∧ (st.map fun v => v.category).sum + 13 ≤ R.locals ∧ cells ≤ R.cells ∧ slots ≤ R.slots) (hd : decode cc pc = .ok (.invokestatic idx, 3)) (hg : Cond.static Lib.Math.max.name ∈ GG ∧ Cond.initialized "java/lang/Math" ∈ GG ∧ Cond.code Lib.Math.max.name Lib.Math.max.code 2 (some .int) ∈ GG) (k : JJ γ p l e R s m args below meth c nL cells slots Q S μ (pc + 3) lv (.int (if x < y then y else x) :: st)) : JJ γ p l e R s m args below meth c nL cells slots Q S μ pc lv (.int y :: .int x :: st) :=
  fun H locs ls hW hS hlv => va_mmax F.1 F.2.1 (F.2.2.1.trans hlv.1.symm) F.2.2.2.1 (F.2.2.2.2.1 _ hl) (F.2.2.2.2.1 _ hg.1) (F.2.2.2.2.1 _ hg.2.1) (F.2.2.2.2.1 _ hg.2.2) hR.1 hR.2.1 hR.2.2.1 hR.2.2.2 hd (k H locs ls hW hS hlv)
theorem j_mmin (F : FX γ p s m args meth c cc own nL) {idx : Nat} {x y : Int32} (hl : Cond.methodLink own idx Lib.Math.min.name ∈ GG) (hR : 1 ≤ R.frames ∧ (st.map fun v => v.category).sum + 13 ≤ R.locals ∧ cells ≤ R.cells ∧ slots ≤ R.slots) (hd : decode cc pc = .ok (.invokestatic idx, 3)) (hg : Cond.static Lib.Math.min.name ∈ GG ∧ Cond.initialized "java/lang/Math" ∈ GG ∧ Cond.code Lib.Math.min.name Lib.Math.min.code 2 (some .int) ∈ GG) (k : JJ γ p l e R s m args below meth c nL cells slots Q S μ (pc + 3) lv (.int (if y < x then y else x) :: st)) : JJ γ p l e R s m args below meth c nL cells slots Q S μ pc lv (.int y :: .int x :: st) :=
  fun H locs ls hW hS hlv => va_mmin F.1 F.2.1 (F.2.2.1.trans hlv.1.symm) F.2.2.2.1 (F.2.2.2.2.1 _ hl) (F.2.2.2.2.1 _ hg.1) (F.2.2.2.2.1 _ hg.2.1) (F.2.2.2.2.1 _ hg.2.2) hR.1 hR.2.1 hR.2.2.1 hR.2.2.2 hd (k H locs ls hW hS hlv)
theorem j_mabs (F : FX γ p s m args meth c cc own nL) {idx : Nat} {x : Int64} (hl : Cond.methodLink own idx Lib.MathLoose.abs_long.x ∈ GG) (hR : 1 ≤ R.frames ∧ (st.map fun v => v.category).sum + 13 ≤ R.locals ∧ cells ≤ R.cells ∧ slots ≤ R.slots) (hd : decode cc pc = .ok (.invokestatic idx, 3)) (hg : Cond.static Lib.MathLoose.abs_long.x ∈ GG ∧ Cond.initialized "java/lang/Math" ∈ GG ∧ Cond.code Lib.MathLoose.abs_long.x Lib.MathLoose.abs_long.code 2 (some .long) ∈ GG) (k : JJ γ p l e R s m args below meth c nL cells slots Q S μ (pc + 3) lv (.long (if 0 < x then x else -x) :: st)) : JJ γ p l e R s m args below meth c nL cells slots Q S μ pc lv (.long x :: st) :=
  fun H locs ls hW hS hlv => va_mabs_long F.1 F.2.1 (F.2.2.1.trans hlv.1.symm) F.2.2.2.1 (F.2.2.2.2.1 _ hl) (F.2.2.2.2.1 _ hg.1) (F.2.2.2.2.1 _ hg.2.1) (F.2.2.2.2.1 _ hg.2.2) hR.1 hR.2.1 hR.2.2.1 hR.2.2.2 hd (k H locs ls hW hS hlv)
/-! locals -/
theorem j_lv (lv' : List (Nat × Value)) (ks : List Nat) (hl : lv_pick lv ks = lv') (k : JJ γ p l e R s m args below meth c nL cells slots Q S μ pc lv' st) : JJ γ p l e R s m args below meth c nL cells slots Q S μ pc lv st :=
  fun H locs ls hW hS h => k H locs ls hW hS (lv_sub h ks hl)

end Rows
/-! ===== contracts ===== -/
def Qm (γ : GE) (S : SH) (μ : Mem) (r : Option Value) : Array Value → State → Outcome → State → Prop := fun _ st o t => o = .returned r ∧ Wd γ S μ t.heap ∧ va_F (AA γ) st t
def Pm (γ : GE) (S : SH) (μ : Mem) (av : List Value) : Array Value → State → Prop := fun v U => v = av.toArray ∧ Ken γ U U.heap ∧ Wd γ S μ U.heap
def Ct (l : Launch) (γ : GE) (y : MethodName) (cc : ByteArray) (nL : Nat) (ret : Option FieldType) (rm : Room) (av : List Value) (S : SH) (μ : Mem) (S' : SH) (μ' : Mem) (r : Option Value) : Prop :=
  Met l y (Cond.code y cc nL ret :: GG) rm (Pm γ S μ av) (Qm γ S' μ' r) rm.cells rm.slots (AA γ)
def QI (below : List Frame) (γ : GE) (S : SH) (X : Int32 × Mem) (args : Array Value) (s : State) (mc ms : Nat) : State → Prop := MQ below (Qm γ S X.2 (some (.int X.1))) args s mc ms (AA γ)
def QL (below : List Frame) (γ : GE) (S : SH) (X : Int64 × Mem) (args : Array Value) (s : State) (mc ms : Nat) : State → Prop := MQ below (Qm γ S X.2 (some (.long X.1))) args s mc ms (AA γ)
def QV (below : List Frame) (γ : GE) (S : SH) (X : Unit × Mem) (args : Array Value) (s : State) (mc ms : Nat) : State → Prop := MQ below (Qm γ S X.2 none) args s mc ms (AA γ)
def QT (below : List Frame) (γ : GE) (S : SH) (X : Nat × Mem) (args : Array Value) (s : State) (mc ms : Nat) : State → Prop := MQ below (Qm γ S X.2 (some (.ref (gK γ X.1)))) args s mc ms (AA γ)
section Ret
variable {γ : GE} {p : Program} {l : Launch} {e : Env} {R : Room} {s : State} {m : MethodId} {args : Array Value} {below : List Frame} {meth : Method} {c : Code} {cc : ByteArray} {own : String} {nL : Nat} {cells slots : Nat} {Q : State → Prop} {S S' : SH} {μ μ' : Mem} {pc : Nat} {lv : List (Nat × Value)} {st : List Value}
theorem j_iret (F : FX γ p s m args meth c cc own nL) {v : Int32} {X : Int32 × Mem} (hr : meth.sig.returnType = some .int) (hd : decode cc pc = .ok (.ireturn, 1)) (h : some (v, μ) = some X) : JJ γ p l e R s m args below meth c nL cells slots (QI below γ S X args s cells slots) S μ pc lv [.int v] := by
  cases h
  exact fun H locs ls hW hS hl => W.iret F.1 F.2.1 hr (fun t ht hw => ⟨rfl, by rw [ht]; exact hW, hS.F ht⟩) hS.2.2 hd F.2.2.2.2.2.2
theorem j_zret (F : FX γ p s m args meth c cc own nL) {v : Int32} {X : Int32 × Mem} (hr : meth.sig.returnType = some .boolean) (hz : v = 0 ∨ v = 1) (hd : decode cc pc = .ok (.ireturn, 1)) (h : some (v, μ) = some X) : JJ γ p l e R s m args below meth c nL cells slots (QI below γ S X args s cells slots) S μ pc lv [.int v] := by
  cases h
  exact fun H locs ls hW hS hl => W.zret (ty := .boolean) F.1 F.2.1 hr (by rcases hz with q | q <;> subst q <;> rfl) (fun t ht hw => ⟨rfl, by rw [ht]; exact hW, hS.F ht⟩) hS.2.2 hd F.2.2.2.2.2.2
/-- a boolean that was made elsewhere -/
def oz (v : Int32) : Option Int32 := if v = 0 ∨ v = 1 then some v else none
theorem j_zretG (F : FX γ p s m args meth c cc own nL) {v : Int32} {X : Int32 × Mem} (hr : meth.sig.returnType = some .boolean) (hd : decode cc pc = .ok (.ireturn, 1)) (h : ((oz v).bind fun q => some (q, μ)) = some X) : JJ γ p l e R s m args below meth c nL cells slots (QI below γ S X args s cells slots) S μ pc lv [.int v] := by
  obtain ⟨q, hq, h⟩ := bd_some h
  unfold oz at hq
  by_cases hz : v = 0 ∨ v = 1
  · rw [if_pos hz] at hq
    cases hq
    exact j_zret F hr hz hd h
  · rw [if_neg hz] at hq; cases hq
theorem j_lret (F : FX γ p s m args meth c cc own nL) {v : Int64} {X : Int64 × Mem} (hr : meth.sig.returnType = some .long) (hd : decode cc pc = .ok (.lreturn, 1)) (h : some (v, μ) = some X) : JJ γ p l e R s m args below meth c nL cells slots (QL below γ S X args s cells slots) S μ pc lv [.long v] := by
  cases h
  exact fun H locs ls hW hS hl => W.lret F.1 F.2.1 hr (fun t ht hw => ⟨rfl, by rw [ht]; exact hW, hS.F ht⟩) hS.2.2 hd F.2.2.2.2.2.2
theorem j_vret (F : FX γ p s m args meth c cc own nL) {X : Unit × Mem} (hr : meth.sig.returnType = none) (hd : decode cc pc = .ok (.return_, 1)) (h : some ((), μ) = some X) : JJ γ p l e R s m args below meth c nL cells slots (QV below γ S X args s cells slots) S μ pc lv [] := by
  cases h
  exact fun H locs ls hW hS hl => W.vret F.1 F.2.1 hr (fun t ht hw => ⟨rfl, by rw [ht]; exact hW, hS.F ht⟩) hS.2.2 hd F.2.2.2.2.2.2
theorem j_tret (F : FX γ p s m args meth c cc own nL) {v : Nat} {X : Nat × Mem} {n : String} (hr : meth.sig.returnType = some (.object n)) (hd : decode cc pc = .ok (.areturn, 1)) (h : some (v, μ) = some X) : JJ γ p l e R s m args below meth c nL cells slots (QT below γ S X args s cells slots) S μ pc lv [.ref (gK γ v)] := by
  cases h
  exact fun H locs ls hW hS hl => W.aret (rt := .object n) F.1 F.2.1 hr (Or.inl ⟨n, rfl⟩) (Or.inr ⟨_, rfl⟩) (fun t ht hw => ⟨rfl, by rw [ht]; exact hW, hS.F ht⟩) hS.2.2 hd F.2.2.2.2.2.2
/-! what is known, moved to a callee's start -/
theorem Ken.moved {U V : State} {H H1 : Heap} (h : Ken γ U H) (hW : U.WarmedH V.vm) (hq : ∀ a : Nat, a < H.size → ¬ AA γ a → H1[a]? = H[a]?) : Ken γ V H1 := by
  obtain ⟨h1, h2, h3, h4, h5, h6, h7⟩ := h
  refine ⟨va_K.moved hW.alike h1, fun w hw => ?_, fun w hw => ?_, fun i hi => ⟨(va_Z.moved hW.alike (h4 i hi).1).kept hq, (va_T.moved hW.alike (h4 i hi).2).kept hq⟩, fun i hi => ⟨(va_O.moved hW.alike (h5 i hi).1).kept hq, (va_OF.moved hW.alike (h5 i hi).2.1).kept hq, (va_OF.moved hW.alike (h5 i hi).2.2.1).kept hq, (va_T.moved hW.alike (h5 i hi).2.2.2).kept hq⟩, fun i hi => (h6 i hi).warm hW, (va_Z.moved hW.alike h7).kept hq⟩
  · have := h2 w hw
    revert this
    revert w
    simp only [nestF, List.forall_mem_cons, List.not_mem_nil, false_implies, implies_true, and_true]
    refine ⟨?_, ?_, ?_⟩ <;> exact fun h => va_Nw.warmF hW h
  · have := h3 w hw
    revert this
    revert w
    simp only [nestM, List.forall_mem_cons, List.not_mem_nil, false_implies, implies_true, and_true]
    refine ⟨?_, ?_, ?_, ?_, ?_, ?_, ?_, ?_, ?_, ?_, ?_⟩ <;> exact fun h => va_Nw.warmM hW h
theorem vk_R.sameVm {own tx : String} {k a : Nat} {u U : State} (hv : U.vm = u.vm) (h : vk_R own k tx a u) : vk_R own k tx a U := vk_R.same hv h
theorem Ken.call {U : State} {g : JFrame} {mk : MethodId} {a : Array Value} (h : Ken γ U U.heap) : Ken γ (U.calling g mk a) (U.calling g mk a).heap := by
  obtain ⟨h1, h2, h3, h4, h5, h6, h7⟩ := h
  have e : (U.calling g mk a).vm = U.vm := rfl
  have hA : U.vm.Alike (U.calling g mk a).vm := Vm.Alike.refl U.vm
  exact ⟨va_K.moved (u := U) hA h1, fun w hw => va_Nw.same (by revert w; decide +kernel) e.symm (h2 w hw), fun w hw => va_Nw.same (by revert w; decide +kernel) e.symm (h3 w hw), fun i hi => ⟨va_Z.moved (u := U) hA (h4 i hi).1, va_T.moved (u := U) hA (h4 i hi).2⟩, fun i hi => ⟨va_O.moved (u := U) hA (h5 i hi).1, va_OF.moved (u := U) hA (h5 i hi).2.1, va_OF.moved (u := U) hA (h5 i hi).2.2.1, va_T.moved (u := U) hA (h5 i hi).2.2.2⟩, fun i hi => vk_R.same e (h6 i hi), va_Z.moved (u := U) hA h7⟩
theorem Pm.blind {av : List Value} : FrameBlind (Pm γ S μ av) := fun _ _ _ _ h => ⟨h.1, h.2.1.call, h.2.2⟩
/-- behind a call -/
theorem j_cont {mc ms : Nat} {r : Option Value} {st0 rest : List Value} {a : Array Value} (hr : ∀ (H : Heap) (locs : List Loc) (ls : Array Slot), Wd γ S μ H → va_S (AA γ) s.heap H locs → lv_has ls nL lv → va_Run p l e R s m args below meth c H locs cells slots mc ms (F0 m pc ls st0) rest (Qm γ S' μ' r a) (AA γ)) (k : JJ γ p l e R s m args below meth c nL (cells + mc) (slots + ms) Q S' μ' (pc + 3) lv (r.toList ++ rest)) : JJ γ p l e R s m args below meth c nL cells slots Q S μ pc lv st0 := by
  intro H locs ls hW hS hl T hT X
  obtain ⟨v, st₀, t, T', L, h0, X', hL, e1, e2, ⟨ho, hw, hz, hk⟩, st⟩ := hr H locs ls hW hS hl T hT X
  cases ho
  rw [h0] at hz hk
  obtain ⟨t2, a1, b1⟩ := k T'.heap (locs ++ L) ls (by rw [e1]; exact hw) ⟨Nat.le_trans hS.1 (by rw [e1]; exact hz), fun q h1 h2 => by rw [e1, hk q (Nat.lt_of_lt_of_le h1 hS.1) h2]; exact hS.2.1 q h1 h2, fun q hq => by
      rcases List.mem_append.mp hq with h | h
      · exact hS.2.2 q h
      · exact hL q h⟩ hl T' rfl X'
  exact ⟨t2, st t2 a1, b1⟩
/-- a method of an object: what the tables say -/
def MI (y : MethodName) (cc : ByteArray) (nL : Nat) (ret : Option FieldType) (n ci : Nat) : Prop := (∃ T N, CP ci y.cls T N) ∧ Cond.instanceMethod y ∈ GG ∧ Cond.selects y.cls y y ∈ GG ∧ Cond.initialized y.cls ∈ GG ∧ Cond.code y cc nL ret ∈ GG ∧ y.cls ≠ "java/lang/invoke/MethodHandle" ∧ y.cls ≠ "java/lang/invoke/VarHandle" ∧ (parseMethodDescriptor y.desc).map (fun d => d.parameters.length) = some n
/-- a static method -/
def MS (y : MethodName) (cc : ByteArray) (nL : Nat) (ret : Option FieldType) (n : Nat) : Prop := Cond.static y ∈ GG ∧ Cond.initialized y.cls ∈ GG ∧ Cond.code y cc nL ret ∈ GG ∧ y.cls ≠ "java/lang/invoke/MethodHandle" ∧ y.cls ≠ "java/lang/invoke/VarHandle" ∧ (parseMethodDescriptor y.desc).map (fun d => d.parameters.length) = some n
variable {y : MethodName} {cc' : ByteArray} {nL' : Nat} {ret : Option FieldType} {rm : Room} {n ci o idx : Nat} {As rest : List Value} {r : Option Value}
theorem j_pre (F : FX γ p s m args meth c cc own nL) {H : Heap} {locs : List Loc} (hW : Wd γ S μ H) (hS : va_S (AA γ) s.heap H locs) {U : State} (hU : U.heap = H) (hw : s.WarmedH U.vm) {av : List Value} : Pm γ S μ av av.toArray U := ⟨rfl, F.2.2.2.2.2.1.moved hw (fun a h1 h2 => by rw [hU]; exact hS.2.1 a h1 h2), by rw [hU]; exact hW⟩
theorem j_callV (F : FX γ p s m args meth c cc own nL) (hM : MI y cc' nL' ret n ci) (hlk : Cond.methodLink own idx y ∈ GG) (hct : isO S ci o = true ∧ Ct l γ y cc' nL' ret rm (.ref (gb γ + o) :: As) S μ S' μ' r) (st0 : List Value) (hst : st0 = As.reverse ++ .ref (gb γ + o) :: rest) (hn : As.length = n) (hr : (rest.map fun v => v.category).sum ≤ 8) (hR : rm.frames + 1 ≤ R.frames ∧ 8 + (nL' + 11) + rm.locals ≤ R.locals) (hc : cells + rm.cells ≤ R.cells ∧ slots + rm.slots ≤ R.slots) (hd : decode cc pc = .ok (.invokevirtual idx, 3)) (k : JJ γ p l e R s m args below meth c nL (cells + rm.cells) (slots + rm.slots) Q S' μ' (pc + 3) lv (r.toList ++ rest)) : JJ γ p l e R s m args below meth c nL cells slots Q S μ pc lv st0 := by
  obtain ⟨⟨T, N, hcp⟩, m1, m2, m3, m4, m5⟩ := hM
  obtain ⟨ho, rs, hs⟩ := isO_spec hct.1
  have hts := F.2.2.2.2.1
  refine j_cont (a := (Value.ref (gb γ + o) :: As).toArray) (fun H locs ls hW hS hl => ?_) k
  exact va_runV (As := As) (rest := rest) ⟨F.1, F.2.1, F.2.2.1, F.2.2.2.1, hts⟩ hct.2 ⟨callB_of n hts (gg_call m4) rfl rfl rfl (hts _ m3) (hts _ hlk) m5 hR, hts _ m1, hts _ m2⟩ ⟨Pm.blind, va_recv F.2.2.2.2.2.1.1 (hW.ob ho hs) hcp.1 (q0 := 0) rfl, fun U hU hw => j_pre F hW hS hU hw⟩ rfl hn hl.1 hst (lv_room hr) hd hc
theorem j_callS (F : FX γ p s m args meth c cc own nL) (hM : MS y cc' nL' ret n) (hlk : Cond.methodLink own idx y ∈ GG) (hct : Ct l γ y cc' nL' ret rm As S μ S' μ' r) (st0 : List Value) (hst : st0 = As.reverse ++ rest) (hn : As.length = n) (hr : (rest.map fun v => v.category).sum ≤ 8) (hR : rm.frames + 1 ≤ R.frames ∧ 8 + (nL' + 11) + rm.locals ≤ R.locals) (hc : cells + rm.cells ≤ R.cells ∧ slots + rm.slots ≤ R.slots) (hd : decode cc pc = .ok (.invokestatic idx, 3)) (k : JJ γ p l e R s m args below meth c nL (cells + rm.cells) (slots + rm.slots) Q S' μ' (pc + 3) lv (r.toList ++ rest)) : JJ γ p l e R s m args below meth c nL cells slots Q S μ pc lv st0 := by
  obtain ⟨m1, m3, m4, m5⟩ := hM
  have hts := F.2.2.2.2.1
  refine j_cont (a := As.toArray) (fun H locs ls hW hS hl => ?_) k
  exact va_runS (As := As) (rest := rest) ⟨F.1, F.2.1, F.2.2.1, F.2.2.2.1, hts⟩ hct ⟨callB_of n hts (gg_call m4) rfl rfl rfl (hts _ m3) (hts _ hlk) m5 hR, hts _ m1⟩ ⟨Pm.blind, fun U hU hw => j_pre F hW hS hU hw⟩ rfl hn hl.1 hst (lv_room hr) hd hc
theorem j_callSN (F : FX γ p s m args meth c cc own nL) (hM : MS y cc' nL' ret n) (hlk : Cond.methodLinkNest own idx y "CranePads" ∈ nestM) (hct : Ct l γ y cc' nL' ret rm As S μ S' μ' r) (st0 : List Value) (hst : st0 = As.reverse ++ rest) (hn : As.length = n) (hr : (rest.map fun v => v.category).sum ≤ 8) (hR : rm.frames + 1 ≤ R.frames ∧ 8 + (nL' + 11) + rm.locals ≤ R.locals) (hc : cells + rm.cells ≤ R.cells ∧ slots + rm.slots ≤ R.slots) (hd : decode cc pc = .ok (.invokestatic idx, 3)) (k : JJ γ p l e R s m args below meth c nL (cells + rm.cells) (slots + rm.slots) Q S' μ' (pc + 3) lv (r.toList ++ rest)) : JJ γ p l e R s m args below meth c nL cells slots Q S μ pc lv st0 := by
  obtain ⟨m1, m3, m4, m5⟩ := hM
  have hts := F.2.2.2.2.1
  refine j_cont (a := As.toArray) (fun H locs ls hW hS hl => ?_) k
  exact va_runSN (As := As) (rest := rest) ⟨F.1, F.2.1, F.2.2.1, F.2.2.2.1, hts⟩ hct ⟨va_cnB n hts (gg_call m4) rfl rfl rfl (F.2.2.2.2.2.1.2.2.1 _ hlk) (hts _ m3) m5 hR, hts _ m1, trivial⟩ ⟨Pm.blind, fun U hU hw => j_pre F hW hS hU hw⟩ rfl hn hl.1 hst (lv_room hr) hd hc
end Ret
/-- a contract out of the judgement at the entry -/
theorem ct_of {l : Launch} {γ : GE} {y : MethodName} {cc : ByteArray} {nL : Nat} {ret : Option FieldType} {rm : Room} {av : List Value} {S : SH} {μ : Mem} {S' : SH} {μ' : Mem} {r : Option Value} (hy : plainName y.cls = true) (hlen : (lg_sl av).length ≤ nL)
    (body : ∀ (p : Program) (e : Env) (s : State) (m : MethodId) (args : Array Value) (below : List Frame) (meth : Method) (c : Code), FX γ p s m args meth c cc y.cls nL → meth.sig.returnType = ret → meth.name = y.name → JJ γ p l e rm s m args below meth c nL 0 0 (MQ below (Qm γ S' μ' r) args s rm.cells rm.slots (AA γ)) S μ 0 (lv_args 0 av) []) : Ct l γ y cc nL ret rm av S μ S' μ' r := by
  refine Met.ofW (cc := cc) (maxL := nL) (ret := ret) hy rfl ?_
  intro p e s m args below meth c s₁ B hml hv
  obtain ⟨rfl, hK, hW⟩ := hv
  have hts := atoms_spec (ws := Cond.code y cc nL ret :: GG) B.pre
  have hin : meth.name = y.name := (name_of_methodNamed B.named B.method).1
  have hl := lv_entry av (n := nL) hlen
  rw [lg_entry_eq]
  exact body p e s m av.toArray below meth c ⟨B.exec, B.bytes, hml, findClass_of_methodNamed B.named, fun w hw => hts w (List.mem_cons_of_mem _ hw), hK, B.notSynchronized⟩ B.returns hin s.heap [] _ hW va_S.rf hl
end
