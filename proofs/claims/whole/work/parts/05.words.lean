theorem cp0 : CP 0 RX0 TX0 4 := ⟨rfl, rfl, gg_ps [394, 396, 398, 400] (by decide +kernel) (by decide +kernel), tyX0_ok, nmX0⟩
theorem cp1 : CP 1 RX1 TX1 2 := ⟨rfl, rfl, gg_ps [221, 223] (by decide +kernel) (by decide +kernel), tyX1_ok, nmX1⟩
theorem cp2 : CP 2 RX2 TX2 4 := ⟨rfl, rfl, gg_ps [248, 250, 252, 254] (by decide +kernel) (by decide +kernel), tyX2_ok, nmX2⟩
theorem cp3 : CP 3 RX3 TX3 8 := ⟨rfl, rfl, gg_ps [279, 281, 283, 285, 287, 289, 291, 293] (by decide +kernel) (by decide +kernel), tyX3_ok, nmX3⟩
theorem cp4 : CP 4 RX4 TX4 11 := ⟨rfl, rfl, gg_ps [134, 136, 138, 140, 142, 144, 146, 148, 150, 152, 154] (by decide +kernel) (by decide +kernel), tyX4_ok, nmX4⟩
theorem cp5 : CP 5 RX5 TX5 10 := ⟨rfl, rfl, gg_ps [186, 188, 190, 192, 194, 196, 198, 200, 202, 204] (by decide +kernel) (by decide +kernel), tyX5_ok, nmX5⟩
theorem cp6 : CP 6 RX6 TX6 3 := ⟨rfl, rfl, gg_ps [346, 348, 350] (by decide +kernel) (by decide +kernel), tyX6_ok, nmX6⟩
theorem cp7 : CP 7 RX7 TX7 3 := ⟨rfl, rfl, gg_ps [307, 309, 311] (by decide +kernel) (by decide +kernel), tyX7_ok, nmX7⟩
theorem cp8 : CP 8 RX8 TX8 2 := ⟨rfl, rfl, gg_ps [415, 417] (by decide +kernel) (by decide +kernel), tyX8_ok, nmX8⟩
theorem cp9 : CP 9 RX9 TX9 3 := ⟨rfl, rfl, gg_ps [324, 326, 328] (by decide +kernel) (by decide +kernel), tyX9_ok, nmX9⟩
theorem cp10 : CP 10 RX10 TX10 5 := ⟨rfl, rfl, gg_ps [369, 371, 373, 375, 377] (by decide +kernel) (by decide +kernel), tyX10_ok, nmX10⟩
theorem cp11 : CP 11 RX11 TX11 12 := ⟨rfl, rfl, gg_ps [432, 434, 436, 438, 440, 442, 444, 446, 448, 450, 452, 454] (by decide +kernel) (by decide +kernel), tyX11_ok, nmX11⟩
theorem cp12 : CP 12 RX12 TX12 41 := ⟨rfl, rfl, gg_ps [1014, 1016, 1018, 1020, 1022, 1024, 1026, 1028, 1030, 1032, 1034, 1036, 1038, 1040, 1042, 1044, 1046, 1048, 1050, 1052, 1054, 1056, 1058, 1060, 1062, 1064, 1066, 1068, 1070, 1072, 1074, 1076, 1078, 1080, 1082, 1084, 1086, 1088, 1090, 1092, 1094] (by decide +kernel) (by decide +kernel), tyX12_ok, nmX12⟩
theorem w_0 : Cond.selects "CranePads$Pads" ({ cls := "CranePads$Pads", name := "measure", desc := "()V" } : Jvm.MethodName) ({ cls := "CranePads$Pads", name := "measure", desc := "()V" } : Jvm.MethodName) ∈ GG := gg_mem 0 (by decide +kernel) rfl
theorem w_1 : Cond.selects "CranePads$Judge" ({ cls := "CranePads$Judge", name := "addMoment", desc := "(LCranePads$Pads;IIJJ)V" } : Jvm.MethodName) ({ cls := "CranePads$Judge", name := "addMoment", desc := "(LCranePads$Pads;IIJJ)V" } : Jvm.MethodName) ∈ GG := gg_mem 1 (by decide +kernel) rfl
theorem w_2 : Cond.selects "CranePads$Judge" ({ cls := "CranePads$Judge", name := "tipsOver", desc := "(LCranePads$Pads;)Z" } : Jvm.MethodName) ({ cls := "CranePads$Judge", name := "tipsOver", desc := "(LCranePads$Pads;)Z" } : Jvm.MethodName) ∈ GG := gg_mem 2 (by decide +kernel) rfl
theorem w_3 : Cond.selects "CranePads$Judge" ({ cls := "CranePads$Judge", name := "shareByPlane", desc := "(LCranePads$Pads;)V" } : Jvm.MethodName) ({ cls := "CranePads$Judge", name := "shareByPlane", desc := "(LCranePads$Pads;)V" } : Jvm.MethodName) ∈ GG := gg_mem 3 (by decide +kernel) rfl
theorem w_4 : Cond.selects "CranePads$Judge" ({ cls := "CranePads$Judge", name := "lowestBelowNothing", desc := "()I" } : Jvm.MethodName) ({ cls := "CranePads$Judge", name := "lowestBelowNothing", desc := "()I" } : Jvm.MethodName) ∈ GG := gg_mem 4 (by decide +kernel) rfl
theorem w_5 : Cond.selects "CranePads$Judge" ({ cls := "CranePads$Judge", name := "shareByThree", desc := "(LCranePads$Pads;I)Z" } : Jvm.MethodName) ({ cls := "CranePads$Judge", name := "shareByThree", desc := "(LCranePads$Pads;I)Z" } : Jvm.MethodName) ∈ GG := gg_mem 5 (by decide +kernel) rfl
theorem w_6 : Cond.selects "CranePads$Judge" ({ cls := "CranePads$Judge", name := "isOverLimit", desc := "(LCranePads$Pads;)Z" } : Jvm.MethodName) ({ cls := "CranePads$Judge", name := "isOverLimit", desc := "(LCranePads$Pads;)Z" } : Jvm.MethodName) ∈ GG := gg_mem 6 (by decide +kernel) rfl
theorem w_7 : Cond.selects "CranePads$Route" ({ cls := "CranePads$Route", name := "spread", desc := "()Z" } : Jvm.MethodName) ({ cls := "CranePads$Route", name := "spread", desc := "()Z" } : Jvm.MethodName) ∈ GG := gg_mem 7 (by decide +kernel) rfl
theorem w_8 : Cond.selects "CranePads$Tape" ({ cls := "CranePads$Tape", name := "readStep", desc := "(LCranePads$Plan;)I" } : Jvm.MethodName) ({ cls := "CranePads$Tape", name := "readStep", desc := "(LCranePads$Plan;)I" } : Jvm.MethodName) ∈ GG := gg_mem 8 (by decide +kernel) rfl
theorem w_9 : Cond.selects "CranePads$Tape" ({ cls := "CranePads$Tape", name := "spells", desc := "(ILjava/lang/String;)Z" } : Jvm.MethodName) ({ cls := "CranePads$Tape", name := "spells", desc := "(ILjava/lang/String;)Z" } : Jvm.MethodName) ∈ GG := gg_mem 9 (by decide +kernel) rfl
theorem w_10 : Cond.selects "CranePads$Tape" ({ cls := "CranePads$Tape", name := "dialOfWord", desc := "(I)I" } : Jvm.MethodName) ({ cls := "CranePads$Tape", name := "dialOfWord", desc := "(I)I" } : Jvm.MethodName) ∈ GG := gg_mem 10 (by decide +kernel) rfl
theorem w_11 : Cond.selects "CranePads$Tape" ({ cls := "CranePads$Tape", name := "readNumber", desc := "(LCranePads$Plan;I)I" } : Jvm.MethodName) ({ cls := "CranePads$Tape", name := "readNumber", desc := "(LCranePads$Plan;I)I" } : Jvm.MethodName) ∈ GG := gg_mem 11 (by decide +kernel) rfl
theorem w_12 : Cond.selects "CranePads$Walk" ({ cls := "CranePads$Walk", name := "meet", desc := "(ILCranePads$Crane;LCranePads$Judge;)V" } : Jvm.MethodName) ({ cls := "CranePads$Walk", name := "meet", desc := "(ILCranePads$Crane;LCranePads$Judge;)V" } : Jvm.MethodName) ∈ GG := gg_mem 12 (by decide +kernel) rfl
theorem w_13 : Cond.selects "CranePads$Book" ({ cls := "CranePads$Book", name := "dropEldest", desc := "()V" } : Jvm.MethodName) ({ cls := "CranePads$Book", name := "dropEldest", desc := "()V" } : Jvm.MethodName) ∈ GG := gg_mem 13 (by decide +kernel) rfl
theorem w_14 : Cond.selects "CranePads" ({ cls := "CranePads", name := "mayBeAsBooked", desc := "(I)Z" } : Jvm.MethodName) ({ cls := "CranePads", name := "mayBeAsBooked", desc := "(I)Z" } : Jvm.MethodName) ∈ GG := gg_mem 14 (by decide +kernel) rfl
theorem w_15 : Cond.selects "CranePadsModel" ({ cls := "CranePadsModel", name := "stands", desc := "()Z" } : Jvm.MethodName) ({ cls := "CranePadsModel", name := "stands", desc := "()Z" } : Jvm.MethodName) ∈ GG := gg_mem 15 (by decide +kernel) rfl
theorem w_16 : Cond.selects "CranePadsModel" ({ cls := "CranePadsModel", name := "x", desc := "(I)I" } : Jvm.MethodName) ({ cls := "CranePadsModel", name := "x", desc := "(I)I" } : Jvm.MethodName) ∈ GG := gg_mem 16 (by decide +kernel) rfl
theorem w_17 : Cond.selects "CranePadsModel" ({ cls := "CranePadsModel", name := "y", desc := "(I)I" } : Jvm.MethodName) ({ cls := "CranePadsModel", name := "y", desc := "(I)I" } : Jvm.MethodName) ∈ GG := gg_mem 17 (by decide +kernel) rfl
theorem w_18 : Cond.selects "CranePadsModel" ({ cls := "CranePadsModel", name := "isPartOf", desc := "(I)Z" } : Jvm.MethodName) ({ cls := "CranePadsModel", name := "isPartOf", desc := "(I)Z" } : Jvm.MethodName) ∈ GG := gg_mem 18 (by decide +kernel) rfl
theorem w_19 : Cond.selects "CranePadsModel" ({ cls := "CranePadsModel", name := "placeOf", desc := "(II)I" } : Jvm.MethodName) ({ cls := "CranePadsModel", name := "placeOf", desc := "(II)I" } : Jvm.MethodName) ∈ GG := gg_mem 19 (by decide +kernel) rfl
theorem w_20 : Cond.selects "CranePadsModel" ({ cls := "CranePadsModel", name := "isThere", desc := "(III)Z" } : Jvm.MethodName) ({ cls := "CranePadsModel", name := "isThere", desc := "(III)Z" } : Jvm.MethodName) ∈ GG := gg_mem 20 (by decide +kernel) rfl
theorem w_21 : Cond.selects "CranePadsModel" ({ cls := "CranePadsModel", name := "goes", desc := "(II)V" } : Jvm.MethodName) ({ cls := "CranePadsModel", name := "goes", desc := "(II)V" } : Jvm.MethodName) ∈ GG := gg_mem 21 (by decide +kernel) rfl
theorem w_22 : Cond.selects "CranePadsModel" ({ cls := "CranePadsModel", name := "comes", desc := "(III)V" } : Jvm.MethodName) ({ cls := "CranePadsModel", name := "comes", desc := "(III)V" } : Jvm.MethodName) ∈ GG := gg_mem 22 (by decide +kernel) rfl
theorem w_23 : Cond.selects "CranePadsModel" ({ cls := "CranePadsModel", name := "readOf", desc := "(II)I" } : Jvm.MethodName) ({ cls := "CranePadsModel", name := "readOf", desc := "(II)I" } : Jvm.MethodName) ∈ GG := gg_mem 23 (by decide +kernel) rfl
theorem w_24 : Cond.selects "CranePadsModel" ({ cls := "CranePadsModel", name := "allowedAt", desc := "(II)I" } : Jvm.MethodName) ({ cls := "CranePadsModel", name := "allowedAt", desc := "(II)I" } : Jvm.MethodName) ∈ GG := gg_mem 24 (by decide +kernel) rfl
theorem w_25 : Cond.selects "CranePadsModel" ({ cls := "CranePadsModel", name := "looks", desc := "()V" } : Jvm.MethodName) ({ cls := "CranePadsModel", name := "looks", desc := "()V" } : Jvm.MethodName) ∈ GG := gg_mem 25 (by decide +kernel) rfl
theorem w_26 : Cond.selects "CranePadsModel" ({ cls := "CranePadsModel", name := "lays", desc := "(IJJ)V" } : Jvm.MethodName) ({ cls := "CranePadsModel", name := "lays", desc := "(IJJ)V" } : Jvm.MethodName) ∈ GG := gg_mem 26 (by decide +kernel) rfl
theorem w_27 : Cond.selects "CranePadsModel" ({ cls := "CranePadsModel", name := "sum", desc := "(I)J" } : Jvm.MethodName) ({ cls := "CranePadsModel", name := "sum", desc := "(I)J" } : Jvm.MethodName) ∈ GG := gg_mem 27 (by decide +kernel) rfl
theorem w_28 : Cond.selects "CranePadsModel" ({ cls := "CranePadsModel", name := "moments", desc := "(II)J" } : Jvm.MethodName) ({ cls := "CranePadsModel", name := "moments", desc := "(II)J" } : Jvm.MethodName) ∈ GG := gg_mem 28 (by decide +kernel) rfl
theorem w_29 : Cond.selects "CranePadsModel" ({ cls := "CranePadsModel", name := "momentOf", desc := "(II)J" } : Jvm.MethodName) ({ cls := "CranePadsModel", name := "momentOf", desc := "(II)J" } : Jvm.MethodName) ∈ GG := gg_mem 29 (by decide +kernel) rfl
theorem w_30 : Cond.selects "CranePadsModel" ({ cls := "CranePadsModel", name := "pushes", desc := "()I" } : Jvm.MethodName) ({ cls := "CranePadsModel", name := "pushes", desc := "()I" } : Jvm.MethodName) ∈ GG := gg_mem 30 (by decide +kernel) rfl
theorem w_31 : Cond.selects "CranePadsModel" ({ cls := "CranePadsModel", name := "tips", desc := "()Z" } : Jvm.MethodName) ({ cls := "CranePadsModel", name := "tips", desc := "()Z" } : Jvm.MethodName) ∈ GG := gg_mem 31 (by decide +kernel) rfl
theorem w_32 : Cond.selects "CranePadsModel" ({ cls := "CranePadsModel", name := "plane", desc := "(I)V" } : Jvm.MethodName) ({ cls := "CranePadsModel", name := "plane", desc := "(I)V" } : Jvm.MethodName) ∈ GG := gg_mem 32 (by decide +kernel) rfl
theorem w_33 : Cond.selects "CranePadsModel" ({ cls := "CranePadsModel", name := "least", desc := "()I" } : Jvm.MethodName) ({ cls := "CranePadsModel", name := "least", desc := "()I" } : Jvm.MethodName) ∈ GG := gg_mem 33 (by decide +kernel) rfl
theorem w_34 : Cond.selects "CranePadsModel" ({ cls := "CranePadsModel", name := "whyNow", desc := "()I" } : Jvm.MethodName) ({ cls := "CranePadsModel", name := "whyNow", desc := "()I" } : Jvm.MethodName) ∈ GG := gg_mem 34 (by decide +kernel) rfl
theorem w_35 : Cond.selects "CranePadsModel" ({ cls := "CranePadsModel", name := "isAboveLimit", desc := "()Z" } : Jvm.MethodName) ({ cls := "CranePadsModel", name := "isAboveLimit", desc := "()Z" } : Jvm.MethodName) ∈ GG := gg_mem 35 (by decide +kernel) rfl
theorem w_36 : Cond.selects "CranePadsModel" ({ cls := "CranePadsModel", name := "spareNow", desc := "()I" } : Jvm.MethodName) ({ cls := "CranePadsModel", name := "spareNow", desc := "()I" } : Jvm.MethodName) ∈ GG := gg_mem 36 (by decide +kernel) rfl
theorem w_37 : Cond.selects "CranePadsModel" ({ cls := "CranePadsModel", name := "may", desc := "()Z" } : Jvm.MethodName) ({ cls := "CranePadsModel", name := "may", desc := "()Z" } : Jvm.MethodName) ∈ GG := gg_mem 37 (by decide +kernel) rfl
theorem w_38 : Cond.selects "CranePadsModel" ({ cls := "CranePadsModel", name := "mayAt", desc := "(II)Z" } : Jvm.MethodName) ({ cls := "CranePadsModel", name := "mayAt", desc := "(II)Z" } : Jvm.MethodName) ∈ GG := gg_mem 38 (by decide +kernel) rfl
theorem w_39 : Cond.selects "CranePadsModel" ({ cls := "CranePadsModel", name := "comesTo", desc := "(III)V" } : Jvm.MethodName) ({ cls := "CranePadsModel", name := "comesTo", desc := "(III)V" } : Jvm.MethodName) ∈ GG := gg_mem 39 (by decide +kernel) rfl
theorem w_40 : Cond.selects "CranePadsModel" ({ cls := "CranePadsModel", name := "reads", desc := "()I" } : Jvm.MethodName) ({ cls := "CranePadsModel", name := "reads", desc := "()I" } : Jvm.MethodName) ∈ GG := gg_mem 40 (by decide +kernel) rfl
theorem w_41 : Cond.selects "CranePadsModel" ({ cls := "CranePadsModel", name := "readStep", desc := "(I)I" } : Jvm.MethodName) ({ cls := "CranePadsModel", name := "readStep", desc := "(I)I" } : Jvm.MethodName) ∈ GG := gg_mem 41 (by decide +kernel) rfl
theorem w_42 : Cond.selects "CranePadsModel" ({ cls := "CranePadsModel", name := "here", desc := "()I" } : Jvm.MethodName) ({ cls := "CranePadsModel", name := "here", desc := "()I" } : Jvm.MethodName) ∈ GG := gg_mem 42 (by decide +kernel) rfl
theorem w_43 : Cond.selects "CranePadsModel" ({ cls := "CranePadsModel", name := "isWord", desc := "(ILjava/lang/String;)Z" } : Jvm.MethodName) ({ cls := "CranePadsModel", name := "isWord", desc := "(ILjava/lang/String;)Z" } : Jvm.MethodName) ∈ GG := gg_mem 43 (by decide +kernel) rfl
theorem w_44 : Cond.selects "CranePadsModel" ({ cls := "CranePadsModel", name := "checks", desc := "()V" } : Jvm.MethodName) ({ cls := "CranePadsModel", name := "checks", desc := "()V" } : Jvm.MethodName) ∈ GG := gg_mem 44 (by decide +kernel) rfl
theorem w_45 : Cond.selects "CranePadsModel" ({ cls := "CranePadsModel", name := "remembers", desc := "()V" } : Jvm.MethodName) ({ cls := "CranePadsModel", name := "remembers", desc := "()V" } : Jvm.MethodName) ∈ GG := gg_mem 45 (by decide +kernel) rfl
theorem w_46 : Cond.selects "CranePadsModel" ({ cls := "CranePadsModel", name := "goesAll", desc := "()V" } : Jvm.MethodName) ({ cls := "CranePadsModel", name := "goesAll", desc := "()V" } : Jvm.MethodName) ∈ GG := gg_mem 46 (by decide +kernel) rfl
theorem w_47 : Cond.selects "CranePadsModel" ({ cls := "CranePadsModel", name := "begins", desc := "()V" } : Jvm.MethodName) ({ cls := "CranePadsModel", name := "begins", desc := "()V" } : Jvm.MethodName) ∈ GG := gg_mem 47 (by decide +kernel) rfl
theorem w_48 : Cond.selects "CranePadsModel" ({ cls := "CranePadsModel", name := "looksAt", desc := "(I)V" } : Jvm.MethodName) ({ cls := "CranePadsModel", name := "looksAt", desc := "(I)V" } : Jvm.MethodName) ∈ GG := gg_mem 48 (by decide +kernel) rfl
theorem w_49 : Cond.selects "CranePadsModel" ({ cls := "CranePadsModel", name := "goesStep", desc := "(I)V" } : Jvm.MethodName) ({ cls := "CranePadsModel", name := "goesStep", desc := "(I)V" } : Jvm.MethodName) ∈ GG := gg_mem 49 (by decide +kernel) rfl
theorem w_50 : Cond.selects "CranePadsModel" ({ cls := "CranePadsModel", name := "slews", desc := "(II)V" } : Jvm.MethodName) ({ cls := "CranePadsModel", name := "slews", desc := "(II)V" } : Jvm.MethodName) ∈ GG := gg_mem 50 (by decide +kernel) rfl
theorem w_51 : Cond.selects "CranePadsModel" ({ cls := "CranePadsModel", name := "reaches", desc := "(II)V" } : Jvm.MethodName) ({ cls := "CranePadsModel", name := "reaches", desc := "(II)V" } : Jvm.MethodName) ∈ GG := gg_mem 51 (by decide +kernel) rfl
theorem w_52 : Cond.selects "CranePadsModel" ({ cls := "CranePadsModel", name := "returns", desc := "()V" } : Jvm.MethodName) ({ cls := "CranePadsModel", name := "returns", desc := "()V" } : Jvm.MethodName) ∈ GG := gg_mem 52 (by decide +kernel) rfl
theorem w_53 : Cond.selects "CranePadsModel" ({ cls := "CranePadsModel", name := "isSeen", desc := "(I)Z" } : Jvm.MethodName) ({ cls := "CranePadsModel", name := "isSeen", desc := "(I)Z" } : Jvm.MethodName) ∈ GG := gg_mem 53 (by decide +kernel) rfl
theorem w_54 : Cond.selects "CranePadsModel" ({ cls := "CranePadsModel", name := "mayLift", desc := "(I)Z" } : Jvm.MethodName) ({ cls := "CranePadsModel", name := "mayLift", desc := "(I)Z" } : Jvm.MethodName) ∈ GG := gg_mem 54 (by decide +kernel) rfl
theorem w_56 : (Jvm.Cond.initialized "CranePads") ∈ GG := gg_mem 56 (by decide +kernel) rfl
theorem w_57 : (Jvm.Cond.initialized "CranePads$Crane") ∈ GG := gg_mem 57 (by decide +kernel) rfl
theorem w_58 : (Jvm.Cond.initialized "CranePads$Pads") ∈ GG := gg_mem 58 (by decide +kernel) rfl
theorem w_59 : (Jvm.Cond.initialized "CranePads$Parts") ∈ GG := gg_mem 59 (by decide +kernel) rfl
theorem w_60 : (Jvm.Cond.initialized "CranePads$Chart") ∈ GG := gg_mem 60 (by decide +kernel) rfl
theorem w_61 : (Jvm.Cond.initialized "java/util/Arrays") ∈ GG := gg_mem 61 (by decide +kernel) rfl
theorem w_62 : (Jvm.Cond.initialized "CranePads$Judge") ∈ GG := gg_mem 62 (by decide +kernel) rfl
theorem w_63 : (Jvm.Cond.initialized "CranePads$Route") ∈ GG := gg_mem 63 (by decide +kernel) rfl
theorem w_64 : (Jvm.Cond.initialized "CranePads$Tape") ∈ GG := gg_mem 64 (by decide +kernel) rfl
theorem w_65 : (Jvm.Cond.initialized "CranePads$Plan") ∈ GG := gg_mem 65 (by decide +kernel) rfl
theorem w_66 : (Jvm.Cond.initialized "CranePads$Walk") ∈ GG := gg_mem 66 (by decide +kernel) rfl
theorem w_67 : (Jvm.Cond.initialized "CranePads$Book") ∈ GG := gg_mem 67 (by decide +kernel) rfl
theorem w_68 : (Jvm.Cond.initialized "CranePads$Rows") ∈ GG := gg_mem 68 (by decide +kernel) rfl
theorem w_69 : (Jvm.Cond.initialized "CranePadsModel") ∈ GG := gg_mem 69 (by decide +kernel) rfl
theorem w_70 : (Jvm.Cond.initialized "java/lang/Math") ∈ GG := gg_mem 70 (by decide +kernel) rfl
theorem w_71 : (Jvm.Cond.initialized "java/lang/System") ∈ GG := gg_mem 71 (by decide +kernel) rfl
theorem w_72 : (Jvm.Cond.initialized "java/lang/String") ∈ GG := gg_mem 72 (by decide +kernel) rfl
theorem w_73 : (Jvm.Cond.initialized "java/lang/StringLatin1") ∈ GG := gg_mem 73 (by decide +kernel) rfl
theorem w_74 : (Jvm.Cond.initialized "jdk/internal/util/Preconditions") ∈ GG := gg_mem 74 (by decide +kernel) rfl
theorem w_96 : (Jvm.Cond.methodLink "CranePads$Pads" (21 : Nat) ({ cls := "CranePads$Pads", name := "measure", desc := "()V" } : Jvm.MethodName)) ∈ GG := gg_mem 96 (by decide +kernel) rfl
theorem w_98 : (Jvm.Cond.instanceMethod ({ cls := "CranePads$Pads", name := "measure", desc := "()V" } : Jvm.MethodName)) ∈ GG := gg_mem 98 (by decide +kernel) rfl
theorem w_99 : (Jvm.Cond.code ({ cls := "CranePads$Pads", name := "measure", desc := "()V" } : Jvm.MethodName) prog_6_method_5_code (12 : Nat) (Option.none : Option Jvm.ClassFile.FieldType)) ∈ GG := gg_mem 99 (by decide +kernel) rfl
theorem w_100 : (Jvm.Cond.methodLink "CranePads$Pads" (60 : Nat) ({ cls := "CranePads$Pads", name := "span", desc := "(I)J" } : Jvm.MethodName)) ∈ GG := gg_mem 100 (by decide +kernel) rfl
theorem w_101 : (Jvm.Cond.instanceMethod ({ cls := "CranePads$Pads", name := "span", desc := "(I)J" } : Jvm.MethodName)) ∈ GG := gg_mem 101 (by decide +kernel) rfl
theorem w_102 : (Jvm.Cond.selects "CranePads$Pads" ({ cls := "CranePads$Pads", name := "span", desc := "(I)J" } : Jvm.MethodName) ({ cls := "CranePads$Pads", name := "span", desc := "(I)J" } : Jvm.MethodName)) ∈ GG := gg_mem 102 (by decide +kernel) rfl
theorem w_103 : (Jvm.Cond.code ({ cls := "CranePads$Pads", name := "span", desc := "(I)J" } : Jvm.MethodName) prog_6_method_4_code (4 : Nat) (Option.some Jvm.ClassFile.FieldType.long)) ∈ GG := gg_mem 103 (by decide +kernel) rfl
theorem w_105 : (Jvm.Cond.static ({ cls := "CranePads", name := "next", desc := "(I)I" } : Jvm.MethodName)) ∈ GG := gg_mem 105 (by decide +kernel) rfl
theorem w_106 : (Jvm.Cond.code ({ cls := "CranePads", name := "next", desc := "(I)I" } : Jvm.MethodName) prog_1_method_51_code (1 : Nat) (Option.some Jvm.ClassFile.FieldType.int)) ∈ GG := gg_mem 106 (by decide +kernel) rfl
theorem w_107 : (Jvm.Cond.constantLong "CranePads$Pads" (64 : Nat) (4 : Int64)) ∈ GG := gg_mem 107 (by decide +kernel) rfl
theorem w_108 : (Jvm.Cond.fieldLink "CranePads$Pads" (9 : Nat) "CranePads$Pads" "x" "[I") ∈ GG := gg_mem 108 (by decide +kernel) rfl
theorem w_109 : (Jvm.Cond.fieldLink "CranePads$Judge" (107 : Nat) "CranePads$Pads" "x" "[I") ∈ GG := gg_mem 109 (by decide +kernel) rfl
theorem w_110 : (Jvm.Cond.fieldLink "CranePads" (141 : Nat) "CranePads$Pads" "x" "[I") ∈ GG := gg_mem 110 (by decide +kernel) rfl
theorem w_111 : (Jvm.Cond.fieldLink "CranePads$Pads" (15 : Nat) "CranePads$Pads" "y" "[I") ∈ GG := gg_mem 111 (by decide +kernel) rfl
theorem w_112 : (Jvm.Cond.fieldLink "CranePads$Judge" (110 : Nat) "CranePads$Pads" "y" "[I") ∈ GG := gg_mem 112 (by decide +kernel) rfl
theorem w_113 : (Jvm.Cond.fieldLink "CranePads" (144 : Nat) "CranePads$Pads" "y" "[I") ∈ GG := gg_mem 113 (by decide +kernel) rfl
theorem w_114 : (Jvm.Cond.fieldLink "CranePads$Pads" (18 : Nat) "CranePads$Pads" "limit" "[I") ∈ GG := gg_mem 114 (by decide +kernel) rfl
theorem w_115 : (Jvm.Cond.fieldLink "CranePads" (147 : Nat) "CranePads$Pads" "limit" "[I") ∈ GG := gg_mem 115 (by decide +kernel) rfl
theorem w_116 : (Jvm.Cond.fieldLink "CranePads$Judge" (154 : Nat) "CranePads$Pads" "limit" "[I") ∈ GG := gg_mem 116 (by decide +kernel) rfl
theorem w_117 : (Jvm.Cond.fieldLink "CranePads$Judge" (21 : Nat) "CranePads$Pads" "standing" "Z") ∈ GG := gg_mem 117 (by decide +kernel) rfl
theorem w_118 : (Jvm.Cond.fieldLink "CranePads" (98 : Nat) "CranePads$Pads" "standing" "Z") ∈ GG := gg_mem 118 (by decide +kernel) rfl
theorem w_119 : (Jvm.Cond.fieldLink "CranePads$Pads" (30 : Nat) "CranePads$Pads" "standing" "Z") ∈ GG := gg_mem 119 (by decide +kernel) rfl
theorem w_120 : (Jvm.Cond.fieldLink "CranePads$Pads" (34 : Nat) "CranePads$Pads" "one" "J") ∈ GG := gg_mem 120 (by decide +kernel) rfl
theorem w_121 : (Jvm.Cond.fieldLink "CranePads$Judge" (157 : Nat) "CranePads$Pads" "one" "J") ∈ GG := gg_mem 121 (by decide +kernel) rfl
theorem w_122 : (Jvm.Cond.fieldLink "CranePads$Pads" (38 : Nat) "CranePads$Pads" "oneX" "J") ∈ GG := gg_mem 122 (by decide +kernel) rfl
theorem w_123 : (Jvm.Cond.fieldLink "CranePads$Judge" (160 : Nat) "CranePads$Pads" "oneX" "J") ∈ GG := gg_mem 123 (by decide +kernel) rfl
theorem w_124 : (Jvm.Cond.fieldLink "CranePads$Pads" (41 : Nat) "CranePads$Pads" "oneY" "J") ∈ GG := gg_mem 124 (by decide +kernel) rfl
theorem w_125 : (Jvm.Cond.fieldLink "CranePads$Judge" (163 : Nat) "CranePads$Pads" "oneY" "J") ∈ GG := gg_mem 125 (by decide +kernel) rfl
theorem w_126 : (Jvm.Cond.fieldLink "CranePads$Pads" (44 : Nat) "CranePads$Pads" "xx" "J") ∈ GG := gg_mem 126 (by decide +kernel) rfl
theorem w_127 : (Jvm.Cond.fieldLink "CranePads$Judge" (166 : Nat) "CranePads$Pads" "xx" "J") ∈ GG := gg_mem 127 (by decide +kernel) rfl
theorem w_128 : (Jvm.Cond.fieldLink "CranePads$Pads" (47 : Nat) "CranePads$Pads" "xy" "J") ∈ GG := gg_mem 128 (by decide +kernel) rfl
theorem w_129 : (Jvm.Cond.fieldLink "CranePads$Judge" (169 : Nat) "CranePads$Pads" "xy" "J") ∈ GG := gg_mem 129 (by decide +kernel) rfl
theorem w_130 : (Jvm.Cond.fieldLink "CranePads$Pads" (50 : Nat) "CranePads$Pads" "yy" "J") ∈ GG := gg_mem 130 (by decide +kernel) rfl
theorem w_131 : (Jvm.Cond.fieldLink "CranePads$Judge" (172 : Nat) "CranePads$Pads" "yy" "J") ∈ GG := gg_mem 131 (by decide +kernel) rfl
theorem w_132 : (Jvm.Cond.fieldLink "CranePads$Pads" (53 : Nat) "CranePads$Pads" "determinant" "J") ∈ GG := gg_mem 132 (by decide +kernel) rfl
theorem w_133 : (Jvm.Cond.fieldLink "CranePads$Judge" (175 : Nat) "CranePads$Pads" "determinant" "J") ∈ GG := gg_mem 133 (by decide +kernel) rfl
theorem w_164 : (Jvm.Cond.fieldLink "CranePads$Parts" (9 : Nat) "CranePads$Parts" "mass" "[I") ∈ GG := gg_mem 164 (by decide +kernel) rfl
theorem w_165 : (Jvm.Cond.fieldLink "CranePads" (121 : Nat) "CranePads$Parts" "mass" "[I") ∈ GG := gg_mem 165 (by decide +kernel) rfl
theorem w_166 : (Jvm.Cond.fieldLink "CranePads$Judge" (139 : Nat) "CranePads$Parts" "mass" "[I") ∈ GG := gg_mem 166 (by decide +kernel) rfl
theorem w_167 : (Jvm.Cond.fieldLink "CranePads$Parts" (15 : Nat) "CranePads$Parts" "a" "[I") ∈ GG := gg_mem 167 (by decide +kernel) rfl
theorem w_168 : (Jvm.Cond.fieldLink "CranePads$Judge" (133 : Nat) "CranePads$Parts" "a" "[I") ∈ GG := gg_mem 168 (by decide +kernel) rfl
theorem w_169 : (Jvm.Cond.fieldLink "CranePads$Parts" (18 : Nat) "CranePads$Parts" "b" "[I") ∈ GG := gg_mem 169 (by decide +kernel) rfl
theorem w_170 : (Jvm.Cond.fieldLink "CranePads$Judge" (136 : Nat) "CranePads$Parts" "b" "[I") ∈ GG := gg_mem 170 (by decide +kernel) rfl
theorem w_171 : (Jvm.Cond.fieldLink "CranePads$Parts" (21 : Nat) "CranePads$Parts" "turning" "[Z") ∈ GG := gg_mem 171 (by decide +kernel) rfl
theorem w_172 : (Jvm.Cond.fieldLink "CranePads$Judge" (129 : Nat) "CranePads$Parts" "turning" "[Z") ∈ GG := gg_mem 172 (by decide +kernel) rfl
theorem w_173 : (Jvm.Cond.fieldLink "CranePads$Parts" (25 : Nat) "CranePads$Parts" "size" "I") ∈ GG := gg_mem 173 (by decide +kernel) rfl
theorem w_174 : (Jvm.Cond.fieldLink "CranePads" (108 : Nat) "CranePads$Parts" "size" "I") ∈ GG := gg_mem 174 (by decide +kernel) rfl
theorem w_175 : (Jvm.Cond.fieldLink "CranePads$Judge" (126 : Nat) "CranePads$Parts" "size" "I") ∈ GG := gg_mem 175 (by decide +kernel) rfl
theorem w_176 : (Jvm.Cond.fieldLink "CranePads$Crane" (62 : Nat) "CranePads$Parts" "total" "I") ∈ GG := gg_mem 176 (by decide +kernel) rfl
theorem w_177 : (Jvm.Cond.fieldLink "CranePads$Parts" (33 : Nat) "CranePads$Parts" "total" "I") ∈ GG := gg_mem 177 (by decide +kernel) rfl
theorem w_178 : (Jvm.Cond.fieldLink "CranePads$Parts" (42 : Nat) "CranePads$Parts" "stayA" "I") ∈ GG := gg_mem 178 (by decide +kernel) rfl
theorem w_179 : (Jvm.Cond.fieldLink "CranePads$Judge" (95 : Nat) "CranePads$Parts" "stayA" "I") ∈ GG := gg_mem 179 (by decide +kernel) rfl
theorem w_180 : (Jvm.Cond.fieldLink "CranePads$Parts" (45 : Nat) "CranePads$Parts" "stayB" "I") ∈ GG := gg_mem 180 (by decide +kernel) rfl
theorem w_181 : (Jvm.Cond.fieldLink "CranePads$Judge" (101 : Nat) "CranePads$Parts" "stayB" "I") ∈ GG := gg_mem 181 (by decide +kernel) rfl
theorem w_182 : (Jvm.Cond.fieldLink "CranePads$Parts" (36 : Nat) "CranePads$Parts" "turnA" "I") ∈ GG := gg_mem 182 (by decide +kernel) rfl
theorem w_183 : (Jvm.Cond.fieldLink "CranePads$Judge" (79 : Nat) "CranePads$Parts" "turnA" "I") ∈ GG := gg_mem 183 (by decide +kernel) rfl
theorem w_184 : (Jvm.Cond.fieldLink "CranePads$Parts" (39 : Nat) "CranePads$Parts" "turnB" "I") ∈ GG := gg_mem 184 (by decide +kernel) rfl
theorem w_185 : (Jvm.Cond.fieldLink "CranePads$Judge" (87 : Nat) "CranePads$Parts" "turnB" "I") ∈ GG := gg_mem 185 (by decide +kernel) rfl
theorem w_216 : (Jvm.Cond.static ({ cls := "java/util/Arrays", name := "fill", desc := "([II)V" } : Jvm.MethodName)) ∈ GG := gg_mem 216 (by decide +kernel) rfl
theorem w_217 : (Jvm.Cond.code ({ cls := "java/util/Arrays", name := "fill", desc := "([II)V" } : Jvm.MethodName) prog_21_method_103_code (4 : Nat) (Option.none : Option Jvm.ClassFile.FieldType)) ∈ GG := gg_mem 217 (by decide +kernel) rfl
theorem w_218 : (Jvm.Cond.fieldLink "CranePads$Chart" (9 : Nat) "CranePads$Chart" "said" "[I") ∈ GG := gg_mem 218 (by decide +kernel) rfl
theorem w_219 : (Jvm.Cond.fieldLink "CranePads$Chart" (21 : Nat) "CranePads$Chart" "size" "I") ∈ GG := gg_mem 219 (by decide +kernel) rfl
theorem w_220 : (Jvm.Cond.fieldLink "CranePads" (160 : Nat) "CranePads$Chart" "size" "I") ∈ GG := gg_mem 220 (by decide +kernel) rfl
theorem w_235 : (Jvm.Cond.fieldLink "CranePads$Crane" (12 : Nat) "CranePads$Crane" "pads" "LCranePads$Pads;") ∈ GG := gg_mem 235 (by decide +kernel) rfl
theorem w_236 : (Jvm.Cond.fieldLink "CranePads$Judge" (15 : Nat) "CranePads$Crane" "pads" "LCranePads$Pads;") ∈ GG := gg_mem 236 (by decide +kernel) rfl
theorem w_237 : (Jvm.Cond.fieldLink "CranePads" (88 : Nat) "CranePads$Crane" "pads" "LCranePads$Pads;") ∈ GG := gg_mem 237 (by decide +kernel) rfl
theorem w_238 : (Jvm.Cond.fieldLink "CranePads$Crane" (21 : Nat) "CranePads$Crane" "parts" "LCranePads$Parts;") ∈ GG := gg_mem 238 (by decide +kernel) rfl
theorem w_239 : (Jvm.Cond.fieldLink "CranePads" (104 : Nat) "CranePads$Crane" "parts" "LCranePads$Parts;") ∈ GG := gg_mem 239 (by decide +kernel) rfl
theorem w_240 : (Jvm.Cond.fieldLink "CranePads$Judge" (69 : Nat) "CranePads$Crane" "parts" "LCranePads$Parts;") ∈ GG := gg_mem 240 (by decide +kernel) rfl
theorem w_241 : (Jvm.Cond.fieldLink "CranePads$Crane" (27 : Nat) "CranePads$Crane" "charts" "[LCranePads$Chart;") ∈ GG := gg_mem 241 (by decide +kernel) rfl
theorem w_242 : (Jvm.Cond.fieldLink "CranePads" (153 : Nat) "CranePads$Crane" "charts" "[LCranePads$Chart;") ∈ GG := gg_mem 242 (by decide +kernel) rfl
theorem w_243 : (Jvm.Cond.fieldLink "CranePads$Crane" (41 : Nat) "CranePads$Crane" "dials" "[I") ∈ GG := gg_mem 243 (by decide +kernel) rfl
theorem w_244 : (Jvm.Cond.fieldLink "CranePads$Walk" (50 : Nat) "CranePads$Crane" "dials" "[I") ∈ GG := gg_mem 244 (by decide +kernel) rfl
theorem w_245 : (Jvm.Cond.fieldLink "CranePads$Judge" (65 : Nat) "CranePads$Crane" "dials" "[I") ∈ GG := gg_mem 245 (by decide +kernel) rfl
theorem w_246 : (Jvm.Cond.fieldLink "CranePads" (136 : Nat) "CranePads$Crane" "dials" "[I") ∈ GG := gg_mem 246 (by decide +kernel) rfl
theorem w_247 : (Jvm.Cond.fieldLink "CranePads$Plan" (32 : Nat) "CranePads$Crane" "dials" "[I") ∈ GG := gg_mem 247 (by decide +kernel) rfl
theorem w_263 : (Jvm.Cond.fieldLink "CranePads$Judge" (31 : Nat) "CranePads$Judge" "w" "J") ∈ GG := gg_mem 263 (by decide +kernel) rfl
theorem w_264 : (Jvm.Cond.fieldLink "CranePads" (183 : Nat) "CranePads$Judge" "w" "J") ∈ GG := gg_mem 264 (by decide +kernel) rfl
theorem w_265 : (Jvm.Cond.fieldLink "CranePads$Judge" (98 : Nat) "CranePads$Judge" "mx" "J") ∈ GG := gg_mem 265 (by decide +kernel) rfl
theorem w_266 : (Jvm.Cond.fieldLink "CranePads" (187 : Nat) "CranePads$Judge" "mx" "J") ∈ GG := gg_mem 266 (by decide +kernel) rfl
theorem w_267 : (Jvm.Cond.fieldLink "CranePads$Judge" (104 : Nat) "CranePads$Judge" "my" "J") ∈ GG := gg_mem 267 (by decide +kernel) rfl
theorem w_268 : (Jvm.Cond.fieldLink "CranePads" (190 : Nat) "CranePads$Judge" "my" "J") ∈ GG := gg_mem 268 (by decide +kernel) rfl
theorem w_269 : (Jvm.Cond.fieldLink "CranePads$Judge" (9 : Nat) "CranePads$Judge" "share" "[J") ∈ GG := gg_mem 269 (by decide +kernel) rfl
theorem w_270 : (Jvm.Cond.fieldLink "CranePads" (220 : Nat) "CranePads$Judge" "share" "[J") ∈ GG := gg_mem 270 (by decide +kernel) rfl
theorem w_271 : (Jvm.Cond.fieldLink "CranePads$Judge" (117 : Nat) "CranePads$Judge" "below" "J") ∈ GG := gg_mem 271 (by decide +kernel) rfl
theorem w_272 : (Jvm.Cond.fieldLink "CranePads" (224 : Nat) "CranePads$Judge" "below" "J") ∈ GG := gg_mem 272 (by decide +kernel) rfl
theorem w_273 : (Jvm.Cond.fieldLink "CranePads$Judge" (47 : Nat) "CranePads$Judge" "inTheAir" "I") ∈ GG := gg_mem 273 (by decide +kernel) rfl
theorem w_274 : (Jvm.Cond.fieldLink "CranePads" (227 : Nat) "CranePads$Judge" "inTheAir" "I") ∈ GG := gg_mem 274 (by decide +kernel) rfl
theorem w_275 : (Jvm.Cond.fieldLink "CranePads$Judge" (120 : Nat) "CranePads$Judge" "holding" "J") ∈ GG := gg_mem 275 (by decide +kernel) rfl
theorem w_276 : (Jvm.Cond.fieldLink "CranePads" (213 : Nat) "CranePads$Judge" "holding" "J") ∈ GG := gg_mem 276 (by decide +kernel) rfl
theorem w_277 : (Jvm.Cond.fieldLink "CranePads$Judge" (123 : Nat) "CranePads$Judge" "tipping" "J") ∈ GG := gg_mem 277 (by decide +kernel) rfl
theorem w_278 : (Jvm.Cond.fieldLink "CranePads" (210 : Nat) "CranePads$Judge" "tipping" "J") ∈ GG := gg_mem 278 (by decide +kernel) rfl
theorem w_303 : (Jvm.Cond.fieldLink "CranePads$Route" (9 : Nat) "CranePads$Route" "lawful" "[I") ∈ GG := gg_mem 303 (by decide +kernel) rfl
theorem w_304 : (Jvm.Cond.fieldLink "CranePads" (241 : Nat) "CranePads$Route" "lawful" "[I") ∈ GG := gg_mem 304 (by decide +kernel) rfl
theorem w_305 : (Jvm.Cond.fieldLink "CranePads$Route" (15 : Nat) "CranePads$Route" "reached" "[I") ∈ GG := gg_mem 305 (by decide +kernel) rfl
theorem w_306 : (Jvm.Cond.fieldLink "CranePads$Route" (18 : Nat) "CranePads$Route" "grown" "[I") ∈ GG := gg_mem 306 (by decide +kernel) rfl
theorem w_320 : (Jvm.Cond.fieldLink "CranePads$Tape" (9 : Nat) "CranePads$Tape" "bytes" "[B") ∈ GG := gg_mem 320 (by decide +kernel) rfl
theorem w_321 : (Jvm.Cond.fieldLink "CranePads$Tape" (15 : Nat) "CranePads$Tape" "size" "I") ∈ GG := gg_mem 321 (by decide +kernel) rfl
theorem w_322 : (Jvm.Cond.fieldLink "CranePads" (250 : Nat) "CranePads$Tape" "size" "I") ∈ GG := gg_mem 322 (by decide +kernel) rfl
theorem w_323 : (Jvm.Cond.fieldLink "CranePads$Tape" (22 : Nat) "CranePads$Tape" "at" "I") ∈ GG := gg_mem 323 (by decide +kernel) rfl
theorem w_338 : (Jvm.Cond.fieldLink "CranePads$Plan" (9 : Nat) "CranePads$Plan" "dial" "[I") ∈ GG := gg_mem 338 (by decide +kernel) rfl
theorem w_339 : (Jvm.Cond.fieldLink "CranePads$Walk" (39 : Nat) "CranePads$Plan" "dial" "[I") ∈ GG := gg_mem 339 (by decide +kernel) rfl
theorem w_340 : (Jvm.Cond.fieldLink "CranePads$Plan" (15 : Nat) "CranePads$Plan" "goal" "[I") ∈ GG := gg_mem 340 (by decide +kernel) rfl
theorem w_341 : (Jvm.Cond.fieldLink "CranePads$Walk" (43 : Nat) "CranePads$Plan" "goal" "[I") ∈ GG := gg_mem 341 (by decide +kernel) rfl
theorem w_342 : (Jvm.Cond.fieldLink "CranePads$Plan" (18 : Nat) "CranePads$Plan" "size" "I") ∈ GG := gg_mem 342 (by decide +kernel) rfl
theorem w_343 : (Jvm.Cond.fieldLink "CranePads$Walk" (34 : Nat) "CranePads$Plan" "size" "I") ∈ GG := gg_mem 343 (by decide +kernel) rfl
theorem w_344 : (Jvm.Cond.fieldLink "CranePads$Tape" (19 : Nat) "CranePads$Plan" "size" "I") ∈ GG := gg_mem 344 (by decide +kernel) rfl
theorem w_345 : (Jvm.Cond.fieldLink "CranePads" (260 : Nat) "CranePads$Plan" "size" "I") ∈ GG := gg_mem 345 (by decide +kernel) rfl
theorem w_359 : (Jvm.Cond.fieldLink "CranePads$Walk" (9 : Nat) "CranePads$Walk" "moments" "I") ∈ GG := gg_mem 359 (by decide +kernel) rfl
theorem w_360 : (Jvm.Cond.fieldLink "CranePads" (265 : Nat) "CranePads$Walk" "moments" "I") ∈ GG := gg_mem 360 (by decide +kernel) rfl
theorem w_361 : (Jvm.Cond.fieldLink "CranePads$Walk" (15 : Nat) "CranePads$Walk" "firstUnlawful" "I") ∈ GG := gg_mem 361 (by decide +kernel) rfl
theorem w_362 : (Jvm.Cond.fieldLink "CranePads" (268 : Nat) "CranePads$Walk" "firstUnlawful" "I") ∈ GG := gg_mem 362 (by decide +kernel) rfl
theorem w_363 : (Jvm.Cond.fieldLink "CranePads$Walk" (18 : Nat) "CranePads$Walk" "unlawfulStep" "I") ∈ GG := gg_mem 363 (by decide +kernel) rfl
theorem w_364 : (Jvm.Cond.fieldLink "CranePads" (271 : Nat) "CranePads$Walk" "unlawfulStep" "I") ∈ GG := gg_mem 364 (by decide +kernel) rfl
theorem w_365 : (Jvm.Cond.fieldLink "CranePads$Walk" (21 : Nat) "CranePads$Walk" "reason" "I") ∈ GG := gg_mem 365 (by decide +kernel) rfl
theorem w_366 : (Jvm.Cond.fieldLink "CranePads" (274 : Nat) "CranePads$Walk" "reason" "I") ∈ GG := gg_mem 366 (by decide +kernel) rfl
theorem w_367 : (Jvm.Cond.fieldLink "CranePads$Walk" (27 : Nat) "CranePads$Walk" "leastSpare" "I") ∈ GG := gg_mem 367 (by decide +kernel) rfl
theorem w_368 : (Jvm.Cond.fieldLink "CranePads" (277 : Nat) "CranePads$Walk" "leastSpare" "I") ∈ GG := gg_mem 368 (by decide +kernel) rfl
theorem w_386 : (Jvm.Cond.fieldLink "CranePads$Book" (9 : Nat) "CranePads$Book" "load" "[I") ∈ GG := gg_mem 386 (by decide +kernel) rfl
theorem w_387 : (Jvm.Cond.fieldLink "CranePads" (314 : Nat) "CranePads$Book" "load" "[I") ∈ GG := gg_mem 387 (by decide +kernel) rfl
theorem w_388 : (Jvm.Cond.fieldLink "CranePads$Book" (15 : Nat) "CranePads$Book" "direction" "[I") ∈ GG := gg_mem 388 (by decide +kernel) rfl
theorem w_389 : (Jvm.Cond.fieldLink "CranePads" (317 : Nat) "CranePads$Book" "direction" "[I") ∈ GG := gg_mem 389 (by decide +kernel) rfl
theorem w_390 : (Jvm.Cond.fieldLink "CranePads$Book" (18 : Nat) "CranePads$Book" "reach" "[I") ∈ GG := gg_mem 390 (by decide +kernel) rfl
theorem w_391 : (Jvm.Cond.fieldLink "CranePads" (320 : Nat) "CranePads$Book" "reach" "[I") ∈ GG := gg_mem 391 (by decide +kernel) rfl
theorem w_392 : (Jvm.Cond.fieldLink "CranePads$Book" (21 : Nat) "CranePads$Book" "size" "I") ∈ GG := gg_mem 392 (by decide +kernel) rfl
theorem w_393 : (Jvm.Cond.fieldLink "CranePads" (313 : Nat) "CranePads$Book" "size" "I") ∈ GG := gg_mem 393 (by decide +kernel) rfl
theorem w_411 : (Jvm.Cond.fieldLink "CranePads$Rows" (11 : Nat) "CranePads$Rows" "row" "[[J") ∈ GG := gg_mem 411 (by decide +kernel) rfl
theorem w_412 : (Jvm.Cond.fieldLink "CranePads" (297 : Nat) "CranePads$Rows" "row" "[[J") ∈ GG := gg_mem 412 (by decide +kernel) rfl
theorem w_413 : (Jvm.Cond.fieldLink "CranePads$Rows" (16 : Nat) "CranePads$Rows" "length" "[I") ∈ GG := gg_mem 413 (by decide +kernel) rfl
theorem w_414 : (Jvm.Cond.fieldLink "CranePads" (294 : Nat) "CranePads$Rows" "length" "[I") ∈ GG := gg_mem 414 (by decide +kernel) rfl
theorem w_420 : (Jvm.Cond.fieldLink "CranePads" (12 : Nat) "CranePads" "now" "LCranePads$Crane;") ∈ GG := gg_mem 420 (by decide +kernel) rfl
theorem w_421 : (Jvm.Cond.fieldLink "CranePads" (18 : Nat) "CranePads" "kept" "LCranePads$Crane;") ∈ GG := gg_mem 421 (by decide +kernel) rfl
theorem w_422 : (Jvm.Cond.fieldLink "CranePads" (21 : Nat) "CranePads" "draft" "LCranePads$Crane;") ∈ GG := gg_mem 422 (by decide +kernel) rfl
theorem w_423 : (Jvm.Cond.fieldLink "CranePads" (27 : Nat) "CranePads" "judge" "LCranePads$Judge;") ∈ GG := gg_mem 423 (by decide +kernel) rfl
theorem w_424 : (Jvm.Cond.fieldLink "CranePads" (34 : Nat) "CranePads" "route" "LCranePads$Route;") ∈ GG := gg_mem 424 (by decide +kernel) rfl
theorem w_425 : (Jvm.Cond.fieldLink "CranePads" (41 : Nat) "CranePads" "tape" "LCranePads$Tape;") ∈ GG := gg_mem 425 (by decide +kernel) rfl
theorem w_426 : (Jvm.Cond.fieldLink "CranePads" (48 : Nat) "CranePads" "thePlan" "LCranePads$Plan;") ∈ GG := gg_mem 426 (by decide +kernel) rfl
theorem w_427 : (Jvm.Cond.fieldLink "CranePads" (52 : Nat) "CranePads" "otherPlan" "LCranePads$Plan;") ∈ GG := gg_mem 427 (by decide +kernel) rfl
theorem w_428 : (Jvm.Cond.fieldLink "CranePads" (58 : Nat) "CranePads" "walk" "LCranePads$Walk;") ∈ GG := gg_mem 428 (by decide +kernel) rfl
theorem w_429 : (Jvm.Cond.fieldLink "CranePads" (65 : Nat) "CranePads" "lifts" "LCranePads$Book;") ∈ GG := gg_mem 429 (by decide +kernel) rfl
theorem w_430 : (Jvm.Cond.fieldLink "CranePads" (72 : Nat) "CranePads" "rows" "LCranePads$Rows;") ∈ GG := gg_mem 430 (by decide +kernel) rfl
theorem w_431 : (Jvm.Cond.fieldLink "CranePads" (76 : Nat) "CranePads" "imageTaken" "Z") ∈ GG := gg_mem 431 (by decide +kernel) rfl
theorem w_461 : (Jvm.Cond.methodLink "CranePads" (80 : Nat) ({ cls := "CranePads", name := "isPad", desc := "(I)Z" } : Jvm.MethodName)) ∈ GG := gg_mem 461 (by decide +kernel) rfl
theorem w_462 : (Jvm.Cond.static ({ cls := "CranePads", name := "isPad", desc := "(I)Z" } : Jvm.MethodName)) ∈ GG := gg_mem 462 (by decide +kernel) rfl
theorem w_463 : (Jvm.Cond.code ({ cls := "CranePads", name := "isPad", desc := "(I)Z" } : Jvm.MethodName) prog_1_method_44_code (1 : Nat) (Option.some Jvm.ClassFile.FieldType.boolean)) ∈ GG := gg_mem 463 (by decide +kernel) rfl
theorem w_464 : (Jvm.Cond.methodLink "CranePads" (84 : Nat) ({ cls := "CranePads", name := "within", desc := "(III)Z" } : Jvm.MethodName)) ∈ GG := gg_mem 464 (by decide +kernel) rfl
theorem w_465 : (Jvm.Cond.static ({ cls := "CranePads", name := "within", desc := "(III)Z" } : Jvm.MethodName)) ∈ GG := gg_mem 465 (by decide +kernel) rfl
theorem w_466 : (Jvm.Cond.code ({ cls := "CranePads", name := "within", desc := "(III)Z" } : Jvm.MethodName) prog_1_method_43_code (3 : Nat) (Option.some Jvm.ClassFile.FieldType.boolean)) ∈ GG := gg_mem 466 (by decide +kernel) rfl
theorem w_467 : (Jvm.Cond.methodLink "CranePads" (92 : Nat) ({ cls := "CranePads$Pads", name := "place", desc := "(IIII)V" } : Jvm.MethodName)) ∈ GG := gg_mem 467 (by decide +kernel) rfl
theorem w_468 : (Jvm.Cond.instanceMethod ({ cls := "CranePads$Pads", name := "place", desc := "(IIII)V" } : Jvm.MethodName)) ∈ GG := gg_mem 468 (by decide +kernel) rfl
theorem w_469 : (Jvm.Cond.selects "CranePads$Pads" ({ cls := "CranePads$Pads", name := "place", desc := "(IIII)V" } : Jvm.MethodName) ({ cls := "CranePads$Pads", name := "place", desc := "(IIII)V" } : Jvm.MethodName)) ∈ GG := gg_mem 469 (by decide +kernel) rfl
theorem w_470 : (Jvm.Cond.code ({ cls := "CranePads$Pads", name := "place", desc := "(IIII)V" } : Jvm.MethodName) prog_6_method_2_code (5 : Nat) (Option.none : Option Jvm.ClassFile.FieldType)) ∈ GG := gg_mem 470 (by decide +kernel) rfl
theorem w_475 : (Jvm.Cond.methodLink "CranePads" (101 : Nat) ({ cls := "CranePads", name := "isMass", desc := "(I)Z" } : Jvm.MethodName)) ∈ GG := gg_mem 475 (by decide +kernel) rfl
theorem w_476 : (Jvm.Cond.static ({ cls := "CranePads", name := "isMass", desc := "(I)Z" } : Jvm.MethodName)) ∈ GG := gg_mem 476 (by decide +kernel) rfl
theorem w_477 : (Jvm.Cond.code ({ cls := "CranePads", name := "isMass", desc := "(I)Z" } : Jvm.MethodName) prog_1_method_47_code (1 : Nat) (Option.some Jvm.ClassFile.FieldType.boolean)) ∈ GG := gg_mem 477 (by decide +kernel) rfl
theorem w_478 : (Jvm.Cond.methodLink "CranePads" (114 : Nat) ({ cls := "CranePads$Parts", name := "append", desc := "(IIIZ)I" } : Jvm.MethodName)) ∈ GG := gg_mem 478 (by decide +kernel) rfl
theorem w_479 : (Jvm.Cond.instanceMethod ({ cls := "CranePads$Parts", name := "append", desc := "(IIIZ)I" } : Jvm.MethodName)) ∈ GG := gg_mem 479 (by decide +kernel) rfl
theorem w_480 : (Jvm.Cond.selects "CranePads$Parts" ({ cls := "CranePads$Parts", name := "append", desc := "(IIIZ)I" } : Jvm.MethodName) ({ cls := "CranePads$Parts", name := "append", desc := "(IIIZ)I" } : Jvm.MethodName)) ∈ GG := gg_mem 480 (by decide +kernel) rfl
theorem w_481 : (Jvm.Cond.code ({ cls := "CranePads$Parts", name := "append", desc := "(IIIZ)I" } : Jvm.MethodName) prog_7_method_3_code (6 : Nat) (Option.some Jvm.ClassFile.FieldType.int)) ∈ GG := gg_mem 481 (by decide +kernel) rfl
theorem w_482 : (Jvm.Cond.methodLink "CranePads$Parts" (29 : Nat) ({ cls := "CranePads$Parts", name := "reweigh", desc := "(II)V" } : Jvm.MethodName)) ∈ GG := gg_mem 482 (by decide +kernel) rfl
theorem w_483 : (Jvm.Cond.instanceMethod ({ cls := "CranePads$Parts", name := "reweigh", desc := "(II)V" } : Jvm.MethodName)) ∈ GG := gg_mem 483 (by decide +kernel) rfl
theorem w_484 : (Jvm.Cond.selects "CranePads$Parts" ({ cls := "CranePads$Parts", name := "reweigh", desc := "(II)V" } : Jvm.MethodName) ({ cls := "CranePads$Parts", name := "reweigh", desc := "(II)V" } : Jvm.MethodName)) ∈ GG := gg_mem 484 (by decide +kernel) rfl
theorem w_485 : (Jvm.Cond.code ({ cls := "CranePads$Parts", name := "reweigh", desc := "(II)V" } : Jvm.MethodName) prog_7_method_4_code (4 : Nat) (Option.none : Option Jvm.ClassFile.FieldType)) ∈ GG := gg_mem 485 (by decide +kernel) rfl
theorem w_490 : (Jvm.Cond.methodLink "CranePads" (118 : Nat) ({ cls := "CranePads$Parts", name := "has", desc := "(I)Z" } : Jvm.MethodName)) ∈ GG := gg_mem 490 (by decide +kernel) rfl
theorem w_491 : (Jvm.Cond.instanceMethod ({ cls := "CranePads$Parts", name := "has", desc := "(I)Z" } : Jvm.MethodName)) ∈ GG := gg_mem 491 (by decide +kernel) rfl
theorem w_492 : (Jvm.Cond.selects "CranePads$Parts" ({ cls := "CranePads$Parts", name := "has", desc := "(I)Z" } : Jvm.MethodName) ({ cls := "CranePads$Parts", name := "has", desc := "(I)Z" } : Jvm.MethodName)) ∈ GG := gg_mem 492 (by decide +kernel) rfl
theorem w_493 : (Jvm.Cond.code ({ cls := "CranePads$Parts", name := "has", desc := "(I)Z" } : Jvm.MethodName) prog_7_method_2_code (2 : Nat) (Option.some Jvm.ClassFile.FieldType.boolean)) ∈ GG := gg_mem 493 (by decide +kernel) rfl
theorem w_494 : (Jvm.Cond.methodLink "CranePads" (125 : Nat) ({ cls := "CranePads$Parts", name := "reweigh", desc := "(II)V" } : Jvm.MethodName)) ∈ GG := gg_mem 494 (by decide +kernel) rfl
theorem w_499 : (Jvm.Cond.methodLink "CranePads" (129 : Nat) ({ cls := "CranePads", name := "isDial", desc := "(I)Z" } : Jvm.MethodName)) ∈ GG := gg_mem 499 (by decide +kernel) rfl
theorem w_500 : (Jvm.Cond.static ({ cls := "CranePads", name := "isDial", desc := "(I)Z" } : Jvm.MethodName)) ∈ GG := gg_mem 500 (by decide +kernel) rfl
theorem w_501 : (Jvm.Cond.code ({ cls := "CranePads", name := "isDial", desc := "(I)Z" } : Jvm.MethodName) prog_1_method_48_code (1 : Nat) (Option.some Jvm.ClassFile.FieldType.boolean)) ∈ GG := gg_mem 501 (by decide +kernel) rfl
theorem w_502 : (Jvm.Cond.methodLink "CranePads" (132 : Nat) ({ cls := "CranePads", name := "fitsDial", desc := "(II)Z" } : Jvm.MethodName)) ∈ GG := gg_mem 502 (by decide +kernel) rfl
theorem w_503 : (Jvm.Cond.static ({ cls := "CranePads", name := "fitsDial", desc := "(II)Z" } : Jvm.MethodName)) ∈ GG := gg_mem 503 (by decide +kernel) rfl
theorem w_504 : (Jvm.Cond.code ({ cls := "CranePads", name := "fitsDial", desc := "(II)Z" } : Jvm.MethodName) prog_1_method_49_code (2 : Nat) (Option.some Jvm.ClassFile.FieldType.boolean)) ∈ GG := gg_mem 504 (by decide +kernel) rfl
theorem w_505 : (Jvm.Cond.fieldLink "CranePads" (333 : Nat) "CranePads" "LEAST_OF_DIAL" "[I") ∈ GG := gg_mem 505 (by decide +kernel) rfl
theorem w_507 : (Jvm.Cond.fieldLink "CranePads" (336 : Nat) "CranePads" "MOST_OF_DIAL" "[I") ∈ GG := gg_mem 507 (by decide +kernel) rfl
theorem w_517 : (Jvm.Cond.constantLong "CranePads" (139 : Nat) (-9223372036854775808 : Int64)) ∈ GG := gg_mem 517 (by decide +kernel) rfl
theorem w_522 : (Jvm.Cond.methodLink "CranePads" (150 : Nat) ({ cls := "CranePads", name := "isChart", desc := "(I)Z" } : Jvm.MethodName)) ∈ GG := gg_mem 522 (by decide +kernel) rfl
theorem w_523 : (Jvm.Cond.static ({ cls := "CranePads", name := "isChart", desc := "(I)Z" } : Jvm.MethodName)) ∈ GG := gg_mem 523 (by decide +kernel) rfl
theorem w_524 : (Jvm.Cond.code ({ cls := "CranePads", name := "isChart", desc := "(I)Z" } : Jvm.MethodName) prog_1_method_45_code (1 : Nat) (Option.some Jvm.ClassFile.FieldType.boolean)) ∈ GG := gg_mem 524 (by decide +kernel) rfl
theorem w_525 : (Jvm.Cond.methodLink "CranePads" (157 : Nat) ({ cls := "CranePads$Chart", name := "has", desc := "(I)Z" } : Jvm.MethodName)) ∈ GG := gg_mem 525 (by decide +kernel) rfl
theorem w_526 : (Jvm.Cond.instanceMethod ({ cls := "CranePads$Chart", name := "has", desc := "(I)Z" } : Jvm.MethodName)) ∈ GG := gg_mem 526 (by decide +kernel) rfl
theorem w_527 : (Jvm.Cond.selects "CranePads$Chart" ({ cls := "CranePads$Chart", name := "has", desc := "(I)Z" } : Jvm.MethodName) ({ cls := "CranePads$Chart", name := "has", desc := "(I)Z" } : Jvm.MethodName)) ∈ GG := gg_mem 527 (by decide +kernel) rfl
theorem w_528 : (Jvm.Cond.code ({ cls := "CranePads$Chart", name := "has", desc := "(I)Z" } : Jvm.MethodName) prog_3_method_2_code (2 : Nat) (Option.some Jvm.ClassFile.FieldType.boolean)) ∈ GG := gg_mem 528 (by decide +kernel) rfl
theorem w_529 : (Jvm.Cond.methodLink "CranePads" (161 : Nat) ({ cls := "CranePads$Chart", name := "write", desc := "(II)V" } : Jvm.MethodName)) ∈ GG := gg_mem 529 (by decide +kernel) rfl
theorem w_530 : (Jvm.Cond.instanceMethod ({ cls := "CranePads$Chart", name := "write", desc := "(II)V" } : Jvm.MethodName)) ∈ GG := gg_mem 530 (by decide +kernel) rfl
theorem w_531 : (Jvm.Cond.selects "CranePads$Chart" ({ cls := "CranePads$Chart", name := "write", desc := "(II)V" } : Jvm.MethodName) ({ cls := "CranePads$Chart", name := "write", desc := "(II)V" } : Jvm.MethodName)) ∈ GG := gg_mem 531 (by decide +kernel) rfl
theorem w_532 : (Jvm.Cond.code ({ cls := "CranePads$Chart", name := "write", desc := "(II)V" } : Jvm.MethodName) prog_3_method_3_code (3 : Nat) (Option.none : Option Jvm.ClassFile.FieldType)) ∈ GG := gg_mem 532 (by decide +kernel) rfl
theorem w_533 : (Jvm.Cond.methodLink "CranePads$Chart" (25 : Nat) ({ cls := "CranePads$Chart", name := "has", desc := "(I)Z" } : Jvm.MethodName)) ∈ GG := gg_mem 533 (by decide +kernel) rfl
theorem w_538 : (Jvm.Cond.methodLink "CranePads" (164 : Nat) ({ cls := "CranePads$Chart", name := "at", desc := "(I)I" } : Jvm.MethodName)) ∈ GG := gg_mem 538 (by decide +kernel) rfl
theorem w_539 : (Jvm.Cond.instanceMethod ({ cls := "CranePads$Chart", name := "at", desc := "(I)I" } : Jvm.MethodName)) ∈ GG := gg_mem 539 (by decide +kernel) rfl
theorem w_540 : (Jvm.Cond.selects "CranePads$Chart" ({ cls := "CranePads$Chart", name := "at", desc := "(I)I" } : Jvm.MethodName) ({ cls := "CranePads$Chart", name := "at", desc := "(I)I" } : Jvm.MethodName)) ∈ GG := gg_mem 540 (by decide +kernel) rfl
theorem w_541 : (Jvm.Cond.code ({ cls := "CranePads$Chart", name := "at", desc := "(I)I" } : Jvm.MethodName) prog_3_method_4_code (4 : Nat) (Option.some Jvm.ClassFile.FieldType.int)) ∈ GG := gg_mem 541 (by decide +kernel) rfl
theorem w_546 : (Jvm.Cond.methodLink "CranePads" (168 : Nat) ({ cls := "CranePads$Crane", name := "mayHang", desc := "(II)I" } : Jvm.MethodName)) ∈ GG := gg_mem 546 (by decide +kernel) rfl
theorem w_547 : (Jvm.Cond.instanceMethod ({ cls := "CranePads$Crane", name := "mayHang", desc := "(II)I" } : Jvm.MethodName)) ∈ GG := gg_mem 547 (by decide +kernel) rfl
theorem w_548 : (Jvm.Cond.selects "CranePads$Crane" ({ cls := "CranePads$Crane", name := "mayHang", desc := "(II)I" } : Jvm.MethodName) ({ cls := "CranePads$Crane", name := "mayHang", desc := "(II)I" } : Jvm.MethodName)) ∈ GG := gg_mem 548 (by decide +kernel) rfl
theorem w_549 : (Jvm.Cond.code ({ cls := "CranePads$Crane", name := "mayHang", desc := "(II)I" } : Jvm.MethodName) prog_4_method_5_code (5 : Nat) (Option.some Jvm.ClassFile.FieldType.int)) ∈ GG := gg_mem 549 (by decide +kernel) rfl
theorem w_550 : (Jvm.Cond.methodLink "CranePads$Crane" (70 : Nat) ({ cls := "CranePads$Chart", name := "at", desc := "(I)I" } : Jvm.MethodName)) ∈ GG := gg_mem 550 (by decide +kernel) rfl
theorem w_551 : (Jvm.Cond.methodLink "CranePads$Crane" (74 : Nat) ({ cls := "java/lang/Math", name := "max", desc := "(II)I" } : Jvm.MethodName)) ∈ GG := gg_mem 551 (by decide +kernel) rfl
theorem w_552 : (Jvm.Cond.static ({ cls := "java/lang/Math", name := "max", desc := "(II)I" } : Jvm.MethodName)) ∈ GG := gg_mem 552 (by decide +kernel) rfl
theorem w_553 : (Jvm.Cond.code ({ cls := "java/lang/Math", name := "max", desc := "(II)I" } : Jvm.MethodName) prog_16_method_65_code (2 : Nat) (Option.some Jvm.ClassFile.FieldType.int)) ∈ GG := gg_mem 553 (by decide +kernel) rfl
theorem w_558 : (Jvm.Cond.methodLink "CranePads" (172 : Nat) ({ cls := "CranePads$Crane", name := "wholeMass", desc := "()I" } : Jvm.MethodName)) ∈ GG := gg_mem 558 (by decide +kernel) rfl
theorem w_559 : (Jvm.Cond.instanceMethod ({ cls := "CranePads$Crane", name := "wholeMass", desc := "()I" } : Jvm.MethodName)) ∈ GG := gg_mem 559 (by decide +kernel) rfl
theorem w_560 : (Jvm.Cond.selects "CranePads$Crane" ({ cls := "CranePads$Crane", name := "wholeMass", desc := "()I" } : Jvm.MethodName) ({ cls := "CranePads$Crane", name := "wholeMass", desc := "()I" } : Jvm.MethodName)) ∈ GG := gg_mem 560 (by decide +kernel) rfl
theorem w_561 : (Jvm.Cond.code ({ cls := "CranePads$Crane", name := "wholeMass", desc := "()I" } : Jvm.MethodName) prog_4_method_4_code (1 : Nat) (Option.some Jvm.ClassFile.FieldType.int)) ∈ GG := gg_mem 561 (by decide +kernel) rfl
theorem w_562 : (Jvm.Cond.methodLink "CranePads$Crane" (66 : Nat) ({ cls := "CranePads$Crane", name := "hanging", desc := "()I" } : Jvm.MethodName)) ∈ GG := gg_mem 562 (by decide +kernel) rfl
theorem w_563 : (Jvm.Cond.instanceMethod ({ cls := "CranePads$Crane", name := "hanging", desc := "()I" } : Jvm.MethodName)) ∈ GG := gg_mem 563 (by decide +kernel) rfl
theorem w_564 : (Jvm.Cond.selects "CranePads$Crane" ({ cls := "CranePads$Crane", name := "hanging", desc := "()I" } : Jvm.MethodName) ({ cls := "CranePads$Crane", name := "hanging", desc := "()I" } : Jvm.MethodName)) ∈ GG := gg_mem 564 (by decide +kernel) rfl
theorem w_565 : (Jvm.Cond.code ({ cls := "CranePads$Crane", name := "hanging", desc := "()I" } : Jvm.MethodName) prog_4_method_3_code (1 : Nat) (Option.some Jvm.ClassFile.FieldType.int)) ∈ GG := gg_mem 565 (by decide +kernel) rfl
theorem w_570 : (Jvm.Cond.methodLink "CranePads" (176 : Nat) ({ cls := "CranePads$Judge", name := "gather", desc := "(LCranePads$Crane;)V" } : Jvm.MethodName)) ∈ GG := gg_mem 570 (by decide +kernel) rfl
theorem w_571 : (Jvm.Cond.instanceMethod ({ cls := "CranePads$Judge", name := "gather", desc := "(LCranePads$Crane;)V" } : Jvm.MethodName)) ∈ GG := gg_mem 571 (by decide +kernel) rfl
theorem w_572 : (Jvm.Cond.selects "CranePads$Judge" ({ cls := "CranePads$Judge", name := "gather", desc := "(LCranePads$Crane;)V" } : Jvm.MethodName) ({ cls := "CranePads$Judge", name := "gather", desc := "(LCranePads$Crane;)V" } : Jvm.MethodName)) ∈ GG := gg_mem 572 (by decide +kernel) rfl
theorem w_573 : (Jvm.Cond.code ({ cls := "CranePads$Judge", name := "gather", desc := "(LCranePads$Crane;)V" } : Jvm.MethodName) prog_5_method_5_code (11 : Nat) (Option.none : Option Jvm.ClassFile.FieldType)) ∈ GG := gg_mem 573 (by decide +kernel) rfl
theorem w_578 : (Jvm.Cond.methodLink "CranePads$Judge" (84 : Nat) ({ cls := "CranePads$Crane", name := "hanging", desc := "()I" } : Jvm.MethodName)) ∈ GG := gg_mem 578 (by decide +kernel) rfl
theorem w_579 : (Jvm.Cond.constantLong "CranePads$Judge" (90 : Nat) (65 : Int64)) ∈ GG := gg_mem 579 (by decide +kernel) rfl
theorem w_580 : (Jvm.Cond.methodLink "CranePads$Judge" (92 : Nat) ({ cls := "CranePads$Crane", name := "wholeMass", desc := "()I" } : Jvm.MethodName)) ∈ GG := gg_mem 580 (by decide +kernel) rfl
theorem w_581 : (Jvm.Cond.methodLink "CranePads" (180 : Nat) ({ cls := "CranePads", name := "isSide", desc := "(I)Z" } : Jvm.MethodName)) ∈ GG := gg_mem 581 (by decide +kernel) rfl
theorem w_582 : (Jvm.Cond.static ({ cls := "CranePads", name := "isSide", desc := "(I)Z" } : Jvm.MethodName)) ∈ GG := gg_mem 582 (by decide +kernel) rfl
theorem w_583 : (Jvm.Cond.code ({ cls := "CranePads", name := "isSide", desc := "(I)Z" } : Jvm.MethodName) prog_1_method_50_code (1 : Nat) (Option.some Jvm.ClassFile.FieldType.boolean)) ∈ GG := gg_mem 583 (by decide +kernel) rfl
theorem w_584 : (Jvm.Cond.methodLink "CranePads" (193 : Nat) ({ cls := "CranePads", name := "inLowestTerms", desc := "(JJI)J" } : Jvm.MethodName)) ∈ GG := gg_mem 584 (by decide +kernel) rfl
theorem w_585 : (Jvm.Cond.static ({ cls := "CranePads", name := "inLowestTerms", desc := "(JJI)J" } : Jvm.MethodName)) ∈ GG := gg_mem 585 (by decide +kernel) rfl
theorem w_586 : (Jvm.Cond.code ({ cls := "CranePads", name := "inLowestTerms", desc := "(JJI)J" } : Jvm.MethodName) prog_1_method_52_code (7 : Nat) (Option.some Jvm.ClassFile.FieldType.long)) ∈ GG := gg_mem 586 (by decide +kernel) rfl
theorem w_587 : (Jvm.Cond.methodLink "CranePads" (339 : Nat) ({ cls := "java/lang/Math", name := "abs", desc := "(J)J" } : Jvm.MethodName)) ∈ GG := gg_mem 587 (by decide +kernel) rfl
theorem w_588 : (Jvm.Cond.static ({ cls := "java/lang/Math", name := "abs", desc := "(J)J" } : Jvm.MethodName)) ∈ GG := gg_mem 588 (by decide +kernel) rfl
theorem w_589 : (Jvm.Cond.code ({ cls := "java/lang/Math", name := "abs", desc := "(J)J" } : Jvm.MethodName) prog_16_method_61_code (2 : Nat) (Option.some Jvm.ClassFile.FieldType.long)) ∈ GG := gg_mem 589 (by decide +kernel) rfl
theorem w_590 : (Jvm.Cond.methodLink "CranePads" (345 : Nat) ({ cls := "CranePads", name := "commonDivisor", desc := "(JJ)J" } : Jvm.MethodName)) ∈ GG := gg_mem 590 (by decide +kernel) rfl
theorem w_591 : (Jvm.Cond.static ({ cls := "CranePads", name := "commonDivisor", desc := "(JJ)J" } : Jvm.MethodName)) ∈ GG := gg_mem 591 (by decide +kernel) rfl
theorem w_592 : (Jvm.Cond.code ({ cls := "CranePads", name := "commonDivisor", desc := "(JJ)J" } : Jvm.MethodName) prog_1_method_53_code (11 : Nat) (Option.some Jvm.ClassFile.FieldType.long)) ∈ GG := gg_mem 592 (by decide +kernel) rfl
theorem w_597 : (Jvm.Cond.methodLink "CranePads" (197 : Nat) ({ cls := "CranePads", name := "next", desc := "(I)I" } : Jvm.MethodName)) ∈ GG := gg_mem 597 (by decide +kernel) rfl
theorem w_598 : (Jvm.Cond.methodLink "CranePads" (200 : Nat) ({ cls := "CranePads$Judge", name := "about", desc := "(LCranePads$Pads;II)J" } : Jvm.MethodName)) ∈ GG := gg_mem 598 (by decide +kernel) rfl
theorem w_599 : (Jvm.Cond.instanceMethod ({ cls := "CranePads$Judge", name := "about", desc := "(LCranePads$Pads;II)J" } : Jvm.MethodName)) ∈ GG := gg_mem 599 (by decide +kernel) rfl
theorem w_600 : (Jvm.Cond.selects "CranePads$Judge" ({ cls := "CranePads$Judge", name := "about", desc := "(LCranePads$Pads;II)J" } : Jvm.MethodName) ({ cls := "CranePads$Judge", name := "about", desc := "(LCranePads$Pads;II)J" } : Jvm.MethodName)) ∈ GG := gg_mem 600 (by decide +kernel) rfl
theorem w_601 : (Jvm.Cond.code ({ cls := "CranePads$Judge", name := "about", desc := "(LCranePads$Pads;II)J" } : Jvm.MethodName) prog_5_method_6_code (8 : Nat) (Option.some Jvm.ClassFile.FieldType.long)) ∈ GG := gg_mem 601 (by decide +kernel) rfl
theorem w_602 : (Jvm.Cond.constantLong "CranePads" (204 : Nat) (65 : Int64)) ∈ GG := gg_mem 602 (by decide +kernel) rfl
theorem w_607 : (Jvm.Cond.methodLink "CranePads" (206 : Nat) ({ cls := "CranePads$Judge", name := "splitMoments", desc := "(LCranePads$Crane;I)V" } : Jvm.MethodName)) ∈ GG := gg_mem 607 (by decide +kernel) rfl
theorem w_608 : (Jvm.Cond.instanceMethod ({ cls := "CranePads$Judge", name := "splitMoments", desc := "(LCranePads$Crane;I)V" } : Jvm.MethodName)) ∈ GG := gg_mem 608 (by decide +kernel) rfl
theorem w_609 : (Jvm.Cond.selects "CranePads$Judge" ({ cls := "CranePads$Judge", name := "splitMoments", desc := "(LCranePads$Crane;I)V" } : Jvm.MethodName) ({ cls := "CranePads$Judge", name := "splitMoments", desc := "(LCranePads$Crane;I)V" } : Jvm.MethodName)) ∈ GG := gg_mem 609 (by decide +kernel) rfl
theorem w_610 : (Jvm.Cond.code ({ cls := "CranePads$Judge", name := "splitMoments", desc := "(LCranePads$Crane;I)V" } : Jvm.MethodName) prog_5_method_9_code (14 : Nat) (Option.none : Option Jvm.ClassFile.FieldType)) ∈ GG := gg_mem 610 (by decide +kernel) rfl
theorem w_611 : (Jvm.Cond.methodLink "CranePads$Judge" (142 : Nat) ({ cls := "CranePads$Judge", name := "addMoment", desc := "(LCranePads$Pads;IIJJ)V" } : Jvm.MethodName)) ∈ GG := gg_mem 611 (by decide +kernel) rfl
theorem w_613 : (Jvm.Cond.instanceMethod ({ cls := "CranePads$Judge", name := "addMoment", desc := "(LCranePads$Pads;IIJJ)V" } : Jvm.MethodName)) ∈ GG := gg_mem 613 (by decide +kernel) rfl
theorem w_614 : (Jvm.Cond.code ({ cls := "CranePads$Judge", name := "addMoment", desc := "(LCranePads$Pads;IIJJ)V" } : Jvm.MethodName) prog_5_method_10_code (15 : Nat) (Option.none : Option Jvm.ClassFile.FieldType)) ∈ GG := gg_mem 614 (by decide +kernel) rfl
theorem w_620 : (Jvm.Cond.methodLink "CranePads" (216 : Nat) ({ cls := "CranePads$Judge", name := "finds", desc := "(LCranePads$Crane;)Z" } : Jvm.MethodName)) ∈ GG := gg_mem 620 (by decide +kernel) rfl
theorem w_621 : (Jvm.Cond.instanceMethod ({ cls := "CranePads$Judge", name := "finds", desc := "(LCranePads$Crane;)Z" } : Jvm.MethodName)) ∈ GG := gg_mem 621 (by decide +kernel) rfl
theorem w_622 : (Jvm.Cond.selects "CranePads$Judge" ({ cls := "CranePads$Judge", name := "finds", desc := "(LCranePads$Crane;)Z" } : Jvm.MethodName) ({ cls := "CranePads$Judge", name := "finds", desc := "(LCranePads$Crane;)Z" } : Jvm.MethodName)) ∈ GG := gg_mem 622 (by decide +kernel) rfl
theorem w_623 : (Jvm.Cond.code ({ cls := "CranePads$Judge", name := "finds", desc := "(LCranePads$Crane;)Z" } : Jvm.MethodName) prog_5_method_3_code (3 : Nat) (Option.some Jvm.ClassFile.FieldType.boolean)) ∈ GG := gg_mem 623 (by decide +kernel) rfl
theorem w_624 : (Jvm.Cond.methodLink "CranePads$Judge" (61 : Nat) ({ cls := "CranePads$Judge", name := "verdict", desc := "(LCranePads$Crane;)I" } : Jvm.MethodName)) ∈ GG := gg_mem 624 (by decide +kernel) rfl
theorem w_625 : (Jvm.Cond.instanceMethod ({ cls := "CranePads$Judge", name := "verdict", desc := "(LCranePads$Crane;)I" } : Jvm.MethodName)) ∈ GG := gg_mem 625 (by decide +kernel) rfl
theorem w_626 : (Jvm.Cond.selects "CranePads$Judge" ({ cls := "CranePads$Judge", name := "verdict", desc := "(LCranePads$Crane;)I" } : Jvm.MethodName) ({ cls := "CranePads$Judge", name := "verdict", desc := "(LCranePads$Crane;)I" } : Jvm.MethodName)) ∈ GG := gg_mem 626 (by decide +kernel) rfl
theorem w_627 : (Jvm.Cond.code ({ cls := "CranePads$Judge", name := "verdict", desc := "(LCranePads$Crane;)I" } : Jvm.MethodName) prog_5_method_2_code (2 : Nat) (Option.some Jvm.ClassFile.FieldType.int)) ∈ GG := gg_mem 627 (by decide +kernel) rfl
theorem w_628 : (Jvm.Cond.methodLink "CranePads$Judge" (27 : Nat) ({ cls := "CranePads$Judge", name := "gather", desc := "(LCranePads$Crane;)V" } : Jvm.MethodName)) ∈ GG := gg_mem 628 (by decide +kernel) rfl
theorem w_629 : (Jvm.Cond.methodLink "CranePads$Judge" (35 : Nat) ({ cls := "CranePads$Judge", name := "tipsOver", desc := "(LCranePads$Pads;)Z" } : Jvm.MethodName)) ∈ GG := gg_mem 629 (by decide +kernel) rfl
theorem w_631 : (Jvm.Cond.instanceMethod ({ cls := "CranePads$Judge", name := "tipsOver", desc := "(LCranePads$Pads;)Z" } : Jvm.MethodName)) ∈ GG := gg_mem 631 (by decide +kernel) rfl
theorem w_632 : (Jvm.Cond.code ({ cls := "CranePads$Judge", name := "tipsOver", desc := "(LCranePads$Pads;)Z" } : Jvm.MethodName) prog_5_method_11_code (3 : Nat) (Option.some Jvm.ClassFile.FieldType.boolean)) ∈ GG := gg_mem 632 (by decide +kernel) rfl
theorem w_633 : (Jvm.Cond.methodLink "CranePads$Judge" (150 : Nat) ({ cls := "CranePads$Judge", name := "about", desc := "(LCranePads$Pads;II)J" } : Jvm.MethodName)) ∈ GG := gg_mem 633 (by decide +kernel) rfl
theorem w_634 : (Jvm.Cond.methodLink "CranePads$Judge" (39 : Nat) ({ cls := "CranePads$Judge", name := "shareByPlane", desc := "(LCranePads$Pads;)V" } : Jvm.MethodName)) ∈ GG := gg_mem 634 (by decide +kernel) rfl
theorem w_636 : (Jvm.Cond.instanceMethod ({ cls := "CranePads$Judge", name := "shareByPlane", desc := "(LCranePads$Pads;)V" } : Jvm.MethodName)) ∈ GG := gg_mem 636 (by decide +kernel) rfl
theorem w_637 : (Jvm.Cond.code ({ cls := "CranePads$Judge", name := "shareByPlane", desc := "(LCranePads$Pads;)V" } : Jvm.MethodName) prog_5_method_14_code (9 : Nat) (Option.none : Option Jvm.ClassFile.FieldType)) ∈ GG := gg_mem 637 (by decide +kernel) rfl
theorem w_638 : (Jvm.Cond.methodLink "CranePads$Judge" (43 : Nat) ({ cls := "CranePads$Judge", name := "lowestBelowNothing", desc := "()I" } : Jvm.MethodName)) ∈ GG := gg_mem 638 (by decide +kernel) rfl
theorem w_640 : (Jvm.Cond.instanceMethod ({ cls := "CranePads$Judge", name := "lowestBelowNothing", desc := "()I" } : Jvm.MethodName)) ∈ GG := gg_mem 640 (by decide +kernel) rfl
theorem w_641 : (Jvm.Cond.code ({ cls := "CranePads$Judge", name := "lowestBelowNothing", desc := "()I" } : Jvm.MethodName) prog_5_method_13_code (5 : Nat) (Option.some Jvm.ClassFile.FieldType.int)) ∈ GG := gg_mem 641 (by decide +kernel) rfl
theorem w_642 : (Jvm.Cond.methodLink "CranePads$Judge" (51 : Nat) ({ cls := "CranePads$Judge", name := "shareByThree", desc := "(LCranePads$Pads;I)Z" } : Jvm.MethodName)) ∈ GG := gg_mem 642 (by decide +kernel) rfl
theorem w_644 : (Jvm.Cond.instanceMethod ({ cls := "CranePads$Judge", name := "shareByThree", desc := "(LCranePads$Pads;I)Z" } : Jvm.MethodName)) ∈ GG := gg_mem 644 (by decide +kernel) rfl
theorem w_645 : (Jvm.Cond.code ({ cls := "CranePads$Judge", name := "shareByThree", desc := "(LCranePads$Pads;I)Z" } : Jvm.MethodName) prog_5_method_15_code (6 : Nat) (Option.some Jvm.ClassFile.FieldType.boolean)) ∈ GG := gg_mem 645 (by decide +kernel) rfl
theorem w_646 : (Jvm.Cond.methodLink "CranePads$Judge" (178 : Nat) ({ cls := "CranePads$Pads", name := "span", desc := "(I)J" } : Jvm.MethodName)) ∈ GG := gg_mem 646 (by decide +kernel) rfl
theorem w_647 : (Jvm.Cond.methodLink "CranePads$Judge" (55 : Nat) ({ cls := "CranePads$Judge", name := "isOverLimit", desc := "(LCranePads$Pads;)Z" } : Jvm.MethodName)) ∈ GG := gg_mem 647 (by decide +kernel) rfl
theorem w_649 : (Jvm.Cond.instanceMethod ({ cls := "CranePads$Judge", name := "isOverLimit", desc := "(LCranePads$Pads;)Z" } : Jvm.MethodName)) ∈ GG := gg_mem 649 (by decide +kernel) rfl
theorem w_650 : (Jvm.Cond.code ({ cls := "CranePads$Judge", name := "isOverLimit", desc := "(LCranePads$Pads;)Z" } : Jvm.MethodName) prog_5_method_12_code (3 : Nat) (Option.some Jvm.ClassFile.FieldType.boolean)) ∈ GG := gg_mem 650 (by decide +kernel) rfl
theorem w_651 : (Jvm.Cond.methodLink "CranePads$Judge" (58 : Nat) ({ cls := "CranePads$Crane", name := "room", desc := "()I" } : Jvm.MethodName)) ∈ GG := gg_mem 651 (by decide +kernel) rfl
theorem w_652 : (Jvm.Cond.instanceMethod ({ cls := "CranePads$Crane", name := "room", desc := "()I" } : Jvm.MethodName)) ∈ GG := gg_mem 652 (by decide +kernel) rfl
theorem w_653 : (Jvm.Cond.selects "CranePads$Crane" ({ cls := "CranePads$Crane", name := "room", desc := "()I" } : Jvm.MethodName) ({ cls := "CranePads$Crane", name := "room", desc := "()I" } : Jvm.MethodName)) ∈ GG := gg_mem 653 (by decide +kernel) rfl
theorem w_654 : (Jvm.Cond.code ({ cls := "CranePads$Crane", name := "room", desc := "()I" } : Jvm.MethodName) prog_4_method_6_code (1 : Nat) (Option.some Jvm.ClassFile.FieldType.int)) ∈ GG := gg_mem 654 (by decide +kernel) rfl
theorem w_655 : (Jvm.Cond.methodLink "CranePads$Crane" (80 : Nat) ({ cls := "CranePads$Crane", name := "mayHang", desc := "(II)I" } : Jvm.MethodName)) ∈ GG := gg_mem 655 (by decide +kernel) rfl
theorem w_668 : (Jvm.Cond.methodLink "CranePads" (230 : Nat) ({ cls := "CranePads$Judge", name := "verdict", desc := "(LCranePads$Crane;)I" } : Jvm.MethodName)) ∈ GG := gg_mem 668 (by decide +kernel) rfl
theorem w_673 : (Jvm.Cond.methodLink "CranePads" (234 : Nat) ({ cls := "CranePads$Crane", name := "become", desc := "(LCranePads$Crane;)V" } : Jvm.MethodName)) ∈ GG := gg_mem 673 (by decide +kernel) rfl
theorem w_674 : (Jvm.Cond.instanceMethod ({ cls := "CranePads$Crane", name := "become", desc := "(LCranePads$Crane;)V" } : Jvm.MethodName)) ∈ GG := gg_mem 674 (by decide +kernel) rfl
theorem w_675 : (Jvm.Cond.selects "CranePads$Crane" ({ cls := "CranePads$Crane", name := "become", desc := "(LCranePads$Crane;)V" } : Jvm.MethodName) ({ cls := "CranePads$Crane", name := "become", desc := "(LCranePads$Crane;)V" } : Jvm.MethodName)) ∈ GG := gg_mem 675 (by decide +kernel) rfl
theorem w_676 : (Jvm.Cond.code ({ cls := "CranePads$Crane", name := "become", desc := "(LCranePads$Crane;)V" } : Jvm.MethodName) prog_4_method_2_code (3 : Nat) (Option.none : Option Jvm.ClassFile.FieldType)) ∈ GG := gg_mem 676 (by decide +kernel) rfl
theorem w_677 : (Jvm.Cond.methodLink "CranePads$Crane" (44 : Nat) ({ cls := "CranePads$Pads", name := "placeAs", desc := "(LCranePads$Pads;)V" } : Jvm.MethodName)) ∈ GG := gg_mem 677 (by decide +kernel) rfl
theorem w_678 : (Jvm.Cond.instanceMethod ({ cls := "CranePads$Pads", name := "placeAs", desc := "(LCranePads$Pads;)V" } : Jvm.MethodName)) ∈ GG := gg_mem 678 (by decide +kernel) rfl
theorem w_679 : (Jvm.Cond.selects "CranePads$Pads" ({ cls := "CranePads$Pads", name := "placeAs", desc := "(LCranePads$Pads;)V" } : Jvm.MethodName) ({ cls := "CranePads$Pads", name := "placeAs", desc := "(LCranePads$Pads;)V" } : Jvm.MethodName)) ∈ GG := gg_mem 679 (by decide +kernel) rfl
theorem w_680 : (Jvm.Cond.code ({ cls := "CranePads$Pads", name := "placeAs", desc := "(LCranePads$Pads;)V" } : Jvm.MethodName) prog_6_method_3_code (2 : Nat) (Option.none : Option Jvm.ClassFile.FieldType)) ∈ GG := gg_mem 680 (by decide +kernel) rfl
theorem w_681 : (Jvm.Cond.methodLink "CranePads$Pads" (24 : Nat) ({ cls := "java/lang/System", name := "arraycopy", desc := "(Ljava/lang/Object;ILjava/lang/Object;II)V" } : Jvm.MethodName)) ∈ GG := gg_mem 681 (by decide +kernel) rfl
theorem w_682 : (Jvm.Cond.static ({ cls := "java/lang/System", name := "arraycopy", desc := "(Ljava/lang/Object;ILjava/lang/Object;II)V" } : Jvm.MethodName)) ∈ GG := gg_mem 682 (by decide +kernel) rfl
theorem w_683 : (Jvm.Cond.native ({ cls := "java/lang/System", name := "arraycopy", desc := "(Ljava/lang/Object;ILjava/lang/Object;II)V" } : Jvm.MethodName)) ∈ GG := gg_mem 683 (by decide +kernel) rfl
theorem w_684 : (Jvm.Cond.methodLink "CranePads$Crane" (48 : Nat) ({ cls := "CranePads$Parts", name := "weighAs", desc := "(LCranePads$Parts;)V" } : Jvm.MethodName)) ∈ GG := gg_mem 684 (by decide +kernel) rfl
theorem w_685 : (Jvm.Cond.instanceMethod ({ cls := "CranePads$Parts", name := "weighAs", desc := "(LCranePads$Parts;)V" } : Jvm.MethodName)) ∈ GG := gg_mem 685 (by decide +kernel) rfl
theorem w_686 : (Jvm.Cond.selects "CranePads$Parts" ({ cls := "CranePads$Parts", name := "weighAs", desc := "(LCranePads$Parts;)V" } : Jvm.MethodName) ({ cls := "CranePads$Parts", name := "weighAs", desc := "(LCranePads$Parts;)V" } : Jvm.MethodName)) ∈ GG := gg_mem 686 (by decide +kernel) rfl
theorem w_687 : (Jvm.Cond.code ({ cls := "CranePads$Parts", name := "weighAs", desc := "(LCranePads$Parts;)V" } : Jvm.MethodName) prog_7_method_5_code (3 : Nat) (Option.none : Option Jvm.ClassFile.FieldType)) ∈ GG := gg_mem 687 (by decide +kernel) rfl
theorem w_688 : (Jvm.Cond.methodLink "CranePads$Parts" (48 : Nat) ({ cls := "java/lang/System", name := "arraycopy", desc := "(Ljava/lang/Object;ILjava/lang/Object;II)V" } : Jvm.MethodName)) ∈ GG := gg_mem 688 (by decide +kernel) rfl
theorem w_689 : (Jvm.Cond.methodLink "CranePads$Crane" (52 : Nat) ({ cls := "CranePads$Chart", name := "readAs", desc := "(LCranePads$Chart;)V" } : Jvm.MethodName)) ∈ GG := gg_mem 689 (by decide +kernel) rfl
theorem w_690 : (Jvm.Cond.instanceMethod ({ cls := "CranePads$Chart", name := "readAs", desc := "(LCranePads$Chart;)V" } : Jvm.MethodName)) ∈ GG := gg_mem 690 (by decide +kernel) rfl
theorem w_691 : (Jvm.Cond.selects "CranePads$Chart" ({ cls := "CranePads$Chart", name := "readAs", desc := "(LCranePads$Chart;)V" } : Jvm.MethodName) ({ cls := "CranePads$Chart", name := "readAs", desc := "(LCranePads$Chart;)V" } : Jvm.MethodName)) ∈ GG := gg_mem 691 (by decide +kernel) rfl
theorem w_692 : (Jvm.Cond.code ({ cls := "CranePads$Chart", name := "readAs", desc := "(LCranePads$Chart;)V" } : Jvm.MethodName) prog_3_method_5_code (2 : Nat) (Option.none : Option Jvm.ClassFile.FieldType)) ∈ GG := gg_mem 692 (by decide +kernel) rfl
theorem w_693 : (Jvm.Cond.methodLink "CranePads$Chart" (29 : Nat) ({ cls := "java/lang/System", name := "arraycopy", desc := "(Ljava/lang/Object;ILjava/lang/Object;II)V" } : Jvm.MethodName)) ∈ GG := gg_mem 693 (by decide +kernel) rfl
theorem w_694 : (Jvm.Cond.methodLink "CranePads$Crane" (56 : Nat) ({ cls := "java/lang/System", name := "arraycopy", desc := "(Ljava/lang/Object;ILjava/lang/Object;II)V" } : Jvm.MethodName)) ∈ GG := gg_mem 694 (by decide +kernel) rfl
theorem w_699 : (Jvm.Cond.methodLink "CranePads" (237 : Nat) ({ cls := "CranePads$Judge", name := "lawfulDirections", desc := "(LCranePads$Crane;I)I" } : Jvm.MethodName)) ∈ GG := gg_mem 699 (by decide +kernel) rfl
theorem w_700 : (Jvm.Cond.instanceMethod ({ cls := "CranePads$Judge", name := "lawfulDirections", desc := "(LCranePads$Crane;I)I" } : Jvm.MethodName)) ∈ GG := gg_mem 700 (by decide +kernel) rfl
theorem w_701 : (Jvm.Cond.selects "CranePads$Judge" ({ cls := "CranePads$Judge", name := "lawfulDirections", desc := "(LCranePads$Crane;I)I" } : Jvm.MethodName) ({ cls := "CranePads$Judge", name := "lawfulDirections", desc := "(LCranePads$Crane;I)I" } : Jvm.MethodName)) ∈ GG := gg_mem 701 (by decide +kernel) rfl
theorem w_702 : (Jvm.Cond.code ({ cls := "CranePads$Judge", name := "lawfulDirections", desc := "(LCranePads$Crane;I)I" } : Jvm.MethodName) prog_5_method_4_code (5 : Nat) (Option.some Jvm.ClassFile.FieldType.int)) ∈ GG := gg_mem 702 (by decide +kernel) rfl
theorem w_711 : (Jvm.Cond.methodLink "CranePads" (244 : Nat) ({ cls := "CranePads$Route", name := "begin", desc := "(II)V" } : Jvm.MethodName)) ∈ GG := gg_mem 711 (by decide +kernel) rfl
theorem w_712 : (Jvm.Cond.instanceMethod ({ cls := "CranePads$Route", name := "begin", desc := "(II)V" } : Jvm.MethodName)) ∈ GG := gg_mem 712 (by decide +kernel) rfl
theorem w_713 : (Jvm.Cond.selects "CranePads$Route" ({ cls := "CranePads$Route", name := "begin", desc := "(II)V" } : Jvm.MethodName) ({ cls := "CranePads$Route", name := "begin", desc := "(II)V" } : Jvm.MethodName)) ∈ GG := gg_mem 713 (by decide +kernel) rfl
theorem w_714 : (Jvm.Cond.code ({ cls := "CranePads$Route", name := "begin", desc := "(II)V" } : Jvm.MethodName) prog_9_method_2_code (3 : Nat) (Option.none : Option Jvm.ClassFile.FieldType)) ∈ GG := gg_mem 714 (by decide +kernel) rfl
theorem w_715 : (Jvm.Cond.methodLink "CranePads$Route" (21 : Nat) ({ cls := "java/util/Arrays", name := "fill", desc := "([II)V" } : Jvm.MethodName)) ∈ GG := gg_mem 715 (by decide +kernel) rfl
theorem w_716 : (Jvm.Cond.methodLink "CranePads" (247 : Nat) ({ cls := "CranePads$Route", name := "movesTo", desc := "(II)I" } : Jvm.MethodName)) ∈ GG := gg_mem 716 (by decide +kernel) rfl
theorem w_717 : (Jvm.Cond.instanceMethod ({ cls := "CranePads$Route", name := "movesTo", desc := "(II)I" } : Jvm.MethodName)) ∈ GG := gg_mem 717 (by decide +kernel) rfl
theorem w_718 : (Jvm.Cond.selects "CranePads$Route" ({ cls := "CranePads$Route", name := "movesTo", desc := "(II)I" } : Jvm.MethodName) ({ cls := "CranePads$Route", name := "movesTo", desc := "(II)I" } : Jvm.MethodName)) ∈ GG := gg_mem 718 (by decide +kernel) rfl
theorem w_719 : (Jvm.Cond.code ({ cls := "CranePads$Route", name := "movesTo", desc := "(II)I" } : Jvm.MethodName) prog_9_method_3_code (5 : Nat) (Option.some Jvm.ClassFile.FieldType.int)) ∈ GG := gg_mem 719 (by decide +kernel) rfl
theorem w_720 : (Jvm.Cond.methodLink "CranePads$Route" (27 : Nat) ({ cls := "CranePads$Route", name := "spread", desc := "()Z" } : Jvm.MethodName)) ∈ GG := gg_mem 720 (by decide +kernel) rfl
theorem w_722 : (Jvm.Cond.instanceMethod ({ cls := "CranePads$Route", name := "spread", desc := "()Z" } : Jvm.MethodName)) ∈ GG := gg_mem 722 (by decide +kernel) rfl
theorem w_723 : (Jvm.Cond.code ({ cls := "CranePads$Route", name := "spread", desc := "()Z" } : Jvm.MethodName) prog_9_method_4_code (7 : Nat) (Option.some Jvm.ClassFile.FieldType.boolean)) ∈ GG := gg_mem 723 (by decide +kernel) rfl
theorem w_724 : (Jvm.Cond.methodLink "CranePads$Route" (31 : Nat) ({ cls := "java/lang/System", name := "arraycopy", desc := "(Ljava/lang/Object;ILjava/lang/Object;II)V" } : Jvm.MethodName)) ∈ GG := gg_mem 724 (by decide +kernel) rfl
theorem w_733 : (Jvm.Cond.methodLink "CranePads" (251 : Nat) ({ cls := "CranePads$Tape", name := "append", desc := "(I)I" } : Jvm.MethodName)) ∈ GG := gg_mem 733 (by decide +kernel) rfl
theorem w_734 : (Jvm.Cond.instanceMethod ({ cls := "CranePads$Tape", name := "append", desc := "(I)I" } : Jvm.MethodName)) ∈ GG := gg_mem 734 (by decide +kernel) rfl
theorem w_735 : (Jvm.Cond.selects "CranePads$Tape" ({ cls := "CranePads$Tape", name := "append", desc := "(I)I" } : Jvm.MethodName) ({ cls := "CranePads$Tape", name := "append", desc := "(I)I" } : Jvm.MethodName)) ∈ GG := gg_mem 735 (by decide +kernel) rfl
theorem w_736 : (Jvm.Cond.code ({ cls := "CranePads$Tape", name := "append", desc := "(I)I" } : Jvm.MethodName) prog_11_method_2_code (2 : Nat) (Option.some Jvm.ClassFile.FieldType.int)) ∈ GG := gg_mem 736 (by decide +kernel) rfl
theorem w_745 : (Jvm.Cond.methodLink "CranePads" (253 : Nat) ({ cls := "CranePads$Tape", name := "readInto", desc := "(LCranePads$Plan;)I" } : Jvm.MethodName)) ∈ GG := gg_mem 745 (by decide +kernel) rfl
theorem w_746 : (Jvm.Cond.instanceMethod ({ cls := "CranePads$Tape", name := "readInto", desc := "(LCranePads$Plan;)I" } : Jvm.MethodName)) ∈ GG := gg_mem 746 (by decide +kernel) rfl
theorem w_747 : (Jvm.Cond.selects "CranePads$Tape" ({ cls := "CranePads$Tape", name := "readInto", desc := "(LCranePads$Plan;)I" } : Jvm.MethodName) ({ cls := "CranePads$Tape", name := "readInto", desc := "(LCranePads$Plan;)I" } : Jvm.MethodName)) ∈ GG := gg_mem 747 (by decide +kernel) rfl
theorem w_748 : (Jvm.Cond.code ({ cls := "CranePads$Tape", name := "readInto", desc := "(LCranePads$Plan;)I" } : Jvm.MethodName) prog_11_method_3_code (4 : Nat) (Option.some Jvm.ClassFile.FieldType.int)) ∈ GG := gg_mem 748 (by decide +kernel) rfl
theorem w_749 : (Jvm.Cond.methodLink "CranePads$Tape" (25 : Nat) ({ cls := "CranePads$Tape", name := "readStep", desc := "(LCranePads$Plan;)I" } : Jvm.MethodName)) ∈ GG := gg_mem 749 (by decide +kernel) rfl
theorem w_751 : (Jvm.Cond.instanceMethod ({ cls := "CranePads$Tape", name := "readStep", desc := "(LCranePads$Plan;)I" } : Jvm.MethodName)) ∈ GG := gg_mem 751 (by decide +kernel) rfl
theorem w_752 : (Jvm.Cond.code ({ cls := "CranePads$Tape", name := "readStep", desc := "(LCranePads$Plan;)I" } : Jvm.MethodName) prog_11_method_4_code (4 : Nat) (Option.some Jvm.ClassFile.FieldType.int)) ∈ GG := gg_mem 752 (by decide +kernel) rfl
theorem w_754 : (Jvm.Cond.methodLink "CranePads$Tape" (31 : Nat) ({ cls := "CranePads$Tape", name := "spells", desc := "(ILjava/lang/String;)Z" } : Jvm.MethodName)) ∈ GG := gg_mem 754 (by decide +kernel) rfl
theorem w_756 : (Jvm.Cond.instanceMethod ({ cls := "CranePads$Tape", name := "spells", desc := "(ILjava/lang/String;)Z" } : Jvm.MethodName)) ∈ GG := gg_mem 756 (by decide +kernel) rfl
theorem w_757 : (Jvm.Cond.code ({ cls := "CranePads$Tape", name := "spells", desc := "(ILjava/lang/String;)Z" } : Jvm.MethodName) prog_11_method_7_code (4 : Nat) (Option.some Jvm.ClassFile.FieldType.boolean)) ∈ GG := gg_mem 757 (by decide +kernel) rfl
theorem w_758 : (Jvm.Cond.methodLink "CranePads$Tape" (65 : Nat) ({ cls := "java/lang/String", name := "length", desc := "()I" } : Jvm.MethodName)) ∈ GG := gg_mem 758 (by decide +kernel) rfl
theorem w_759 : (Jvm.Cond.instanceMethod ({ cls := "java/lang/String", name := "length", desc := "()I" } : Jvm.MethodName)) ∈ GG := gg_mem 759 (by decide +kernel) rfl
theorem w_760 : (Jvm.Cond.selects "java/lang/String" ({ cls := "java/lang/String", name := "length", desc := "()I" } : Jvm.MethodName) ({ cls := "java/lang/String", name := "length", desc := "()I" } : Jvm.MethodName)) ∈ GG := gg_mem 760 (by decide +kernel) rfl
theorem w_761 : (Jvm.Cond.code ({ cls := "java/lang/String", name := "length", desc := "()I" } : Jvm.MethodName) prog_17_method_54_code (1 : Nat) (Option.some Jvm.ClassFile.FieldType.int)) ∈ GG := gg_mem 761 (by decide +kernel) rfl
theorem w_762 : (Jvm.Cond.methodLink "java/lang/String" (335 : Nat) ({ cls := "java/lang/String", name := "coder", desc := "()B" } : Jvm.MethodName)) ∈ GG := gg_mem 762 (by decide +kernel) rfl
theorem w_763 : (Jvm.Cond.instanceMethod ({ cls := "java/lang/String", name := "coder", desc := "()B" } : Jvm.MethodName)) ∈ GG := gg_mem 763 (by decide +kernel) rfl
theorem w_764 : (Jvm.Cond.selects "java/lang/String" ({ cls := "java/lang/String", name := "coder", desc := "()B" } : Jvm.MethodName) ({ cls := "java/lang/String", name := "coder", desc := "()B" } : Jvm.MethodName)) ∈ GG := gg_mem 764 (by decide +kernel) rfl
theorem w_765 : (Jvm.Cond.code ({ cls := "java/lang/String", name := "coder", desc := "()B" } : Jvm.MethodName) prog_17_method_152_code (1 : Nat) (Option.some Jvm.ClassFile.FieldType.byte)) ∈ GG := gg_mem 765 (by decide +kernel) rfl
theorem w_766 : (Jvm.Cond.fieldLink "java/lang/String" (38 : Nat) "java/lang/String" "COMPACT_STRINGS" "Z") ∈ GG := gg_mem 766 (by decide +kernel) rfl
theorem w_768 : (Jvm.Cond.methodLink "CranePads$Tape" (71 : Nat) ({ cls := "java/lang/String", name := "charAt", desc := "(I)C" } : Jvm.MethodName)) ∈ GG := gg_mem 768 (by decide +kernel) rfl
theorem w_769 : (Jvm.Cond.instanceMethod ({ cls := "java/lang/String", name := "charAt", desc := "(I)C" } : Jvm.MethodName)) ∈ GG := gg_mem 769 (by decide +kernel) rfl
theorem w_770 : (Jvm.Cond.selects "java/lang/String" ({ cls := "java/lang/String", name := "charAt", desc := "(I)C" } : Jvm.MethodName) ({ cls := "java/lang/String", name := "charAt", desc := "(I)C" } : Jvm.MethodName)) ∈ GG := gg_mem 770 (by decide +kernel) rfl
theorem w_771 : (Jvm.Cond.code ({ cls := "java/lang/String", name := "charAt", desc := "(I)C" } : Jvm.MethodName) prog_17_method_56_code (2 : Nat) (Option.some Jvm.ClassFile.FieldType.char)) ∈ GG := gg_mem 771 (by decide +kernel) rfl
theorem w_772 : (Jvm.Cond.methodLink "java/lang/String" (492 : Nat) ({ cls := "java/lang/String", name := "isLatin1", desc := "()Z" } : Jvm.MethodName)) ∈ GG := gg_mem 772 (by decide +kernel) rfl
theorem w_773 : (Jvm.Cond.instanceMethod ({ cls := "java/lang/String", name := "isLatin1", desc := "()Z" } : Jvm.MethodName)) ∈ GG := gg_mem 773 (by decide +kernel) rfl
theorem w_774 : (Jvm.Cond.selects "java/lang/String" ({ cls := "java/lang/String", name := "isLatin1", desc := "()Z" } : Jvm.MethodName) ({ cls := "java/lang/String", name := "isLatin1", desc := "()Z" } : Jvm.MethodName)) ∈ GG := gg_mem 774 (by decide +kernel) rfl
theorem w_775 : (Jvm.Cond.code ({ cls := "java/lang/String", name := "isLatin1", desc := "()Z" } : Jvm.MethodName) prog_17_method_154_code (1 : Nat) (Option.some Jvm.ClassFile.FieldType.boolean)) ∈ GG := gg_mem 775 (by decide +kernel) rfl
theorem w_776 : (Jvm.Cond.methodLink "java/lang/String" (495 : Nat) ({ cls := "java/lang/StringLatin1", name := "charAt", desc := "([BI)C" } : Jvm.MethodName)) ∈ GG := gg_mem 776 (by decide +kernel) rfl
theorem w_777 : (Jvm.Cond.static ({ cls := "java/lang/StringLatin1", name := "charAt", desc := "([BI)C" } : Jvm.MethodName)) ∈ GG := gg_mem 777 (by decide +kernel) rfl
theorem w_778 : (Jvm.Cond.code ({ cls := "java/lang/StringLatin1", name := "charAt", desc := "([BI)C" } : Jvm.MethodName) prog_18_method_2_code (2 : Nat) (Option.some Jvm.ClassFile.FieldType.char)) ∈ GG := gg_mem 778 (by decide +kernel) rfl
theorem w_779 : (Jvm.Cond.methodLink "java/lang/StringLatin1" (9 : Nat) ({ cls := "java/lang/String", name := "checkIndex", desc := "(II)V" } : Jvm.MethodName)) ∈ GG := gg_mem 779 (by decide +kernel) rfl
theorem w_780 : (Jvm.Cond.static ({ cls := "java/lang/String", name := "checkIndex", desc := "(II)V" } : Jvm.MethodName)) ∈ GG := gg_mem 780 (by decide +kernel) rfl
theorem w_781 : (Jvm.Cond.code ({ cls := "java/lang/String", name := "checkIndex", desc := "(II)V" } : Jvm.MethodName) prog_17_method_155_code (2 : Nat) (Option.none : Option Jvm.ClassFile.FieldType)) ∈ GG := gg_mem 781 (by decide +kernel) rfl
theorem w_782 : (Jvm.Cond.fieldLink "java/lang/String" (1053 : Nat) "jdk/internal/util/Preconditions" "SIOOBE_FORMATTER" "Ljava/util/function/BiFunction;") ∈ GG := gg_mem 782 (by decide +kernel) rfl
theorem w_784 : (Jvm.Cond.methodLink "java/lang/String" (1059 : Nat) ({ cls := "jdk/internal/util/Preconditions", name := "checkIndex", desc := "(IILjava/util/function/BiFunction;)I" } : Jvm.MethodName)) ∈ GG := gg_mem 784 (by decide +kernel) rfl
theorem w_785 : (Jvm.Cond.static ({ cls := "jdk/internal/util/Preconditions", name := "checkIndex", desc := "(IILjava/util/function/BiFunction;)I" } : Jvm.MethodName)) ∈ GG := gg_mem 785 (by decide +kernel) rfl
theorem w_786 : (Jvm.Cond.code ({ cls := "jdk/internal/util/Preconditions", name := "checkIndex", desc := "(IILjava/util/function/BiFunction;)I" } : Jvm.MethodName) prog_22_method_11_code (3 : Nat) (Option.some Jvm.ClassFile.FieldType.int)) ∈ GG := gg_mem 786 (by decide +kernel) rfl
theorem w_806 : (Jvm.Cond.methodLink "CranePads$Tape" (35 : Nat) ({ cls := "CranePads$Plan", name := "append", desc := "(II)V" } : Jvm.MethodName)) ∈ GG := gg_mem 806 (by decide +kernel) rfl
theorem w_807 : (Jvm.Cond.instanceMethod ({ cls := "CranePads$Plan", name := "append", desc := "(II)V" } : Jvm.MethodName)) ∈ GG := gg_mem 807 (by decide +kernel) rfl
theorem w_808 : (Jvm.Cond.selects "CranePads$Plan" ({ cls := "CranePads$Plan", name := "append", desc := "(II)V" } : Jvm.MethodName) ({ cls := "CranePads$Plan", name := "append", desc := "(II)V" } : Jvm.MethodName)) ∈ GG := gg_mem 808 (by decide +kernel) rfl
theorem w_809 : (Jvm.Cond.code ({ cls := "CranePads$Plan", name := "append", desc := "(II)V" } : Jvm.MethodName) prog_8_method_2_code (3 : Nat) (Option.none : Option Jvm.ClassFile.FieldType)) ∈ GG := gg_mem 809 (by decide +kernel) rfl
theorem w_810 : (Jvm.Cond.methodLink "CranePads$Tape" (39 : Nat) ({ cls := "CranePads$Tape", name := "dialOfWord", desc := "(I)I" } : Jvm.MethodName)) ∈ GG := gg_mem 810 (by decide +kernel) rfl
theorem w_812 : (Jvm.Cond.instanceMethod ({ cls := "CranePads$Tape", name := "dialOfWord", desc := "(I)I" } : Jvm.MethodName)) ∈ GG := gg_mem 812 (by decide +kernel) rfl
theorem w_813 : (Jvm.Cond.code ({ cls := "CranePads$Tape", name := "dialOfWord", desc := "(I)I" } : Jvm.MethodName) prog_11_method_6_code (2 : Nat) (Option.some Jvm.ClassFile.FieldType.int)) ∈ GG := gg_mem 813 (by decide +kernel) rfl
theorem w_818 : (Jvm.Cond.methodLink "CranePads$Tape" (43 : Nat) ({ cls := "CranePads$Tape", name := "readNumber", desc := "(LCranePads$Plan;I)I" } : Jvm.MethodName)) ∈ GG := gg_mem 818 (by decide +kernel) rfl
theorem w_820 : (Jvm.Cond.instanceMethod ({ cls := "CranePads$Tape", name := "readNumber", desc := "(LCranePads$Plan;I)I" } : Jvm.MethodName)) ∈ GG := gg_mem 820 (by decide +kernel) rfl
theorem w_821 : (Jvm.Cond.code ({ cls := "CranePads$Tape", name := "readNumber", desc := "(LCranePads$Plan;I)I" } : Jvm.MethodName) prog_11_method_5_code (6 : Nat) (Option.some Jvm.ClassFile.FieldType.int)) ∈ GG := gg_mem 821 (by decide +kernel) rfl
theorem w_822 : (Jvm.Cond.methodLink "CranePads$Tape" (47 : Nat) ({ cls := "java/lang/Math", name := "min", desc := "(II)I" } : Jvm.MethodName)) ∈ GG := gg_mem 822 (by decide +kernel) rfl
theorem w_823 : (Jvm.Cond.static ({ cls := "java/lang/Math", name := "min", desc := "(II)I" } : Jvm.MethodName)) ∈ GG := gg_mem 823 (by decide +kernel) rfl
theorem w_824 : (Jvm.Cond.code ({ cls := "java/lang/Math", name := "min", desc := "(II)I" } : Jvm.MethodName) prog_16_method_69_code (2 : Nat) (Option.some Jvm.ClassFile.FieldType.int)) ∈ GG := gg_mem 824 (by decide +kernel) rfl
theorem w_826 : (Jvm.Cond.methodLink "CranePads" (257 : Nat) ({ cls := "CranePads$Plan", name := "become", desc := "(LCranePads$Plan;)V" } : Jvm.MethodName)) ∈ GG := gg_mem 826 (by decide +kernel) rfl
theorem w_827 : (Jvm.Cond.instanceMethod ({ cls := "CranePads$Plan", name := "become", desc := "(LCranePads$Plan;)V" } : Jvm.MethodName)) ∈ GG := gg_mem 827 (by decide +kernel) rfl
theorem w_828 : (Jvm.Cond.selects "CranePads$Plan" ({ cls := "CranePads$Plan", name := "become", desc := "(LCranePads$Plan;)V" } : Jvm.MethodName) ({ cls := "CranePads$Plan", name := "become", desc := "(LCranePads$Plan;)V" } : Jvm.MethodName)) ∈ GG := gg_mem 828 (by decide +kernel) rfl
theorem w_829 : (Jvm.Cond.code ({ cls := "CranePads$Plan", name := "become", desc := "(LCranePads$Plan;)V" } : Jvm.MethodName) prog_8_method_3_code (2 : Nat) (Option.none : Option Jvm.ClassFile.FieldType)) ∈ GG := gg_mem 829 (by decide +kernel) rfl
theorem w_830 : (Jvm.Cond.methodLink "CranePads$Plan" (22 : Nat) ({ cls := "java/lang/System", name := "arraycopy", desc := "(Ljava/lang/Object;ILjava/lang/Object;II)V" } : Jvm.MethodName)) ∈ GG := gg_mem 830 (by decide +kernel) rfl
theorem w_835 : (Jvm.Cond.methodLink "CranePads" (261 : Nat) ({ cls := "CranePads$Walk", name := "go", desc := "(LCranePads$Plan;LCranePads$Crane;LCranePads$Judge;)V" } : Jvm.MethodName)) ∈ GG := gg_mem 835 (by decide +kernel) rfl
theorem w_836 : (Jvm.Cond.instanceMethod ({ cls := "CranePads$Walk", name := "go", desc := "(LCranePads$Plan;LCranePads$Crane;LCranePads$Judge;)V" } : Jvm.MethodName)) ∈ GG := gg_mem 836 (by decide +kernel) rfl
theorem w_837 : (Jvm.Cond.selects "CranePads$Walk" ({ cls := "CranePads$Walk", name := "go", desc := "(LCranePads$Plan;LCranePads$Crane;LCranePads$Judge;)V" } : Jvm.MethodName) ({ cls := "CranePads$Walk", name := "go", desc := "(LCranePads$Plan;LCranePads$Crane;LCranePads$Judge;)V" } : Jvm.MethodName)) ∈ GG := gg_mem 837 (by decide +kernel) rfl
theorem w_838 : (Jvm.Cond.code ({ cls := "CranePads$Walk", name := "go", desc := "(LCranePads$Plan;LCranePads$Crane;LCranePads$Judge;)V" } : Jvm.MethodName) prog_12_method_2_code (8 : Nat) (Option.none : Option Jvm.ClassFile.FieldType)) ∈ GG := gg_mem 838 (by decide +kernel) rfl
theorem w_839 : (Jvm.Cond.constant "CranePads$Walk" (26 : Nat) (2147483647 : Int32)) ∈ GG := gg_mem 839 (by decide +kernel) rfl
theorem w_840 : (Jvm.Cond.methodLink "CranePads$Walk" (30 : Nat) ({ cls := "CranePads$Walk", name := "meet", desc := "(ILCranePads$Crane;LCranePads$Judge;)V" } : Jvm.MethodName)) ∈ GG := gg_mem 840 (by decide +kernel) rfl
theorem w_842 : (Jvm.Cond.instanceMethod ({ cls := "CranePads$Walk", name := "meet", desc := "(ILCranePads$Crane;LCranePads$Judge;)V" } : Jvm.MethodName)) ∈ GG := gg_mem 842 (by decide +kernel) rfl
theorem w_843 : (Jvm.Cond.code ({ cls := "CranePads$Walk", name := "meet", desc := "(ILCranePads$Crane;LCranePads$Judge;)V" } : Jvm.MethodName) prog_12_method_3_code (5 : Nat) (Option.none : Option Jvm.ClassFile.FieldType)) ∈ GG := gg_mem 843 (by decide +kernel) rfl
theorem w_844 : (Jvm.Cond.methodLink "CranePads$Walk" (59 : Nat) ({ cls := "CranePads$Judge", name := "verdict", desc := "(LCranePads$Crane;)I" } : Jvm.MethodName)) ∈ GG := gg_mem 844 (by decide +kernel) rfl
theorem w_845 : (Jvm.Cond.methodLink "CranePads$Walk" (65 : Nat) ({ cls := "CranePads$Crane", name := "room", desc := "()I" } : Jvm.MethodName)) ∈ GG := gg_mem 845 (by decide +kernel) rfl
theorem w_846 : (Jvm.Cond.methodLink "CranePads$Walk" (69 : Nat) ({ cls := "java/lang/Math", name := "min", desc := "(II)I" } : Jvm.MethodName)) ∈ GG := gg_mem 846 (by decide +kernel) rfl
theorem w_847 : (Jvm.Cond.methodLink "CranePads$Walk" (46 : Nat) ({ cls := "CranePads$Plan", name := "isMove", desc := "(I)Z" } : Jvm.MethodName)) ∈ GG := gg_mem 847 (by decide +kernel) rfl
theorem w_848 : (Jvm.Cond.instanceMethod ({ cls := "CranePads$Plan", name := "isMove", desc := "(I)Z" } : Jvm.MethodName)) ∈ GG := gg_mem 848 (by decide +kernel) rfl
theorem w_849 : (Jvm.Cond.selects "CranePads$Plan" ({ cls := "CranePads$Plan", name := "isMove", desc := "(I)Z" } : Jvm.MethodName) ({ cls := "CranePads$Plan", name := "isMove", desc := "(I)Z" } : Jvm.MethodName)) ∈ GG := gg_mem 849 (by decide +kernel) rfl
theorem w_850 : (Jvm.Cond.code ({ cls := "CranePads$Plan", name := "isMove", desc := "(I)Z" } : Jvm.MethodName) prog_8_method_5_code (2 : Nat) (Option.some Jvm.ClassFile.FieldType.boolean)) ∈ GG := gg_mem 850 (by decide +kernel) rfl
theorem w_851 : (Jvm.Cond.methodLink "CranePads$Walk" (55 : Nat) ({ cls := "CranePads$Crane", name := "approach", desc := "(II)V" } : Jvm.MethodName)) ∈ GG := gg_mem 851 (by decide +kernel) rfl
theorem w_852 : (Jvm.Cond.instanceMethod ({ cls := "CranePads$Crane", name := "approach", desc := "(II)V" } : Jvm.MethodName)) ∈ GG := gg_mem 852 (by decide +kernel) rfl
theorem w_853 : (Jvm.Cond.selects "CranePads$Crane" ({ cls := "CranePads$Crane", name := "approach", desc := "(II)V" } : Jvm.MethodName) ({ cls := "CranePads$Crane", name := "approach", desc := "(II)V" } : Jvm.MethodName)) ∈ GG := gg_mem 853 (by decide +kernel) rfl
theorem w_854 : (Jvm.Cond.code ({ cls := "CranePads$Crane", name := "approach", desc := "(II)V" } : Jvm.MethodName) prog_4_method_7_code (5 : Nat) (Option.none : Option Jvm.ClassFile.FieldType)) ∈ GG := gg_mem 854 (by decide +kernel) rfl
theorem w_855 : (Jvm.Cond.methodLink "CranePads$Crane" (83 : Nat) ({ cls := "java/lang/Math", name := "floorMod", desc := "(II)I" } : Jvm.MethodName)) ∈ GG := gg_mem 855 (by decide +kernel) rfl
theorem w_856 : (Jvm.Cond.static ({ cls := "java/lang/Math", name := "floorMod", desc := "(II)I" } : Jvm.MethodName)) ∈ GG := gg_mem 856 (by decide +kernel) rfl
theorem w_857 : (Jvm.Cond.code ({ cls := "java/lang/Math", name := "floorMod", desc := "(II)I" } : Jvm.MethodName) prog_16_method_50_code (3 : Nat) (Option.some Jvm.ClassFile.FieldType.int)) ∈ GG := gg_mem 857 (by decide +kernel) rfl
theorem w_870 : (Jvm.Cond.methodLink "CranePads" (280 : Nat) ({ cls := "CranePads$Plan", name := "onlyMoves", desc := "()Z" } : Jvm.MethodName)) ∈ GG := gg_mem 870 (by decide +kernel) rfl
theorem w_871 : (Jvm.Cond.instanceMethod ({ cls := "CranePads$Plan", name := "onlyMoves", desc := "()Z" } : Jvm.MethodName)) ∈ GG := gg_mem 871 (by decide +kernel) rfl
theorem w_872 : (Jvm.Cond.selects "CranePads$Plan" ({ cls := "CranePads$Plan", name := "onlyMoves", desc := "()Z" } : Jvm.MethodName) ({ cls := "CranePads$Plan", name := "onlyMoves", desc := "()Z" } : Jvm.MethodName)) ∈ GG := gg_mem 872 (by decide +kernel) rfl
theorem w_873 : (Jvm.Cond.code ({ cls := "CranePads$Plan", name := "onlyMoves", desc := "()Z" } : Jvm.MethodName) prog_8_method_4_code (2 : Nat) (Option.some Jvm.ClassFile.FieldType.boolean)) ∈ GG := gg_mem 873 (by decide +kernel) rfl
theorem w_874 : (Jvm.Cond.methodLink "CranePads$Plan" (28 : Nat) ({ cls := "CranePads$Plan", name := "isMove", desc := "(I)Z" } : Jvm.MethodName)) ∈ GG := gg_mem 874 (by decide +kernel) rfl
theorem w_875 : (Jvm.Cond.methodLink "CranePads" (284 : Nat) ({ cls := "CranePads$Plan", name := "turnBack", desc := "(LCranePads$Plan;LCranePads$Crane;)V" } : Jvm.MethodName)) ∈ GG := gg_mem 875 (by decide +kernel) rfl
theorem w_876 : (Jvm.Cond.instanceMethod ({ cls := "CranePads$Plan", name := "turnBack", desc := "(LCranePads$Plan;LCranePads$Crane;)V" } : Jvm.MethodName)) ∈ GG := gg_mem 876 (by decide +kernel) rfl
theorem w_877 : (Jvm.Cond.selects "CranePads$Plan" ({ cls := "CranePads$Plan", name := "turnBack", desc := "(LCranePads$Plan;LCranePads$Crane;)V" } : Jvm.MethodName) ({ cls := "CranePads$Plan", name := "turnBack", desc := "(LCranePads$Plan;LCranePads$Crane;)V" } : Jvm.MethodName)) ∈ GG := gg_mem 877 (by decide +kernel) rfl
theorem w_878 : (Jvm.Cond.code ({ cls := "CranePads$Plan", name := "turnBack", desc := "(LCranePads$Plan;LCranePads$Crane;)V" } : Jvm.MethodName) prog_8_method_6_code (5 : Nat) (Option.none : Option Jvm.ClassFile.FieldType)) ∈ GG := gg_mem 878 (by decide +kernel) rfl
theorem w_883 : (Jvm.Cond.methodLink "CranePads" (288 : Nat) ({ cls := "CranePads", name := "isList", desc := "(I)Z" } : Jvm.MethodName)) ∈ GG := gg_mem 883 (by decide +kernel) rfl
theorem w_884 : (Jvm.Cond.static ({ cls := "CranePads", name := "isList", desc := "(I)Z" } : Jvm.MethodName)) ∈ GG := gg_mem 884 (by decide +kernel) rfl
theorem w_885 : (Jvm.Cond.code ({ cls := "CranePads", name := "isList", desc := "(I)Z" } : Jvm.MethodName) prog_1_method_46_code (1 : Nat) (Option.some Jvm.ClassFile.FieldType.boolean)) ∈ GG := gg_mem 885 (by decide +kernel) rfl
theorem w_886 : (Jvm.Cond.methodLink "CranePads" (291 : Nat) ({ cls := "CranePads$Rows", name := "holds", desc := "(I)Z" } : Jvm.MethodName)) ∈ GG := gg_mem 886 (by decide +kernel) rfl
theorem w_887 : (Jvm.Cond.instanceMethod ({ cls := "CranePads$Rows", name := "holds", desc := "(I)Z" } : Jvm.MethodName)) ∈ GG := gg_mem 887 (by decide +kernel) rfl
theorem w_888 : (Jvm.Cond.selects "CranePads$Rows" ({ cls := "CranePads$Rows", name := "holds", desc := "(I)Z" } : Jvm.MethodName) ({ cls := "CranePads$Rows", name := "holds", desc := "(I)Z" } : Jvm.MethodName)) ∈ GG := gg_mem 888 (by decide +kernel) rfl
theorem w_889 : (Jvm.Cond.code ({ cls := "CranePads$Rows", name := "holds", desc := "(I)Z" } : Jvm.MethodName) prog_10_method_2_code (2 : Nat) (Option.some Jvm.ClassFile.FieldType.boolean)) ∈ GG := gg_mem 889 (by decide +kernel) rfl
theorem w_890 : (Jvm.Cond.methodLink "CranePads" (301 : Nat) ({ cls := "CranePads$Judge", name := "sharesAre", desc := "([JI)Z" } : Jvm.MethodName)) ∈ GG := gg_mem 890 (by decide +kernel) rfl
theorem w_891 : (Jvm.Cond.instanceMethod ({ cls := "CranePads$Judge", name := "sharesAre", desc := "([JI)Z" } : Jvm.MethodName)) ∈ GG := gg_mem 891 (by decide +kernel) rfl
theorem w_892 : (Jvm.Cond.selects "CranePads$Judge" ({ cls := "CranePads$Judge", name := "sharesAre", desc := "([JI)Z" } : Jvm.MethodName) ({ cls := "CranePads$Judge", name := "sharesAre", desc := "([JI)Z" } : Jvm.MethodName)) ∈ GG := gg_mem 892 (by decide +kernel) rfl
theorem w_893 : (Jvm.Cond.code ({ cls := "CranePads$Judge", name := "sharesAre", desc := "([JI)Z" } : Jvm.MethodName) prog_5_method_7_code (4 : Nat) (Option.some Jvm.ClassFile.FieldType.boolean)) ∈ GG := gg_mem 893 (by decide +kernel) rfl
theorem w_894 : (Jvm.Cond.methodLink "CranePads$Judge" (113 : Nat) ({ cls := "CranePads$Judge", name := "wholeShare", desc := "(I)J" } : Jvm.MethodName)) ∈ GG := gg_mem 894 (by decide +kernel) rfl
theorem w_895 : (Jvm.Cond.instanceMethod ({ cls := "CranePads$Judge", name := "wholeShare", desc := "(I)J" } : Jvm.MethodName)) ∈ GG := gg_mem 895 (by decide +kernel) rfl
theorem w_896 : (Jvm.Cond.selects "CranePads$Judge" ({ cls := "CranePads$Judge", name := "wholeShare", desc := "(I)J" } : Jvm.MethodName) ({ cls := "CranePads$Judge", name := "wholeShare", desc := "(I)J" } : Jvm.MethodName)) ∈ GG := gg_mem 896 (by decide +kernel) rfl
theorem w_897 : (Jvm.Cond.code ({ cls := "CranePads$Judge", name := "wholeShare", desc := "(I)J" } : Jvm.MethodName) prog_5_method_8_code (2 : Nat) (Option.some Jvm.ClassFile.FieldType.long)) ∈ GG := gg_mem 897 (by decide +kernel) rfl
theorem w_902 : (Jvm.Cond.methodLink "CranePads" (305 : Nat) ({ cls := "CranePads$Judge", name := "wholeShare", desc := "(I)J" } : Jvm.MethodName)) ∈ GG := gg_mem 902 (by decide +kernel) rfl
theorem w_907 : (Jvm.Cond.methodLink "CranePads" (309 : Nat) ({ cls := "CranePads$Book", name := "keep", desc := "(III)I" } : Jvm.MethodName)) ∈ GG := gg_mem 907 (by decide +kernel) rfl
theorem w_908 : (Jvm.Cond.instanceMethod ({ cls := "CranePads$Book", name := "keep", desc := "(III)I" } : Jvm.MethodName)) ∈ GG := gg_mem 908 (by decide +kernel) rfl
theorem w_909 : (Jvm.Cond.selects "CranePads$Book" ({ cls := "CranePads$Book", name := "keep", desc := "(III)I" } : Jvm.MethodName) ({ cls := "CranePads$Book", name := "keep", desc := "(III)I" } : Jvm.MethodName)) ∈ GG := gg_mem 909 (by decide +kernel) rfl
theorem w_910 : (Jvm.Cond.code ({ cls := "CranePads$Book", name := "keep", desc := "(III)I" } : Jvm.MethodName) prog_2_method_2_code (4 : Nat) (Option.some Jvm.ClassFile.FieldType.int)) ∈ GG := gg_mem 910 (by decide +kernel) rfl
theorem w_911 : (Jvm.Cond.methodLink "CranePads$Book" (25 : Nat) ({ cls := "CranePads$Book", name := "dropEldest", desc := "()V" } : Jvm.MethodName)) ∈ GG := gg_mem 911 (by decide +kernel) rfl
theorem w_913 : (Jvm.Cond.instanceMethod ({ cls := "CranePads$Book", name := "dropEldest", desc := "()V" } : Jvm.MethodName)) ∈ GG := gg_mem 913 (by decide +kernel) rfl
theorem w_914 : (Jvm.Cond.code ({ cls := "CranePads$Book", name := "dropEldest", desc := "()V" } : Jvm.MethodName) prog_2_method_3_code (1 : Nat) (Option.none : Option Jvm.ClassFile.FieldType)) ∈ GG := gg_mem 914 (by decide +kernel) rfl
theorem w_915 : (Jvm.Cond.methodLink "CranePads$Book" (28 : Nat) ({ cls := "java/lang/System", name := "arraycopy", desc := "(Ljava/lang/Object;ILjava/lang/Object;II)V" } : Jvm.MethodName)) ∈ GG := gg_mem 915 (by decide +kernel) rfl
theorem w_920 : (Jvm.Cond.methodLink "CranePads" (323 : Nat) ({ cls := "CranePads", name := "mayBeAsBooked", desc := "(I)Z" } : Jvm.MethodName)) ∈ GG := gg_mem 920 (by decide +kernel) rfl
theorem w_922 : (Jvm.Cond.instanceMethod ({ cls := "CranePads", name := "mayBeAsBooked", desc := "(I)Z" } : Jvm.MethodName)) ∈ GG := gg_mem 922 (by decide +kernel) rfl
theorem w_923 : (Jvm.Cond.code ({ cls := "CranePads", name := "mayBeAsBooked", desc := "(I)Z" } : Jvm.MethodName) prog_1_method_42_code (2 : Nat) (Option.some Jvm.ClassFile.FieldType.boolean)) ∈ GG := gg_mem 923 (by decide +kernel) rfl
theorem w_928 : (Jvm.Cond.methodLink "CranePads" (326 : Nat) ({ cls := "CranePads$Book", name := "withMost", desc := "()I" } : Jvm.MethodName)) ∈ GG := gg_mem 928 (by decide +kernel) rfl
theorem w_929 : (Jvm.Cond.instanceMethod ({ cls := "CranePads$Book", name := "withMost", desc := "()I" } : Jvm.MethodName)) ∈ GG := gg_mem 929 (by decide +kernel) rfl
theorem w_930 : (Jvm.Cond.selects "CranePads$Book" ({ cls := "CranePads$Book", name := "withMost", desc := "()I" } : Jvm.MethodName) ({ cls := "CranePads$Book", name := "withMost", desc := "()I" } : Jvm.MethodName)) ∈ GG := gg_mem 930 (by decide +kernel) rfl
theorem w_931 : (Jvm.Cond.code ({ cls := "CranePads$Book", name := "withMost", desc := "()I" } : Jvm.MethodName) prog_2_method_4_code (4 : Nat) (Option.some Jvm.ClassFile.FieldType.int)) ∈ GG := gg_mem 931 (by decide +kernel) rfl
theorem w_936 : (Jvm.Cond.methodLink "CranePads" (329 : Nat) ({ cls := "CranePads$Rows", name := "begin", desc := "(II)V" } : Jvm.MethodName)) ∈ GG := gg_mem 936 (by decide +kernel) rfl
theorem w_937 : (Jvm.Cond.instanceMethod ({ cls := "CranePads$Rows", name := "begin", desc := "(II)V" } : Jvm.MethodName)) ∈ GG := gg_mem 937 (by decide +kernel) rfl
theorem w_938 : (Jvm.Cond.selects "CranePads$Rows" ({ cls := "CranePads$Rows", name := "begin", desc := "(II)V" } : Jvm.MethodName) ({ cls := "CranePads$Rows", name := "begin", desc := "(II)V" } : Jvm.MethodName)) ∈ GG := gg_mem 938 (by decide +kernel) rfl
theorem w_939 : (Jvm.Cond.code ({ cls := "CranePads$Rows", name := "begin", desc := "(II)V" } : Jvm.MethodName) prog_10_method_4_code (3 : Nat) (Option.none : Option Jvm.ClassFile.FieldType)) ∈ GG := gg_mem 939 (by decide +kernel) rfl
theorem w_940 : (Jvm.Cond.methodLink "CranePads$Rows" (20 : Nat) ({ cls := "java/util/Arrays", name := "fill", desc := "([JJ)V" } : Jvm.MethodName)) ∈ GG := gg_mem 940 (by decide +kernel) rfl
theorem w_941 : (Jvm.Cond.static ({ cls := "java/util/Arrays", name := "fill", desc := "([JJ)V" } : Jvm.MethodName)) ∈ GG := gg_mem 941 (by decide +kernel) rfl
theorem w_942 : (Jvm.Cond.code ({ cls := "java/util/Arrays", name := "fill", desc := "([JJ)V" } : Jvm.MethodName) prog_21_method_101_code (5 : Nat) (Option.none : Option Jvm.ClassFile.FieldType)) ∈ GG := gg_mem 942 (by decide +kernel) rfl
theorem w_947 : (Jvm.Cond.methodLink "CranePads" (330 : Nat) ({ cls := "CranePads$Rows", name := "hasPlace", desc := "(II)Z" } : Jvm.MethodName)) ∈ GG := gg_mem 947 (by decide +kernel) rfl
theorem w_948 : (Jvm.Cond.instanceMethod ({ cls := "CranePads$Rows", name := "hasPlace", desc := "(II)Z" } : Jvm.MethodName)) ∈ GG := gg_mem 948 (by decide +kernel) rfl
theorem w_949 : (Jvm.Cond.selects "CranePads$Rows" ({ cls := "CranePads$Rows", name := "hasPlace", desc := "(II)Z" } : Jvm.MethodName) ({ cls := "CranePads$Rows", name := "hasPlace", desc := "(II)Z" } : Jvm.MethodName)) ∈ GG := gg_mem 949 (by decide +kernel) rfl
theorem w_950 : (Jvm.Cond.code ({ cls := "CranePads$Rows", name := "hasPlace", desc := "(II)Z" } : Jvm.MethodName) prog_10_method_3_code (3 : Nat) (Option.some Jvm.ClassFile.FieldType.boolean)) ∈ GG := gg_mem 950 (by decide +kernel) rfl
theorem w_973 : (Jvm.Cond.fieldLink "CranePadsModel" (9 : Nat) "CranePadsModel" "pad" "[I") ∈ GG := gg_mem 973 (by decide +kernel) rfl
theorem w_974 : (Jvm.Cond.fieldLink "CranePadsModel" (114 : Nat) "CranePadsModel" "parts" "I") ∈ GG := gg_mem 974 (by decide +kernel) rfl
theorem w_975 : (Jvm.Cond.fieldLink "CranePadsModel" (15 : Nat) "CranePadsModel" "mass" "[I") ∈ GG := gg_mem 975 (by decide +kernel) rfl
theorem w_976 : (Jvm.Cond.fieldLink "CranePadsModel" (18 : Nat) "CranePadsModel" "a" "[I") ∈ GG := gg_mem 976 (by decide +kernel) rfl
theorem w_977 : (Jvm.Cond.fieldLink "CranePadsModel" (21 : Nat) "CranePadsModel" "b" "[I") ∈ GG := gg_mem 977 (by decide +kernel) rfl
theorem w_978 : (Jvm.Cond.fieldLink "CranePadsModel" (24 : Nat) "CranePadsModel" "turns" "[I") ∈ GG := gg_mem 978 (by decide +kernel) rfl
theorem w_979 : (Jvm.Cond.fieldLink "CranePadsModel" (27 : Nat) "CranePadsModel" "entries" "[I") ∈ GG := gg_mem 979 (by decide +kernel) rfl
theorem w_980 : (Jvm.Cond.fieldLink "CranePadsModel" (30 : Nat) "CranePadsModel" "at" "[I") ∈ GG := gg_mem 980 (by decide +kernel) rfl
theorem w_981 : (Jvm.Cond.fieldLink "CranePadsModel" (33 : Nat) "CranePadsModel" "hangs" "[I") ∈ GG := gg_mem 981 (by decide +kernel) rfl
theorem w_982 : (Jvm.Cond.fieldLink "CranePadsModel" (36 : Nat) "CranePadsModel" "is" "[I") ∈ GG := gg_mem 982 (by decide +kernel) rfl
theorem w_983 : (Jvm.Cond.fieldLink "CranePadsModel" (39 : Nat) "CranePadsModel" "imaged" "[I") ∈ GG := gg_mem 983 (by decide +kernel) rfl
theorem w_984 : (Jvm.Cond.fieldLink "CranePadsModel" (361 : Nat) "CranePadsModel" "hasImage" "Z") ∈ GG := gg_mem 984 (by decide +kernel) rfl
theorem w_985 : (Jvm.Cond.fieldLink "CranePadsModel" (177 : Nat) "CranePadsModel" "things" "I") ∈ GG := gg_mem 985 (by decide +kernel) rfl
theorem w_986 : (Jvm.Cond.fieldLink "CranePadsModel" (42 : Nat) "CranePadsModel" "weighs" "[I") ∈ GG := gg_mem 986 (by decide +kernel) rfl
theorem w_987 : (Jvm.Cond.fieldLink "CranePadsModel" (45 : Nat) "CranePadsModel" "atX" "[J") ∈ GG := gg_mem 987 (by decide +kernel) rfl
theorem w_988 : (Jvm.Cond.fieldLink "CranePadsModel" (49 : Nat) "CranePadsModel" "atY" "[J") ∈ GG := gg_mem 988 (by decide +kernel) rfl
theorem w_989 : (Jvm.Cond.fieldLink "CranePadsModel" (52 : Nat) "CranePadsModel" "push" "[J") ∈ GG := gg_mem 989 (by decide +kernel) rfl
theorem w_990 : (Jvm.Cond.fieldLink "CranePadsModel" (214 : Nat) "CranePadsModel" "below" "J") ∈ GG := gg_mem 990 (by decide +kernel) rfl
theorem w_991 : (Jvm.Cond.fieldLink "CranePadsModel" (218 : Nat) "CranePadsModel" "lifted" "I") ∈ GG := gg_mem 991 (by decide +kernel) rfl
theorem w_992 : (Jvm.Cond.fieldLink "CranePadsModel" (55 : Nat) "CranePadsModel" "far" "[I") ∈ GG := gg_mem 992 (by decide +kernel) rfl
theorem w_993 : (Jvm.Cond.fieldLink "CranePadsModel" (58 : Nat) "CranePadsModel" "queue" "[I") ∈ GG := gg_mem 993 (by decide +kernel) rfl
theorem w_994 : (Jvm.Cond.fieldLink "CranePadsModel" (250 : Nat) "CranePadsModel" "queued" "I") ∈ GG := gg_mem 994 (by decide +kernel) rfl
theorem w_995 : (Jvm.Cond.fieldLink "CranePadsModel" (61 : Nat) "CranePadsModel" "tape" "[I") ∈ GG := gg_mem 995 (by decide +kernel) rfl
theorem w_996 : (Jvm.Cond.fieldLink "CranePadsModel" (256 : Nat) "CranePadsModel" "taped" "I") ∈ GG := gg_mem 996 (by decide +kernel) rfl
theorem w_997 : (Jvm.Cond.fieldLink "CranePadsModel" (297 : Nat) "CranePadsModel" "steps" "I") ∈ GG := gg_mem 997 (by decide +kernel) rfl
theorem w_998 : (Jvm.Cond.fieldLink "CranePadsModel" (64 : Nat) "CranePadsModel" "step" "[I") ∈ GG := gg_mem 998 (by decide +kernel) rfl
theorem w_999 : (Jvm.Cond.fieldLink "CranePadsModel" (67 : Nat) "CranePadsModel" "to" "[I") ∈ GG := gg_mem 999 (by decide +kernel) rfl
theorem w_1000 : (Jvm.Cond.fieldLink "CranePadsModel" (70 : Nat) "CranePadsModel" "readStep" "[I") ∈ GG := gg_mem 1000 (by decide +kernel) rfl
theorem w_1001 : (Jvm.Cond.fieldLink "CranePadsModel" (73 : Nat) "CranePadsModel" "readTo" "[I") ∈ GG := gg_mem 1001 (by decide +kernel) rfl
theorem w_1002 : (Jvm.Cond.fieldLink "CranePadsModel" (259 : Nat) "CranePadsModel" "place" "I") ∈ GG := gg_mem 1002 (by decide +kernel) rfl
theorem w_1003 : (Jvm.Cond.fieldLink "CranePadsModel" (303 : Nat) "CranePadsModel" "moments" "I") ∈ GG := gg_mem 1003 (by decide +kernel) rfl
theorem w_1004 : (Jvm.Cond.fieldLink "CranePadsModel" (305 : Nat) "CranePadsModel" "firstBad" "I") ∈ GG := gg_mem 1004 (by decide +kernel) rfl
theorem w_1005 : (Jvm.Cond.fieldLink "CranePadsModel" (308 : Nat) "CranePadsModel" "badStep" "I") ∈ GG := gg_mem 1005 (by decide +kernel) rfl
theorem w_1006 : (Jvm.Cond.fieldLink "CranePadsModel" (311 : Nat) "CranePadsModel" "badWhy" "I") ∈ GG := gg_mem 1006 (by decide +kernel) rfl
theorem w_1007 : (Jvm.Cond.fieldLink "CranePadsModel" (317 : Nat) "CranePadsModel" "leastSpare" "I") ∈ GG := gg_mem 1007 (by decide +kernel) rfl
theorem w_1008 : (Jvm.Cond.fieldLink "CranePadsModel" (76 : Nat) "CranePadsModel" "isBefore" "[I") ∈ GG := gg_mem 1008 (by decide +kernel) rfl
theorem w_1009 : (Jvm.Cond.fieldLink "CranePadsModel" (79 : Nat) "CranePadsModel" "begunAt" "[I") ∈ GG := gg_mem 1009 (by decide +kernel) rfl
theorem w_1010 : (Jvm.Cond.fieldLink "CranePadsModel" (82 : Nat) "CranePadsModel" "size" "[I") ∈ GG := gg_mem 1010 (by decide +kernel) rfl
theorem w_1011 : (Jvm.Cond.fieldLink "CranePadsModel" (85 : Nat) "CranePadsModel" "cell" "[J") ∈ GG := gg_mem 1011 (by decide +kernel) rfl
theorem w_1012 : (Jvm.Cond.fieldLink "CranePadsModel" (355 : Nat) "CranePadsModel" "lifts" "I") ∈ GG := gg_mem 1012 (by decide +kernel) rfl
theorem w_1013 : (Jvm.Cond.fieldLink "CranePadsModel" (88 : Nat) "CranePadsModel" "lift" "[I") ∈ GG := gg_mem 1013 (by decide +kernel) rfl
theorem w_1101 : (Jvm.Cond.methodLink "CranePadsModel" (106 : Nat) ({ cls := "CranePadsModel", name := "isPad", desc := "(I)Z" } : Jvm.MethodName)) ∈ GG := gg_mem 1101 (by decide +kernel) rfl
theorem w_1102 : (Jvm.Cond.static ({ cls := "CranePadsModel", name := "isPad", desc := "(I)Z" } : Jvm.MethodName)) ∈ GG := gg_mem 1102 (by decide +kernel) rfl
theorem w_1103 : (Jvm.Cond.code ({ cls := "CranePadsModel", name := "isPad", desc := "(I)Z" } : Jvm.MethodName) prog_14_method_6_code (1 : Nat) (Option.some Jvm.ClassFile.FieldType.boolean)) ∈ GG := gg_mem 1103 (by decide +kernel) rfl
theorem w_1104 : (Jvm.Cond.methodLink "CranePadsModel" (95 : Nat) ({ cls := "CranePadsModel", name := "in", desc := "(III)Z" } : Jvm.MethodName)) ∈ GG := gg_mem 1104 (by decide +kernel) rfl
theorem w_1105 : (Jvm.Cond.static ({ cls := "CranePadsModel", name := "in", desc := "(III)Z" } : Jvm.MethodName)) ∈ GG := gg_mem 1105 (by decide +kernel) rfl
theorem w_1106 : (Jvm.Cond.code ({ cls := "CranePadsModel", name := "in", desc := "(III)Z" } : Jvm.MethodName) prog_14_method_2_code (3 : Nat) (Option.some Jvm.ClassFile.FieldType.boolean)) ∈ GG := gg_mem 1106 (by decide +kernel) rfl
theorem w_1107 : (Jvm.Cond.methodLink "CranePadsModel" (110 : Nat) ({ cls := "CranePadsModel", name := "stands", desc := "()Z" } : Jvm.MethodName)) ∈ GG := gg_mem 1107 (by decide +kernel) rfl
theorem w_1109 : (Jvm.Cond.instanceMethod ({ cls := "CranePadsModel", name := "stands", desc := "()Z" } : Jvm.MethodName)) ∈ GG := gg_mem 1109 (by decide +kernel) rfl
theorem w_1110 : (Jvm.Cond.code ({ cls := "CranePadsModel", name := "stands", desc := "()Z" } : Jvm.MethodName) prog_14_method_9_code (3 : Nat) (Option.some Jvm.ClassFile.FieldType.boolean)) ∈ GG := gg_mem 1110 (by decide +kernel) rfl
theorem w_1111 : (Jvm.Cond.methodLink "CranePadsModel" (99 : Nat) ({ cls := "CranePadsModel", name := "x", desc := "(I)I" } : Jvm.MethodName)) ∈ GG := gg_mem 1111 (by decide +kernel) rfl
theorem w_1113 : (Jvm.Cond.instanceMethod ({ cls := "CranePadsModel", name := "x", desc := "(I)I" } : Jvm.MethodName)) ∈ GG := gg_mem 1113 (by decide +kernel) rfl
theorem w_1114 : (Jvm.Cond.code ({ cls := "CranePadsModel", name := "x", desc := "(I)I" } : Jvm.MethodName) prog_14_method_7_code (2 : Nat) (Option.some Jvm.ClassFile.FieldType.int)) ∈ GG := gg_mem 1114 (by decide +kernel) rfl
theorem w_1115 : (Jvm.Cond.methodLink "CranePadsModel" (103 : Nat) ({ cls := "CranePadsModel", name := "y", desc := "(I)I" } : Jvm.MethodName)) ∈ GG := gg_mem 1115 (by decide +kernel) rfl
theorem w_1117 : (Jvm.Cond.instanceMethod ({ cls := "CranePadsModel", name := "y", desc := "(I)I" } : Jvm.MethodName)) ∈ GG := gg_mem 1117 (by decide +kernel) rfl
theorem w_1118 : (Jvm.Cond.code ({ cls := "CranePadsModel", name := "y", desc := "(I)I" } : Jvm.MethodName) prog_14_method_8_code (2 : Nat) (Option.some Jvm.ClassFile.FieldType.int)) ∈ GG := gg_mem 1118 (by decide +kernel) rfl
theorem w_1127 : (Jvm.Cond.methodLink "CranePadsModel" (118 : Nat) ({ cls := "CranePadsModel", name := "isPartOf", desc := "(I)Z" } : Jvm.MethodName)) ∈ GG := gg_mem 1127 (by decide +kernel) rfl
theorem w_1129 : (Jvm.Cond.instanceMethod ({ cls := "CranePadsModel", name := "isPartOf", desc := "(I)Z" } : Jvm.MethodName)) ∈ GG := gg_mem 1129 (by decide +kernel) rfl
theorem w_1130 : (Jvm.Cond.code ({ cls := "CranePadsModel", name := "isPartOf", desc := "(I)Z" } : Jvm.MethodName) prog_14_method_12_code (2 : Nat) (Option.some Jvm.ClassFile.FieldType.boolean)) ∈ GG := gg_mem 1130 (by decide +kernel) rfl
theorem w_1135 : (Jvm.Cond.methodLink "CranePadsModel" (124 : Nat) ({ cls := "CranePadsModel", name := "isWhat", desc := "(I)Z" } : Jvm.MethodName)) ∈ GG := gg_mem 1135 (by decide +kernel) rfl
theorem w_1136 : (Jvm.Cond.static ({ cls := "CranePadsModel", name := "isWhat", desc := "(I)Z" } : Jvm.MethodName)) ∈ GG := gg_mem 1136 (by decide +kernel) rfl
theorem w_1137 : (Jvm.Cond.code ({ cls := "CranePadsModel", name := "isWhat", desc := "(I)Z" } : Jvm.MethodName) prog_14_method_14_code (1 : Nat) (Option.some Jvm.ClassFile.FieldType.boolean)) ∈ GG := gg_mem 1137 (by decide +kernel) rfl
theorem w_1138 : (Jvm.Cond.methodLink "CranePadsModel" (127 : Nat) ({ cls := "CranePadsModel", name := "isFor", desc := "(II)Z" } : Jvm.MethodName)) ∈ GG := gg_mem 1138 (by decide +kernel) rfl
theorem w_1139 : (Jvm.Cond.static ({ cls := "CranePadsModel", name := "isFor", desc := "(II)Z" } : Jvm.MethodName)) ∈ GG := gg_mem 1139 (by decide +kernel) rfl
theorem w_1140 : (Jvm.Cond.code ({ cls := "CranePadsModel", name := "isFor", desc := "(II)Z" } : Jvm.MethodName) prog_14_method_16_code (2 : Nat) (Option.some Jvm.ClassFile.FieldType.boolean)) ∈ GG := gg_mem 1140 (by decide +kernel) rfl
theorem w_1141 : (Jvm.Cond.methodLink "CranePadsModel" (121 : Nat) ({ cls := "CranePadsModel", name := "most", desc := "(I)I" } : Jvm.MethodName)) ∈ GG := gg_mem 1141 (by decide +kernel) rfl
theorem w_1142 : (Jvm.Cond.static ({ cls := "CranePadsModel", name := "most", desc := "(I)I" } : Jvm.MethodName)) ∈ GG := gg_mem 1142 (by decide +kernel) rfl
theorem w_1143 : (Jvm.Cond.code ({ cls := "CranePadsModel", name := "most", desc := "(I)I" } : Jvm.MethodName) prog_14_method_15_code (1 : Nat) (Option.some Jvm.ClassFile.FieldType.int)) ∈ GG := gg_mem 1143 (by decide +kernel) rfl
theorem w_1152 : (Jvm.Cond.constantLong "CranePadsModel" (131 : Nat) (-9223372036854775808 : Int64)) ∈ GG := gg_mem 1152 (by decide +kernel) rfl
theorem w_1157 : (Jvm.Cond.methodLink "CranePadsModel" (133 : Nat) ({ cls := "CranePadsModel", name := "isChart", desc := "(I)Z" } : Jvm.MethodName)) ∈ GG := gg_mem 1157 (by decide +kernel) rfl
theorem w_1158 : (Jvm.Cond.static ({ cls := "CranePadsModel", name := "isChart", desc := "(I)Z" } : Jvm.MethodName)) ∈ GG := gg_mem 1158 (by decide +kernel) rfl
theorem w_1159 : (Jvm.Cond.code ({ cls := "CranePadsModel", name := "isChart", desc := "(I)Z" } : Jvm.MethodName) prog_14_method_20_code (1 : Nat) (Option.some Jvm.ClassFile.FieldType.boolean)) ∈ GG := gg_mem 1159 (by decide +kernel) rfl
theorem w_1160 : (Jvm.Cond.methodLink "CranePadsModel" (136 : Nat) ({ cls := "CranePadsModel", name := "isReach", desc := "(I)Z" } : Jvm.MethodName)) ∈ GG := gg_mem 1160 (by decide +kernel) rfl
theorem w_1161 : (Jvm.Cond.static ({ cls := "CranePadsModel", name := "isReach", desc := "(I)Z" } : Jvm.MethodName)) ∈ GG := gg_mem 1161 (by decide +kernel) rfl
theorem w_1162 : (Jvm.Cond.code ({ cls := "CranePadsModel", name := "isReach", desc := "(I)Z" } : Jvm.MethodName) prog_14_method_21_code (1 : Nat) (Option.some Jvm.ClassFile.FieldType.boolean)) ∈ GG := gg_mem 1162 (by decide +kernel) rfl
theorem w_1163 : (Jvm.Cond.methodLink "CranePadsModel" (139 : Nat) ({ cls := "CranePadsModel", name := "placeOf", desc := "(II)I" } : Jvm.MethodName)) ∈ GG := gg_mem 1163 (by decide +kernel) rfl
theorem w_1165 : (Jvm.Cond.instanceMethod ({ cls := "CranePadsModel", name := "placeOf", desc := "(II)I" } : Jvm.MethodName)) ∈ GG := gg_mem 1165 (by decide +kernel) rfl
theorem w_1166 : (Jvm.Cond.code ({ cls := "CranePadsModel", name := "placeOf", desc := "(II)I" } : Jvm.MethodName) prog_14_method_22_code (4 : Nat) (Option.some Jvm.ClassFile.FieldType.int)) ∈ GG := gg_mem 1166 (by decide +kernel) rfl
theorem w_1167 : (Jvm.Cond.methodLink "CranePadsModel" (143 : Nat) ({ cls := "CranePadsModel", name := "isThere", desc := "(III)Z" } : Jvm.MethodName)) ∈ GG := gg_mem 1167 (by decide +kernel) rfl
theorem w_1169 : (Jvm.Cond.instanceMethod ({ cls := "CranePadsModel", name := "isThere", desc := "(III)Z" } : Jvm.MethodName)) ∈ GG := gg_mem 1169 (by decide +kernel) rfl
theorem w_1170 : (Jvm.Cond.code ({ cls := "CranePadsModel", name := "isThere", desc := "(III)Z" } : Jvm.MethodName) prog_14_method_23_code (4 : Nat) (Option.some Jvm.ClassFile.FieldType.boolean)) ∈ GG := gg_mem 1170 (by decide +kernel) rfl
theorem w_1171 : (Jvm.Cond.methodLink "CranePadsModel" (146 : Nat) ({ cls := "CranePadsModel", name := "goes", desc := "(II)V" } : Jvm.MethodName)) ∈ GG := gg_mem 1171 (by decide +kernel) rfl
theorem w_1173 : (Jvm.Cond.instanceMethod ({ cls := "CranePadsModel", name := "goes", desc := "(II)V" } : Jvm.MethodName)) ∈ GG := gg_mem 1173 (by decide +kernel) rfl
theorem w_1174 : (Jvm.Cond.code ({ cls := "CranePadsModel", name := "goes", desc := "(II)V" } : Jvm.MethodName) prog_14_method_24_code (4 : Nat) (Option.none : Option Jvm.ClassFile.FieldType)) ∈ GG := gg_mem 1174 (by decide +kernel) rfl
theorem w_1175 : (Jvm.Cond.methodLink "CranePadsModel" (150 : Nat) ({ cls := "CranePadsModel", name := "comes", desc := "(III)V" } : Jvm.MethodName)) ∈ GG := gg_mem 1175 (by decide +kernel) rfl
theorem w_1177 : (Jvm.Cond.instanceMethod ({ cls := "CranePadsModel", name := "comes", desc := "(III)V" } : Jvm.MethodName)) ∈ GG := gg_mem 1177 (by decide +kernel) rfl
theorem w_1178 : (Jvm.Cond.code ({ cls := "CranePadsModel", name := "comes", desc := "(III)V" } : Jvm.MethodName) prog_14_method_25_code (5 : Nat) (Option.none : Option Jvm.ClassFile.FieldType)) ∈ GG := gg_mem 1178 (by decide +kernel) rfl
theorem w_1183 : (Jvm.Cond.methodLink "CranePadsModel" (154 : Nat) ({ cls := "CranePadsModel", name := "readOf", desc := "(II)I" } : Jvm.MethodName)) ∈ GG := gg_mem 1183 (by decide +kernel) rfl
theorem w_1185 : (Jvm.Cond.instanceMethod ({ cls := "CranePadsModel", name := "readOf", desc := "(II)I" } : Jvm.MethodName)) ∈ GG := gg_mem 1185 (by decide +kernel) rfl
theorem w_1186 : (Jvm.Cond.code ({ cls := "CranePadsModel", name := "readOf", desc := "(II)I" } : Jvm.MethodName) prog_14_method_27_code (5 : Nat) (Option.some Jvm.ClassFile.FieldType.int)) ∈ GG := gg_mem 1186 (by decide +kernel) rfl
theorem w_1191 : (Jvm.Cond.methodLink "CranePadsModel" (162 : Nat) ({ cls := "CranePadsModel", name := "isDirection", desc := "(I)Z" } : Jvm.MethodName)) ∈ GG := gg_mem 1191 (by decide +kernel) rfl
theorem w_1192 : (Jvm.Cond.static ({ cls := "CranePadsModel", name := "isDirection", desc := "(I)Z" } : Jvm.MethodName)) ∈ GG := gg_mem 1192 (by decide +kernel) rfl
theorem w_1193 : (Jvm.Cond.code ({ cls := "CranePadsModel", name := "isDirection", desc := "(I)Z" } : Jvm.MethodName) prog_14_method_30_code (1 : Nat) (Option.some Jvm.ClassFile.FieldType.boolean)) ∈ GG := gg_mem 1193 (by decide +kernel) rfl
theorem w_1194 : (Jvm.Cond.methodLink "CranePadsModel" (165 : Nat) ({ cls := "CranePadsModel", name := "allowedAt", desc := "(II)I" } : Jvm.MethodName)) ∈ GG := gg_mem 1194 (by decide +kernel) rfl
theorem w_1196 : (Jvm.Cond.instanceMethod ({ cls := "CranePadsModel", name := "allowedAt", desc := "(II)I" } : Jvm.MethodName)) ∈ GG := gg_mem 1196 (by decide +kernel) rfl
theorem w_1197 : (Jvm.Cond.code ({ cls := "CranePadsModel", name := "allowedAt", desc := "(II)I" } : Jvm.MethodName) prog_14_method_29_code (4 : Nat) (Option.some Jvm.ClassFile.FieldType.int)) ∈ GG := gg_mem 1197 (by decide +kernel) rfl
theorem w_1198 : (Jvm.Cond.methodLink "CranePadsModel" (157 : Nat) ({ cls := "java/lang/Math", name := "max", desc := "(II)I" } : Jvm.MethodName)) ∈ GG := gg_mem 1198 (by decide +kernel) rfl
theorem w_1203 : (Jvm.Cond.methodLink "CranePadsModel" (193 : Nat) ({ cls := "CranePadsModel", name := "looks", desc := "()V" } : Jvm.MethodName)) ∈ GG := gg_mem 1203 (by decide +kernel) rfl
theorem w_1205 : (Jvm.Cond.instanceMethod ({ cls := "CranePadsModel", name := "looks", desc := "()V" } : Jvm.MethodName)) ∈ GG := gg_mem 1205 (by decide +kernel) rfl
theorem w_1206 : (Jvm.Cond.code ({ cls := "CranePadsModel", name := "looks", desc := "()V" } : Jvm.MethodName) prog_14_method_37_code (4 : Nat) (Option.none : Option Jvm.ClassFile.FieldType)) ∈ GG := gg_mem 1206 (by decide +kernel) rfl
theorem w_1207 : (Jvm.Cond.methodLink "CranePadsModel" (174 : Nat) ({ cls := "CranePadsModel", name := "cos", desc := "(I)I" } : Jvm.MethodName)) ∈ GG := gg_mem 1207 (by decide +kernel) rfl
theorem w_1208 : (Jvm.Cond.static ({ cls := "CranePadsModel", name := "cos", desc := "(I)I" } : Jvm.MethodName)) ∈ GG := gg_mem 1208 (by decide +kernel) rfl
theorem w_1209 : (Jvm.Cond.code ({ cls := "CranePadsModel", name := "cos", desc := "(I)I" } : Jvm.MethodName) prog_14_method_34_code (1 : Nat) (Option.some Jvm.ClassFile.FieldType.int)) ∈ GG := gg_mem 1209 (by decide +kernel) rfl
theorem w_1210 : (Jvm.Cond.methodLink "CranePadsModel" (168 : Nat) ({ cls := "CranePadsModel", name := "plainCos", desc := "(I)I" } : Jvm.MethodName)) ∈ GG := gg_mem 1210 (by decide +kernel) rfl
theorem w_1211 : (Jvm.Cond.static ({ cls := "CranePadsModel", name := "plainCos", desc := "(I)I" } : Jvm.MethodName)) ∈ GG := gg_mem 1211 (by decide +kernel) rfl
theorem w_1212 : (Jvm.Cond.code ({ cls := "CranePadsModel", name := "plainCos", desc := "(I)I" } : Jvm.MethodName) prog_14_method_32_code (1 : Nat) (Option.some Jvm.ClassFile.FieldType.int)) ∈ GG := gg_mem 1212 (by decide +kernel) rfl
theorem w_1213 : (Jvm.Cond.methodLink "CranePadsModel" (171 : Nat) ({ cls := "CranePadsModel", name := "plainSin", desc := "(I)I" } : Jvm.MethodName)) ∈ GG := gg_mem 1213 (by decide +kernel) rfl
theorem w_1214 : (Jvm.Cond.static ({ cls := "CranePadsModel", name := "plainSin", desc := "(I)I" } : Jvm.MethodName)) ∈ GG := gg_mem 1214 (by decide +kernel) rfl
theorem w_1215 : (Jvm.Cond.code ({ cls := "CranePadsModel", name := "plainSin", desc := "(I)I" } : Jvm.MethodName) prog_14_method_33_code (1 : Nat) (Option.some Jvm.ClassFile.FieldType.int)) ∈ GG := gg_mem 1215 (by decide +kernel) rfl
theorem w_1216 : (Jvm.Cond.methodLink "CranePadsModel" (180 : Nat) ({ cls := "CranePadsModel", name := "sin", desc := "(I)I" } : Jvm.MethodName)) ∈ GG := gg_mem 1216 (by decide +kernel) rfl
theorem w_1217 : (Jvm.Cond.static ({ cls := "CranePadsModel", name := "sin", desc := "(I)I" } : Jvm.MethodName)) ∈ GG := gg_mem 1217 (by decide +kernel) rfl
theorem w_1218 : (Jvm.Cond.code ({ cls := "CranePadsModel", name := "sin", desc := "(I)I" } : Jvm.MethodName) prog_14_method_35_code (1 : Nat) (Option.some Jvm.ClassFile.FieldType.int)) ∈ GG := gg_mem 1218 (by decide +kernel) rfl
theorem w_1219 : (Jvm.Cond.methodLink "CranePadsModel" (183 : Nat) ({ cls := "CranePadsModel", name := "lays", desc := "(IJJ)V" } : Jvm.MethodName)) ∈ GG := gg_mem 1219 (by decide +kernel) rfl
theorem w_1221 : (Jvm.Cond.instanceMethod ({ cls := "CranePadsModel", name := "lays", desc := "(IJJ)V" } : Jvm.MethodName)) ∈ GG := gg_mem 1221 (by decide +kernel) rfl
theorem w_1222 : (Jvm.Cond.code ({ cls := "CranePadsModel", name := "lays", desc := "(IJJ)V" } : Jvm.MethodName) prog_14_method_36_code (6 : Nat) (Option.none : Option Jvm.ClassFile.FieldType)) ∈ GG := gg_mem 1222 (by decide +kernel) rfl
theorem w_1223 : (Jvm.Cond.methodLink "CranePadsModel" (196 : Nat) ({ cls := "CranePadsModel", name := "sum", desc := "(I)J" } : Jvm.MethodName)) ∈ GG := gg_mem 1223 (by decide +kernel) rfl
theorem w_1225 : (Jvm.Cond.instanceMethod ({ cls := "CranePadsModel", name := "sum", desc := "(I)J" } : Jvm.MethodName)) ∈ GG := gg_mem 1225 (by decide +kernel) rfl
theorem w_1226 : (Jvm.Cond.code ({ cls := "CranePadsModel", name := "sum", desc := "(I)J" } : Jvm.MethodName) prog_14_method_38_code (5 : Nat) (Option.some Jvm.ClassFile.FieldType.long)) ∈ GG := gg_mem 1226 (by decide +kernel) rfl
theorem w_1231 : (Jvm.Cond.methodLink "CranePadsModel" (200 : Nat) ({ cls := "CranePadsModel", name := "isPart", desc := "(I)Z" } : Jvm.MethodName)) ∈ GG := gg_mem 1231 (by decide +kernel) rfl
theorem w_1232 : (Jvm.Cond.static ({ cls := "CranePadsModel", name := "isPart", desc := "(I)Z" } : Jvm.MethodName)) ∈ GG := gg_mem 1232 (by decide +kernel) rfl
theorem w_1233 : (Jvm.Cond.code ({ cls := "CranePadsModel", name := "isPart", desc := "(I)Z" } : Jvm.MethodName) prog_14_method_5_code (1 : Nat) (Option.some Jvm.ClassFile.FieldType.boolean)) ∈ GG := gg_mem 1233 (by decide +kernel) rfl
theorem w_1234 : (Jvm.Cond.constantLong "CranePadsModel" (187 : Nat) (65 : Int64)) ∈ GG := gg_mem 1234 (by decide +kernel) rfl
theorem w_1235 : (Jvm.Cond.methodLink "CranePadsModel" (203 : Nat) ({ cls := "CranePadsModel", name := "part", desc := "(JJI)J" } : Jvm.MethodName)) ∈ GG := gg_mem 1235 (by decide +kernel) rfl
theorem w_1236 : (Jvm.Cond.static ({ cls := "CranePadsModel", name := "part", desc := "(JJI)J" } : Jvm.MethodName)) ∈ GG := gg_mem 1236 (by decide +kernel) rfl
theorem w_1237 : (Jvm.Cond.code ({ cls := "CranePadsModel", name := "part", desc := "(JJI)J" } : Jvm.MethodName) prog_14_method_4_code (5 : Nat) (Option.some Jvm.ClassFile.FieldType.long)) ∈ GG := gg_mem 1237 (by decide +kernel) rfl
theorem w_1238 : (Jvm.Cond.methodLink "CranePadsModel" (91 : Nat) ({ cls := "CranePadsModel", name := "divisor", desc := "(JJ)J" } : Jvm.MethodName)) ∈ GG := gg_mem 1238 (by decide +kernel) rfl
theorem w_1239 : (Jvm.Cond.static ({ cls := "CranePadsModel", name := "divisor", desc := "(JJ)J" } : Jvm.MethodName)) ∈ GG := gg_mem 1239 (by decide +kernel) rfl
theorem w_1240 : (Jvm.Cond.code ({ cls := "CranePadsModel", name := "divisor", desc := "(JJ)J" } : Jvm.MethodName) prog_14_method_3_code (10 : Nat) (Option.some Jvm.ClassFile.FieldType.long)) ∈ GG := gg_mem 1240 (by decide +kernel) rfl
theorem w_1245 : (Jvm.Cond.methodLink "CranePadsModel" (207 : Nat) ({ cls := "CranePadsModel", name := "moments", desc := "(II)J" } : Jvm.MethodName)) ∈ GG := gg_mem 1245 (by decide +kernel) rfl
theorem w_1247 : (Jvm.Cond.instanceMethod ({ cls := "CranePadsModel", name := "moments", desc := "(II)J" } : Jvm.MethodName)) ∈ GG := gg_mem 1247 (by decide +kernel) rfl
theorem w_1248 : (Jvm.Cond.code ({ cls := "CranePadsModel", name := "moments", desc := "(II)J" } : Jvm.MethodName) prog_14_method_40_code (8 : Nat) (Option.some Jvm.ClassFile.FieldType.long)) ∈ GG := gg_mem 1248 (by decide +kernel) rfl
theorem w_1249 : (Jvm.Cond.methodLink "CranePadsModel" (189 : Nat) ({ cls := "CranePadsModel", name := "momentOf", desc := "(II)J" } : Jvm.MethodName)) ∈ GG := gg_mem 1249 (by decide +kernel) rfl
theorem w_1251 : (Jvm.Cond.instanceMethod ({ cls := "CranePadsModel", name := "momentOf", desc := "(II)J" } : Jvm.MethodName)) ∈ GG := gg_mem 1251 (by decide +kernel) rfl
theorem w_1252 : (Jvm.Cond.code ({ cls := "CranePadsModel", name := "momentOf", desc := "(II)J" } : Jvm.MethodName) prog_14_method_39_code (7 : Nat) (Option.some Jvm.ClassFile.FieldType.long)) ∈ GG := gg_mem 1252 (by decide +kernel) rfl
theorem w_1261 : (Jvm.Cond.methodLink "CranePadsModel" (232 : Nat) ({ cls := "CranePadsModel", name := "pushes", desc := "()I" } : Jvm.MethodName)) ∈ GG := gg_mem 1261 (by decide +kernel) rfl
theorem w_1263 : (Jvm.Cond.instanceMethod ({ cls := "CranePadsModel", name := "pushes", desc := "()I" } : Jvm.MethodName)) ∈ GG := gg_mem 1263 (by decide +kernel) rfl
theorem w_1264 : (Jvm.Cond.code ({ cls := "CranePadsModel", name := "pushes", desc := "()I" } : Jvm.MethodName) prog_14_method_49_code (1 : Nat) (Option.some Jvm.ClassFile.FieldType.int)) ∈ GG := gg_mem 1264 (by decide +kernel) rfl
theorem w_1265 : (Jvm.Cond.methodLink "CranePadsModel" (221 : Nat) ({ cls := "CranePadsModel", name := "tips", desc := "()Z" } : Jvm.MethodName)) ∈ GG := gg_mem 1265 (by decide +kernel) rfl
theorem w_1267 : (Jvm.Cond.instanceMethod ({ cls := "CranePadsModel", name := "tips", desc := "()Z" } : Jvm.MethodName)) ∈ GG := gg_mem 1267 (by decide +kernel) rfl
theorem w_1268 : (Jvm.Cond.code ({ cls := "CranePadsModel", name := "tips", desc := "()Z" } : Jvm.MethodName) prog_14_method_45_code (2 : Nat) (Option.some Jvm.ClassFile.FieldType.boolean)) ∈ GG := gg_mem 1268 (by decide +kernel) rfl
theorem w_1269 : (Jvm.Cond.methodLink "CranePadsModel" (224 : Nat) ({ cls := "CranePadsModel", name := "plane", desc := "(I)V" } : Jvm.MethodName)) ∈ GG := gg_mem 1269 (by decide +kernel) rfl
theorem w_1271 : (Jvm.Cond.instanceMethod ({ cls := "CranePadsModel", name := "plane", desc := "(I)V" } : Jvm.MethodName)) ∈ GG := gg_mem 1271 (by decide +kernel) rfl
theorem w_1272 : (Jvm.Cond.code ({ cls := "CranePadsModel", name := "plane", desc := "(I)V" } : Jvm.MethodName) prog_14_method_47_code (29 : Nat) (Option.none : Option Jvm.ClassFile.FieldType)) ∈ GG := gg_mem 1272 (by decide +kernel) rfl
theorem w_1273 : (Jvm.Cond.methodLink "CranePadsModel" (210 : Nat) ({ cls := "CranePadsModel", name := "determinant", desc := "(JJJJJJJJJ)J" } : Jvm.MethodName)) ∈ GG := gg_mem 1273 (by decide +kernel) rfl
theorem w_1274 : (Jvm.Cond.static ({ cls := "CranePadsModel", name := "determinant", desc := "(JJJJJJJJJ)J" } : Jvm.MethodName)) ∈ GG := gg_mem 1274 (by decide +kernel) rfl
theorem w_1275 : (Jvm.Cond.code ({ cls := "CranePadsModel", name := "determinant", desc := "(JJJJJJJJJ)J" } : Jvm.MethodName) prog_14_method_46_code (18 : Nat) (Option.some Jvm.ClassFile.FieldType.long)) ∈ GG := gg_mem 1275 (by decide +kernel) rfl
theorem w_1276 : (Jvm.Cond.methodLink "CranePadsModel" (228 : Nat) ({ cls := "CranePadsModel", name := "least", desc := "()I" } : Jvm.MethodName)) ∈ GG := gg_mem 1276 (by decide +kernel) rfl
theorem w_1278 : (Jvm.Cond.instanceMethod ({ cls := "CranePadsModel", name := "least", desc := "()I" } : Jvm.MethodName)) ∈ GG := gg_mem 1278 (by decide +kernel) rfl
theorem w_1279 : (Jvm.Cond.code ({ cls := "CranePadsModel", name := "least", desc := "()I" } : Jvm.MethodName) prog_14_method_48_code (3 : Nat) (Option.some Jvm.ClassFile.FieldType.int)) ∈ GG := gg_mem 1279 (by decide +kernel) rfl
theorem w_1292 : (Jvm.Cond.methodLink "CranePadsModel" (241 : Nat) ({ cls := "CranePadsModel", name := "whyNow", desc := "()I" } : Jvm.MethodName)) ∈ GG := gg_mem 1292 (by decide +kernel) rfl
theorem w_1294 : (Jvm.Cond.instanceMethod ({ cls := "CranePadsModel", name := "whyNow", desc := "()I" } : Jvm.MethodName)) ∈ GG := gg_mem 1294 (by decide +kernel) rfl
theorem w_1295 : (Jvm.Cond.code ({ cls := "CranePadsModel", name := "whyNow", desc := "()I" } : Jvm.MethodName) prog_14_method_52_code (2 : Nat) (Option.some Jvm.ClassFile.FieldType.int)) ∈ GG := gg_mem 1295 (by decide +kernel) rfl
theorem w_1296 : (Jvm.Cond.methodLink "CranePadsModel" (235 : Nat) ({ cls := "CranePadsModel", name := "isAboveLimit", desc := "()Z" } : Jvm.MethodName)) ∈ GG := gg_mem 1296 (by decide +kernel) rfl
theorem w_1298 : (Jvm.Cond.instanceMethod ({ cls := "CranePadsModel", name := "isAboveLimit", desc := "()Z" } : Jvm.MethodName)) ∈ GG := gg_mem 1298 (by decide +kernel) rfl
theorem w_1299 : (Jvm.Cond.code ({ cls := "CranePadsModel", name := "isAboveLimit", desc := "()Z" } : Jvm.MethodName) prog_14_method_50_code (2 : Nat) (Option.some Jvm.ClassFile.FieldType.boolean)) ∈ GG := gg_mem 1299 (by decide +kernel) rfl
theorem w_1300 : (Jvm.Cond.methodLink "CranePadsModel" (238 : Nat) ({ cls := "CranePadsModel", name := "spareNow", desc := "()I" } : Jvm.MethodName)) ∈ GG := gg_mem 1300 (by decide +kernel) rfl
theorem w_1302 : (Jvm.Cond.instanceMethod ({ cls := "CranePadsModel", name := "spareNow", desc := "()I" } : Jvm.MethodName)) ∈ GG := gg_mem 1302 (by decide +kernel) rfl
theorem w_1303 : (Jvm.Cond.code ({ cls := "CranePadsModel", name := "spareNow", desc := "()I" } : Jvm.MethodName) prog_14_method_51_code (1 : Nat) (Option.some Jvm.ClassFile.FieldType.int)) ∈ GG := gg_mem 1303 (by decide +kernel) rfl
theorem w_1308 : (Jvm.Cond.methodLink "CranePadsModel" (244 : Nat) ({ cls := "CranePadsModel", name := "may", desc := "()Z" } : Jvm.MethodName)) ∈ GG := gg_mem 1308 (by decide +kernel) rfl
theorem w_1310 : (Jvm.Cond.instanceMethod ({ cls := "CranePadsModel", name := "may", desc := "()Z" } : Jvm.MethodName)) ∈ GG := gg_mem 1310 (by decide +kernel) rfl
theorem w_1311 : (Jvm.Cond.code ({ cls := "CranePadsModel", name := "may", desc := "()Z" } : Jvm.MethodName) prog_14_method_53_code (1 : Nat) (Option.some Jvm.ClassFile.FieldType.boolean)) ∈ GG := gg_mem 1311 (by decide +kernel) rfl
theorem w_1316 : (Jvm.Cond.methodLink "CranePadsModel" (247 : Nat) ({ cls := "CranePadsModel", name := "mayAt", desc := "(II)Z" } : Jvm.MethodName)) ∈ GG := gg_mem 1316 (by decide +kernel) rfl
theorem w_1318 : (Jvm.Cond.instanceMethod ({ cls := "CranePadsModel", name := "mayAt", desc := "(II)Z" } : Jvm.MethodName)) ∈ GG := gg_mem 1318 (by decide +kernel) rfl
theorem w_1319 : (Jvm.Cond.code ({ cls := "CranePadsModel", name := "mayAt", desc := "(II)Z" } : Jvm.MethodName) prog_14_method_59_code (6 : Nat) (Option.some Jvm.ClassFile.FieldType.boolean)) ∈ GG := gg_mem 1319 (by decide +kernel) rfl
theorem w_1328 : (Jvm.Cond.methodLink "CranePadsModel" (253 : Nat) ({ cls := "CranePadsModel", name := "comesTo", desc := "(III)V" } : Jvm.MethodName)) ∈ GG := gg_mem 1328 (by decide +kernel) rfl
theorem w_1330 : (Jvm.Cond.instanceMethod ({ cls := "CranePadsModel", name := "comesTo", desc := "(III)V" } : Jvm.MethodName)) ∈ GG := gg_mem 1330 (by decide +kernel) rfl
theorem w_1331 : (Jvm.Cond.code ({ cls := "CranePadsModel", name := "comesTo", desc := "(III)V" } : Jvm.MethodName) prog_14_method_62_code (5 : Nat) (Option.none : Option Jvm.ClassFile.FieldType)) ∈ GG := gg_mem 1331 (by decide +kernel) rfl
theorem w_1348 : (Jvm.Cond.methodLink "CranePadsModel" (300 : Nat) ({ cls := "CranePadsModel", name := "reads", desc := "()I" } : Jvm.MethodName)) ∈ GG := gg_mem 1348 (by decide +kernel) rfl
theorem w_1350 : (Jvm.Cond.instanceMethod ({ cls := "CranePadsModel", name := "reads", desc := "()I" } : Jvm.MethodName)) ∈ GG := gg_mem 1350 (by decide +kernel) rfl
theorem w_1351 : (Jvm.Cond.code ({ cls := "CranePadsModel", name := "reads", desc := "()I" } : Jvm.MethodName) prog_14_method_72_code (4 : Nat) (Option.some Jvm.ClassFile.FieldType.int)) ∈ GG := gg_mem 1351 (by decide +kernel) rfl
theorem w_1352 : (Jvm.Cond.methodLink "CranePadsModel" (295 : Nat) ({ cls := "CranePadsModel", name := "readStep", desc := "(I)I" } : Jvm.MethodName)) ∈ GG := gg_mem 1352 (by decide +kernel) rfl
theorem w_1354 : (Jvm.Cond.instanceMethod ({ cls := "CranePadsModel", name := "readStep", desc := "(I)I" } : Jvm.MethodName)) ∈ GG := gg_mem 1354 (by decide +kernel) rfl
theorem w_1355 : (Jvm.Cond.code ({ cls := "CranePadsModel", name := "readStep", desc := "(I)I" } : Jvm.MethodName) prog_14_method_71_code (6 : Nat) (Option.some Jvm.ClassFile.FieldType.int)) ∈ GG := gg_mem 1355 (by decide +kernel) rfl
theorem w_1356 : (Jvm.Cond.methodLink "CranePadsModel" (281 : Nat) ({ cls := "CranePadsModel", name := "here", desc := "()I" } : Jvm.MethodName)) ∈ GG := gg_mem 1356 (by decide +kernel) rfl
theorem w_1358 : (Jvm.Cond.instanceMethod ({ cls := "CranePadsModel", name := "here", desc := "()I" } : Jvm.MethodName)) ∈ GG := gg_mem 1358 (by decide +kernel) rfl
theorem w_1359 : (Jvm.Cond.code ({ cls := "CranePadsModel", name := "here", desc := "()I" } : Jvm.MethodName) prog_14_method_67_code (1 : Nat) (Option.some Jvm.ClassFile.FieldType.int)) ∈ GG := gg_mem 1359 (by decide +kernel) rfl
theorem w_1360 : (Jvm.Cond.methodLink "CranePadsModel" (284 : Nat) ({ cls := "CranePadsModel", name := "word", desc := "(I)Ljava/lang/String;" } : Jvm.MethodName)) ∈ GG := gg_mem 1360 (by decide +kernel) rfl
theorem w_1361 : (Jvm.Cond.static ({ cls := "CranePadsModel", name := "word", desc := "(I)Ljava/lang/String;" } : Jvm.MethodName)) ∈ GG := gg_mem 1361 (by decide +kernel) rfl
theorem w_1362 : (Jvm.Cond.code ({ cls := "CranePadsModel", name := "word", desc := "(I)Ljava/lang/String;" } : Jvm.MethodName) prog_14_method_68_code (1 : Nat) (Option.some (Jvm.ClassFile.FieldType.object "java/lang/String"))) ∈ GG := gg_mem 1362 (by decide +kernel) rfl
theorem w_1368 : (Jvm.Cond.methodLink "CranePadsModel" (288 : Nat) ({ cls := "CranePadsModel", name := "isWord", desc := "(ILjava/lang/String;)Z" } : Jvm.MethodName)) ∈ GG := gg_mem 1368 (by decide +kernel) rfl
theorem w_1370 : (Jvm.Cond.instanceMethod ({ cls := "CranePadsModel", name := "isWord", desc := "(ILjava/lang/String;)Z" } : Jvm.MethodName)) ∈ GG := gg_mem 1370 (by decide +kernel) rfl
theorem w_1371 : (Jvm.Cond.code ({ cls := "CranePadsModel", name := "isWord", desc := "(ILjava/lang/String;)Z" } : Jvm.MethodName) prog_14_method_69_code (4 : Nat) (Option.some Jvm.ClassFile.FieldType.boolean)) ∈ GG := gg_mem 1371 (by decide +kernel) rfl
theorem w_1372 : (Jvm.Cond.methodLink "CranePadsModel" (272 : Nat) ({ cls := "java/lang/String", name := "length", desc := "()I" } : Jvm.MethodName)) ∈ GG := gg_mem 1372 (by decide +kernel) rfl
theorem w_1373 : (Jvm.Cond.methodLink "CranePadsModel" (277 : Nat) ({ cls := "java/lang/String", name := "charAt", desc := "(I)C" } : Jvm.MethodName)) ∈ GG := gg_mem 1373 (by decide +kernel) rfl
theorem w_1374 : (Jvm.Cond.methodLink "CranePadsModel" (292 : Nat) ({ cls := "CranePadsModel", name := "whatOf", desc := "(I)I" } : Jvm.MethodName)) ∈ GG := gg_mem 1374 (by decide +kernel) rfl
theorem w_1375 : (Jvm.Cond.static ({ cls := "CranePadsModel", name := "whatOf", desc := "(I)I" } : Jvm.MethodName)) ∈ GG := gg_mem 1375 (by decide +kernel) rfl
theorem w_1376 : (Jvm.Cond.code ({ cls := "CranePadsModel", name := "whatOf", desc := "(I)I" } : Jvm.MethodName) prog_14_method_70_code (1 : Nat) (Option.some Jvm.ClassFile.FieldType.int)) ∈ GG := gg_mem 1376 (by decide +kernel) rfl
theorem w_1381 : (Jvm.Cond.methodLink "CranePadsModel" (344 : Nat) ({ cls := "CranePadsModel", name := "checks", desc := "()V" } : Jvm.MethodName)) ∈ GG := gg_mem 1381 (by decide +kernel) rfl
theorem w_1383 : (Jvm.Cond.instanceMethod ({ cls := "CranePadsModel", name := "checks", desc := "()V" } : Jvm.MethodName)) ∈ GG := gg_mem 1383 (by decide +kernel) rfl
theorem w_1384 : (Jvm.Cond.code ({ cls := "CranePadsModel", name := "checks", desc := "()V" } : Jvm.MethodName) prog_14_method_82_code (1 : Nat) (Option.none : Option Jvm.ClassFile.FieldType)) ∈ GG := gg_mem 1384 (by decide +kernel) rfl
theorem w_1385 : (Jvm.Cond.methodLink "CranePadsModel" (335 : Nat) ({ cls := "CranePadsModel", name := "remembers", desc := "()V" } : Jvm.MethodName)) ∈ GG := gg_mem 1385 (by decide +kernel) rfl
theorem w_1387 : (Jvm.Cond.instanceMethod ({ cls := "CranePadsModel", name := "remembers", desc := "()V" } : Jvm.MethodName)) ∈ GG := gg_mem 1387 (by decide +kernel) rfl
theorem w_1388 : (Jvm.Cond.code ({ cls := "CranePadsModel", name := "remembers", desc := "()V" } : Jvm.MethodName) prog_14_method_79_code (2 : Nat) (Option.none : Option Jvm.ClassFile.FieldType)) ∈ GG := gg_mem 1388 (by decide +kernel) rfl
theorem w_1389 : (Jvm.Cond.methodLink "CranePadsModel" (338 : Nat) ({ cls := "CranePadsModel", name := "goesAll", desc := "()V" } : Jvm.MethodName)) ∈ GG := gg_mem 1389 (by decide +kernel) rfl
theorem w_1391 : (Jvm.Cond.instanceMethod ({ cls := "CranePadsModel", name := "goesAll", desc := "()V" } : Jvm.MethodName)) ∈ GG := gg_mem 1391 (by decide +kernel) rfl
theorem w_1392 : (Jvm.Cond.code ({ cls := "CranePadsModel", name := "goesAll", desc := "()V" } : Jvm.MethodName) prog_14_method_81_code (2 : Nat) (Option.none : Option Jvm.ClassFile.FieldType)) ∈ GG := gg_mem 1392 (by decide +kernel) rfl
theorem w_1393 : (Jvm.Cond.methodLink "CranePadsModel" (329 : Nat) ({ cls := "CranePadsModel", name := "begins", desc := "()V" } : Jvm.MethodName)) ∈ GG := gg_mem 1393 (by decide +kernel) rfl
theorem w_1395 : (Jvm.Cond.instanceMethod ({ cls := "CranePadsModel", name := "begins", desc := "()V" } : Jvm.MethodName)) ∈ GG := gg_mem 1395 (by decide +kernel) rfl
theorem w_1396 : (Jvm.Cond.code ({ cls := "CranePadsModel", name := "begins", desc := "()V" } : Jvm.MethodName) prog_14_method_74_code (1 : Nat) (Option.none : Option Jvm.ClassFile.FieldType)) ∈ GG := gg_mem 1396 (by decide +kernel) rfl
theorem w_1397 : (Jvm.Cond.methodLink "CranePadsModel" (314 : Nat) ({ cls := "CranePadsModel", name := "looksAt", desc := "(I)V" } : Jvm.MethodName)) ∈ GG := gg_mem 1397 (by decide +kernel) rfl
theorem w_1399 : (Jvm.Cond.instanceMethod ({ cls := "CranePadsModel", name := "looksAt", desc := "(I)V" } : Jvm.MethodName)) ∈ GG := gg_mem 1399 (by decide +kernel) rfl
theorem w_1400 : (Jvm.Cond.code ({ cls := "CranePadsModel", name := "looksAt", desc := "(I)V" } : Jvm.MethodName) prog_14_method_75_code (3 : Nat) (Option.none : Option Jvm.ClassFile.FieldType)) ∈ GG := gg_mem 1400 (by decide +kernel) rfl
theorem w_1401 : (Jvm.Cond.methodLink "CranePadsModel" (320 : Nat) ({ cls := "java/lang/Math", name := "min", desc := "(II)I" } : Jvm.MethodName)) ∈ GG := gg_mem 1401 (by decide +kernel) rfl
theorem w_1402 : (Jvm.Cond.methodLink "CranePadsModel" (332 : Nat) ({ cls := "CranePadsModel", name := "goesStep", desc := "(I)V" } : Jvm.MethodName)) ∈ GG := gg_mem 1402 (by decide +kernel) rfl
theorem w_1404 : (Jvm.Cond.instanceMethod ({ cls := "CranePadsModel", name := "goesStep", desc := "(I)V" } : Jvm.MethodName)) ∈ GG := gg_mem 1404 (by decide +kernel) rfl
theorem w_1405 : (Jvm.Cond.code ({ cls := "CranePadsModel", name := "goesStep", desc := "(I)V" } : Jvm.MethodName) prog_14_method_78_code (2 : Nat) (Option.none : Option Jvm.ClassFile.FieldType)) ∈ GG := gg_mem 1405 (by decide +kernel) rfl
theorem w_1406 : (Jvm.Cond.methodLink "CranePadsModel" (323 : Nat) ({ cls := "CranePadsModel", name := "slews", desc := "(II)V" } : Jvm.MethodName)) ∈ GG := gg_mem 1406 (by decide +kernel) rfl
theorem w_1408 : (Jvm.Cond.instanceMethod ({ cls := "CranePadsModel", name := "slews", desc := "(II)V" } : Jvm.MethodName)) ∈ GG := gg_mem 1408 (by decide +kernel) rfl
theorem w_1409 : (Jvm.Cond.code ({ cls := "CranePadsModel", name := "slews", desc := "(II)V" } : Jvm.MethodName) prog_14_method_76_code (5 : Nat) (Option.none : Option Jvm.ClassFile.FieldType)) ∈ GG := gg_mem 1409 (by decide +kernel) rfl
theorem w_1410 : (Jvm.Cond.methodLink "CranePadsModel" (326 : Nat) ({ cls := "CranePadsModel", name := "reaches", desc := "(II)V" } : Jvm.MethodName)) ∈ GG := gg_mem 1410 (by decide +kernel) rfl
theorem w_1412 : (Jvm.Cond.instanceMethod ({ cls := "CranePadsModel", name := "reaches", desc := "(II)V" } : Jvm.MethodName)) ∈ GG := gg_mem 1412 (by decide +kernel) rfl
theorem w_1413 : (Jvm.Cond.code ({ cls := "CranePadsModel", name := "reaches", desc := "(II)V" } : Jvm.MethodName) prog_14_method_77_code (3 : Nat) (Option.none : Option Jvm.ClassFile.FieldType)) ∈ GG := gg_mem 1413 (by decide +kernel) rfl
theorem w_1414 : (Jvm.Cond.methodLink "CranePadsModel" (341 : Nat) ({ cls := "CranePadsModel", name := "returns", desc := "()V" } : Jvm.MethodName)) ∈ GG := gg_mem 1414 (by decide +kernel) rfl
theorem w_1416 : (Jvm.Cond.instanceMethod ({ cls := "CranePadsModel", name := "returns", desc := "()V" } : Jvm.MethodName)) ∈ GG := gg_mem 1416 (by decide +kernel) rfl
theorem w_1417 : (Jvm.Cond.code ({ cls := "CranePadsModel", name := "returns", desc := "()V" } : Jvm.MethodName) prog_14_method_80_code (2 : Nat) (Option.none : Option Jvm.ClassFile.FieldType)) ∈ GG := gg_mem 1417 (by decide +kernel) rfl
theorem w_1434 : (Jvm.Cond.methodLink "CranePadsModel" (347 : Nat) ({ cls := "CranePadsModel", name := "isList", desc := "(I)Z" } : Jvm.MethodName)) ∈ GG := gg_mem 1434 (by decide +kernel) rfl
theorem w_1435 : (Jvm.Cond.static ({ cls := "CranePadsModel", name := "isList", desc := "(I)Z" } : Jvm.MethodName)) ∈ GG := gg_mem 1435 (by decide +kernel) rfl
theorem w_1436 : (Jvm.Cond.code ({ cls := "CranePadsModel", name := "isList", desc := "(I)Z" } : Jvm.MethodName) prog_14_method_87_code (1 : Nat) (Option.some Jvm.ClassFile.FieldType.boolean)) ∈ GG := gg_mem 1436 (by decide +kernel) rfl
theorem w_1437 : (Jvm.Cond.constantLong "CranePadsModel" (350 : Nat) (4 : Int64)) ∈ GG := gg_mem 1437 (by decide +kernel) rfl
theorem w_1438 : (Jvm.Cond.methodLink "CranePadsModel" (352 : Nat) ({ cls := "CranePadsModel", name := "isSeen", desc := "(I)Z" } : Jvm.MethodName)) ∈ GG := gg_mem 1438 (by decide +kernel) rfl
theorem w_1440 : (Jvm.Cond.instanceMethod ({ cls := "CranePadsModel", name := "isSeen", desc := "(I)Z" } : Jvm.MethodName)) ∈ GG := gg_mem 1440 (by decide +kernel) rfl
theorem w_1441 : (Jvm.Cond.code ({ cls := "CranePadsModel", name := "isSeen", desc := "(I)Z" } : Jvm.MethodName) prog_14_method_88_code (3 : Nat) (Option.some Jvm.ClassFile.FieldType.boolean)) ∈ GG := gg_mem 1441 (by decide +kernel) rfl
theorem w_1466 : (Jvm.Cond.methodLink "CranePadsModel" (358 : Nat) ({ cls := "CranePadsModel", name := "mayLift", desc := "(I)Z" } : Jvm.MethodName)) ∈ GG := gg_mem 1466 (by decide +kernel) rfl
theorem w_1468 : (Jvm.Cond.instanceMethod ({ cls := "CranePadsModel", name := "mayLift", desc := "(I)Z" } : Jvm.MethodName)) ∈ GG := gg_mem 1468 (by decide +kernel) rfl
theorem w_1469 : (Jvm.Cond.code ({ cls := "CranePadsModel", name := "mayLift", desc := "(I)Z" } : Jvm.MethodName) prog_14_method_95_code (4 : Nat) (Option.some Jvm.ClassFile.FieldType.boolean)) ∈ GG := gg_mem 1469 (by decide +kernel) rfl
theorem w_1487 : (Jvm.Cond.fieldLink "java/lang/String" (9 : Nat) "java/lang/String" "value" "[B") ∈ GG := gg_mem 1487 (by decide +kernel) rfl
theorem w_1488 : (Jvm.Cond.fieldLink "java/lang/String" (15 : Nat) "java/lang/String" "coder" "B") ∈ GG := gg_mem 1488 (by decide +kernel) rfl
theorem fl_RX0_21 : FW RX0 21 0 3 := ⟨RX0, TX0, 4, cp0, Nat.le_of_ble_eq_true rfl, w_392, rfl, rfl⟩
theorem fl_RX0_9 : FL RX0 9 0 0 := ⟨RX0, TX0, 4, cp0, Nat.le_of_ble_eq_true rfl, w_386, rfl⟩
theorem fl_RX0_15 : FL RX0 15 0 1 := ⟨RX0, TX0, 4, cp0, Nat.le_of_ble_eq_true rfl, w_388, rfl⟩
theorem fl_RX0_18 : FL RX0 18 0 2 := ⟨RX0, TX0, 4, cp0, Nat.le_of_ble_eq_true rfl, w_390, rfl⟩
theorem fl_RX1_9 : FL RX1 9 1 0 := ⟨RX1, TX1, 2, cp1, Nat.le_of_ble_eq_true rfl, w_218, rfl⟩
theorem fl_RX1_21 : FW RX1 21 1 1 := ⟨RX1, TX1, 2, cp1, Nat.le_of_ble_eq_true rfl, w_219, rfl, rfl⟩
theorem fl_RX4_9 : FL RX4 9 4 0 := ⟨RX4, TX4, 11, cp4, Nat.le_of_ble_eq_true rfl, w_108, rfl⟩
theorem fl_RX4_15 : FL RX4 15 4 1 := ⟨RX4, TX4, 11, cp4, Nat.le_of_ble_eq_true rfl, w_111, rfl⟩
theorem fl_RX4_18 : FL RX4 18 4 2 := ⟨RX4, TX4, 11, cp4, Nat.le_of_ble_eq_true rfl, w_114, rfl⟩
theorem fl_RX4_30 : FW RX4 30 4 3 := ⟨RX4, TX4, 11, cp4, Nat.le_of_ble_eq_true rfl, w_119, rfl, rfl⟩
theorem fl_RX4_34 : FW RX4 34 4 4 := ⟨RX4, TX4, 11, cp4, Nat.le_of_ble_eq_true rfl, w_120, rfl, rfl⟩
theorem fl_RX4_38 : FW RX4 38 4 5 := ⟨RX4, TX4, 11, cp4, Nat.le_of_ble_eq_true rfl, w_122, rfl, rfl⟩
theorem fl_RX4_41 : FW RX4 41 4 6 := ⟨RX4, TX4, 11, cp4, Nat.le_of_ble_eq_true rfl, w_124, rfl, rfl⟩
theorem fl_RX4_44 : FW RX4 44 4 7 := ⟨RX4, TX4, 11, cp4, Nat.le_of_ble_eq_true rfl, w_126, rfl, rfl⟩
theorem fl_RX4_47 : FW RX4 47 4 8 := ⟨RX4, TX4, 11, cp4, Nat.le_of_ble_eq_true rfl, w_128, rfl, rfl⟩
theorem fl_RX4_50 : FW RX4 50 4 9 := ⟨RX4, TX4, 11, cp4, Nat.le_of_ble_eq_true rfl, w_130, rfl, rfl⟩
theorem fl_RX4_53 : FW RX4 53 4 10 := ⟨RX4, TX4, 11, cp4, Nat.le_of_ble_eq_true rfl, w_132, rfl, rfl⟩
theorem fl_RX5_9 : FL RX5 9 5 0 := ⟨RX5, TX5, 10, cp5, Nat.le_of_ble_eq_true rfl, w_164, rfl⟩
theorem fl_RX5_15 : FL RX5 15 5 1 := ⟨RX5, TX5, 10, cp5, Nat.le_of_ble_eq_true rfl, w_167, rfl⟩
theorem fl_RX5_18 : FL RX5 18 5 2 := ⟨RX5, TX5, 10, cp5, Nat.le_of_ble_eq_true rfl, w_169, rfl⟩
theorem fl_RX5_25 : FW RX5 25 5 4 := ⟨RX5, TX5, 10, cp5, Nat.le_of_ble_eq_true rfl, w_173, rfl, rfl⟩
theorem fl_RX5_33 : FW RX5 33 5 5 := ⟨RX5, TX5, 10, cp5, Nat.le_of_ble_eq_true rfl, w_177, rfl, rfl⟩
theorem fl_RX5_42 : FW RX5 42 5 6 := ⟨RX5, TX5, 10, cp5, Nat.le_of_ble_eq_true rfl, w_178, rfl, rfl⟩
theorem fl_RX5_45 : FW RX5 45 5 7 := ⟨RX5, TX5, 10, cp5, Nat.le_of_ble_eq_true rfl, w_180, rfl, rfl⟩
theorem fl_RX5_36 : FW RX5 36 5 8 := ⟨RX5, TX5, 10, cp5, Nat.le_of_ble_eq_true rfl, w_182, rfl, rfl⟩
theorem fl_RX5_39 : FW RX5 39 5 9 := ⟨RX5, TX5, 10, cp5, Nat.le_of_ble_eq_true rfl, w_184, rfl, rfl⟩
theorem fl_RX5_21 : FL RX5 21 5 3 := ⟨RX5, TX5, 10, cp5, Nat.le_of_ble_eq_true rfl, w_171, rfl⟩
theorem fl_RX2_12 : FL RX2 12 2 0 := ⟨RX2, TX2, 4, cp2, Nat.le_of_ble_eq_true rfl, w_235, rfl⟩
theorem fl_RX2_21 : FL RX2 21 2 1 := ⟨RX2, TX2, 4, cp2, Nat.le_of_ble_eq_true rfl, w_238, rfl⟩
theorem fl_RX2_41 : FL RX2 41 2 3 := ⟨RX2, TX2, 4, cp2, Nat.le_of_ble_eq_true rfl, w_243, rfl⟩
theorem fl_RX2_27 : FL RX2 27 2 2 := ⟨RX2, TX2, 4, cp2, Nat.le_of_ble_eq_true rfl, w_241, rfl⟩
theorem fl_RX2_62 : FW RX2 62 5 5 := ⟨RX5, TX5, 10, cp5, Nat.le_of_ble_eq_true rfl, w_176, rfl, rfl⟩
theorem fl_RX3_69 : FL RX3 69 2 1 := ⟨RX2, TX2, 4, cp2, Nat.le_of_ble_eq_true rfl, w_240, rfl⟩
theorem fl_RX3_65 : FL RX3 65 2 3 := ⟨RX2, TX2, 4, cp2, Nat.le_of_ble_eq_true rfl, w_245, rfl⟩
theorem fl_RX3_79 : FW RX3 79 5 8 := ⟨RX5, TX5, 10, cp5, Nat.le_of_ble_eq_true rfl, w_183, rfl, rfl⟩
theorem fl_RX3_87 : FW RX3 87 5 9 := ⟨RX5, TX5, 10, cp5, Nat.le_of_ble_eq_true rfl, w_185, rfl, rfl⟩
theorem fl_RX3_31 : FW RX3 31 3 0 := ⟨RX3, TX3, 8, cp3, Nat.le_of_ble_eq_true rfl, w_263, rfl, rfl⟩
theorem fl_RX3_95 : FW RX3 95 5 6 := ⟨RX5, TX5, 10, cp5, Nat.le_of_ble_eq_true rfl, w_179, rfl, rfl⟩
theorem fl_RX3_98 : FW RX3 98 3 1 := ⟨RX3, TX3, 8, cp3, Nat.le_of_ble_eq_true rfl, w_265, rfl, rfl⟩
theorem fl_RX3_101 : FW RX3 101 5 7 := ⟨RX5, TX5, 10, cp5, Nat.le_of_ble_eq_true rfl, w_181, rfl, rfl⟩
theorem fl_RX3_104 : FW RX3 104 3 2 := ⟨RX3, TX3, 8, cp3, Nat.le_of_ble_eq_true rfl, w_267, rfl, rfl⟩
theorem fl_RX3_107 : FL RX3 107 4 0 := ⟨RX4, TX4, 11, cp4, Nat.le_of_ble_eq_true rfl, w_109, rfl⟩
theorem fl_RX3_110 : FL RX3 110 4 1 := ⟨RX4, TX4, 11, cp4, Nat.le_of_ble_eq_true rfl, w_112, rfl⟩
theorem fl_RX3_157 : FW RX3 157 4 4 := ⟨RX4, TX4, 11, cp4, Nat.le_of_ble_eq_true rfl, w_121, rfl, rfl⟩
theorem fl_RX3_160 : FW RX3 160 4 5 := ⟨RX4, TX4, 11, cp4, Nat.le_of_ble_eq_true rfl, w_123, rfl, rfl⟩
theorem fl_RX3_163 : FW RX3 163 4 6 := ⟨RX4, TX4, 11, cp4, Nat.le_of_ble_eq_true rfl, w_125, rfl, rfl⟩
theorem fl_RX3_166 : FW RX3 166 4 7 := ⟨RX4, TX4, 11, cp4, Nat.le_of_ble_eq_true rfl, w_127, rfl, rfl⟩
theorem fl_RX3_169 : FW RX3 169 4 8 := ⟨RX4, TX4, 11, cp4, Nat.le_of_ble_eq_true rfl, w_129, rfl, rfl⟩
theorem fl_RX3_172 : FW RX3 172 4 9 := ⟨RX4, TX4, 11, cp4, Nat.le_of_ble_eq_true rfl, w_131, rfl, rfl⟩
theorem fl_RX3_175 : FW RX3 175 4 10 := ⟨RX4, TX4, 11, cp4, Nat.le_of_ble_eq_true rfl, w_133, rfl, rfl⟩
theorem fl_RX3_117 : FW RX3 117 3 4 := ⟨RX3, TX3, 8, cp3, Nat.le_of_ble_eq_true rfl, w_271, rfl, rfl⟩
theorem fl_RX3_9 : FL RX3 9 3 3 := ⟨RX3, TX3, 8, cp3, Nat.le_of_ble_eq_true rfl, w_269, rfl⟩
theorem fl_RX3_154 : FL RX3 154 4 2 := ⟨RX4, TX4, 11, cp4, Nat.le_of_ble_eq_true rfl, w_116, rfl⟩
theorem fl_RX3_15 : FL RX3 15 2 0 := ⟨RX2, TX2, 4, cp2, Nat.le_of_ble_eq_true rfl, w_236, rfl⟩
theorem fl_RX3_21 : FW RX3 21 4 3 := ⟨RX4, TX4, 11, cp4, Nat.le_of_ble_eq_true rfl, w_117, rfl, rfl⟩
theorem fl_RX3_47 : FW RX3 47 3 5 := ⟨RX3, TX3, 8, cp3, Nat.le_of_ble_eq_true rfl, w_273, rfl, rfl⟩
theorem fl_RX3_123 : FW RX3 123 3 7 := ⟨RX3, TX3, 8, cp3, Nat.le_of_ble_eq_true rfl, w_277, rfl, rfl⟩
theorem fl_RX3_120 : FW RX3 120 3 6 := ⟨RX3, TX3, 8, cp3, Nat.le_of_ble_eq_true rfl, w_275, rfl, rfl⟩
theorem fl_RX3_126 : FW RX3 126 5 4 := ⟨RX5, TX5, 10, cp5, Nat.le_of_ble_eq_true rfl, w_175, rfl, rfl⟩
theorem fl_RX3_129 : FL RX3 129 5 3 := ⟨RX5, TX5, 10, cp5, Nat.le_of_ble_eq_true rfl, w_172, rfl⟩
theorem fl_RX3_133 : FL RX3 133 5 1 := ⟨RX5, TX5, 10, cp5, Nat.le_of_ble_eq_true rfl, w_168, rfl⟩
theorem fl_RX3_136 : FL RX3 136 5 2 := ⟨RX5, TX5, 10, cp5, Nat.le_of_ble_eq_true rfl, w_170, rfl⟩
theorem fl_RX3_139 : FL RX3 139 5 0 := ⟨RX5, TX5, 10, cp5, Nat.le_of_ble_eq_true rfl, w_166, rfl⟩
theorem fl_RX6_18 : FW RX6 18 6 2 := ⟨RX6, TX6, 3, cp6, Nat.le_of_ble_eq_true rfl, w_342, rfl, rfl⟩
theorem fl_RX6_9 : FL RX6 9 6 0 := ⟨RX6, TX6, 3, cp6, Nat.le_of_ble_eq_true rfl, w_338, rfl⟩
theorem fl_RX6_15 : FL RX6 15 6 1 := ⟨RX6, TX6, 3, cp6, Nat.le_of_ble_eq_true rfl, w_340, rfl⟩
theorem fl_RX6_32 : FL RX6 32 2 3 := ⟨RX2, TX2, 4, cp2, Nat.le_of_ble_eq_true rfl, w_247, rfl⟩
theorem fl_RX7_15 : FL RX7 15 7 1 := ⟨RX7, TX7, 3, cp7, Nat.le_of_ble_eq_true rfl, w_305, rfl⟩
theorem fl_RX7_9 : FL RX7 9 7 0 := ⟨RX7, TX7, 3, cp7, Nat.le_of_ble_eq_true rfl, w_303, rfl⟩
theorem fl_RX7_18 : FL RX7 18 7 2 := ⟨RX7, TX7, 3, cp7, Nat.le_of_ble_eq_true rfl, w_306, rfl⟩
theorem fl_RX8_16 : FL RX8 16 8 1 := ⟨RX8, TX8, 2, cp8, Nat.le_of_ble_eq_true rfl, w_413, rfl⟩
theorem fl_RX8_11 : FL RX8 11 8 0 := ⟨RX8, TX8, 2, cp8, Nat.le_of_ble_eq_true rfl, w_411, rfl⟩
theorem fl_RX9_9 : FL RX9 9 9 0 := ⟨RX9, TX9, 3, cp9, Nat.le_of_ble_eq_true rfl, w_320, rfl⟩
theorem fl_RX9_15 : FW RX9 15 9 1 := ⟨RX9, TX9, 3, cp9, Nat.le_of_ble_eq_true rfl, w_321, rfl, rfl⟩
theorem fl_RX9_22 : FW RX9 22 9 2 := ⟨RX9, TX9, 3, cp9, Nat.le_of_ble_eq_true rfl, w_323, rfl, rfl⟩
theorem fl_RX9_19 : FW RX9 19 6 2 := ⟨RX6, TX6, 3, cp6, Nat.le_of_ble_eq_true rfl, w_344, rfl, rfl⟩
theorem fl_RX10_27 : FW RX10 27 10 4 := ⟨RX10, TX10, 5, cp10, Nat.le_of_ble_eq_true rfl, w_367, rfl, rfl⟩
theorem fl_RX10_9 : FW RX10 9 10 0 := ⟨RX10, TX10, 5, cp10, Nat.le_of_ble_eq_true rfl, w_359, rfl, rfl⟩
theorem fl_RX10_21 : FW RX10 21 10 3 := ⟨RX10, TX10, 5, cp10, Nat.le_of_ble_eq_true rfl, w_365, rfl, rfl⟩
theorem fl_RX10_15 : FW RX10 15 10 1 := ⟨RX10, TX10, 5, cp10, Nat.le_of_ble_eq_true rfl, w_361, rfl, rfl⟩
theorem fl_RX10_18 : FW RX10 18 10 2 := ⟨RX10, TX10, 5, cp10, Nat.le_of_ble_eq_true rfl, w_363, rfl, rfl⟩
theorem fl_RX10_34 : FW RX10 34 6 2 := ⟨RX6, TX6, 3, cp6, Nat.le_of_ble_eq_true rfl, w_343, rfl, rfl⟩
theorem fl_RX10_39 : FL RX10 39 6 0 := ⟨RX6, TX6, 3, cp6, Nat.le_of_ble_eq_true rfl, w_339, rfl⟩
theorem fl_RX10_43 : FL RX10 43 6 1 := ⟨RX6, TX6, 3, cp6, Nat.le_of_ble_eq_true rfl, w_341, rfl⟩
theorem fl_RX10_50 : FL RX10 50 2 3 := ⟨RX2, TX2, 4, cp2, Nat.le_of_ble_eq_true rfl, w_244, rfl⟩
theorem fl_RX11_12 : FL RX11 12 11 0 := ⟨RX11, TX11, 12, cp11, Nat.le_of_ble_eq_true rfl, w_420, rfl⟩
theorem fl_RX11_88 : FL RX11 88 2 0 := ⟨RX2, TX2, 4, cp2, Nat.le_of_ble_eq_true rfl, w_237, rfl⟩
theorem fl_RX11_98 : FW RX11 98 4 3 := ⟨RX4, TX4, 11, cp4, Nat.le_of_ble_eq_true rfl, w_118, rfl, rfl⟩
theorem fl_RX11_104 : FL RX11 104 2 1 := ⟨RX2, TX2, 4, cp2, Nat.le_of_ble_eq_true rfl, w_239, rfl⟩
theorem fl_RX11_108 : FW RX11 108 5 4 := ⟨RX5, TX5, 10, cp5, Nat.le_of_ble_eq_true rfl, w_174, rfl, rfl⟩
theorem fl_RX11_121 : FL RX11 121 5 0 := ⟨RX5, TX5, 10, cp5, Nat.le_of_ble_eq_true rfl, w_165, rfl⟩
theorem fl_RX11_136 : FL RX11 136 2 3 := ⟨RX2, TX2, 4, cp2, Nat.le_of_ble_eq_true rfl, w_246, rfl⟩
theorem fl_RX11_141 : FL RX11 141 4 0 := ⟨RX4, TX4, 11, cp4, Nat.le_of_ble_eq_true rfl, w_110, rfl⟩
theorem fl_RX11_144 : FL RX11 144 4 1 := ⟨RX4, TX4, 11, cp4, Nat.le_of_ble_eq_true rfl, w_113, rfl⟩
theorem fl_RX11_147 : FL RX11 147 4 2 := ⟨RX4, TX4, 11, cp4, Nat.le_of_ble_eq_true rfl, w_115, rfl⟩
theorem fl_RX11_153 : FL RX11 153 2 2 := ⟨RX2, TX2, 4, cp2, Nat.le_of_ble_eq_true rfl, w_242, rfl⟩
theorem fl_RX11_160 : FW RX11 160 1 1 := ⟨RX1, TX1, 2, cp1, Nat.le_of_ble_eq_true rfl, w_220, rfl, rfl⟩
theorem fl_RX11_27 : FL RX11 27 11 3 := ⟨RX11, TX11, 12, cp11, Nat.le_of_ble_eq_true rfl, w_423, rfl⟩
theorem fl_RX11_183 : FW RX11 183 3 0 := ⟨RX3, TX3, 8, cp3, Nat.le_of_ble_eq_true rfl, w_264, rfl, rfl⟩
theorem fl_RX11_190 : FW RX11 190 3 2 := ⟨RX3, TX3, 8, cp3, Nat.le_of_ble_eq_true rfl, w_268, rfl, rfl⟩
theorem fl_RX11_187 : FW RX11 187 3 1 := ⟨RX3, TX3, 8, cp3, Nat.le_of_ble_eq_true rfl, w_266, rfl, rfl⟩
theorem fl_RX11_210 : FW RX11 210 3 7 := ⟨RX3, TX3, 8, cp3, Nat.le_of_ble_eq_true rfl, w_278, rfl, rfl⟩
theorem fl_RX11_213 : FW RX11 213 3 6 := ⟨RX3, TX3, 8, cp3, Nat.le_of_ble_eq_true rfl, w_276, rfl, rfl⟩
theorem fl_RX11_220 : FL RX11 220 3 3 := ⟨RX3, TX3, 8, cp3, Nat.le_of_ble_eq_true rfl, w_270, rfl⟩
theorem fl_RX11_224 : FW RX11 224 3 4 := ⟨RX3, TX3, 8, cp3, Nat.le_of_ble_eq_true rfl, w_272, rfl, rfl⟩
theorem fl_RX11_227 : FW RX11 227 3 5 := ⟨RX3, TX3, 8, cp3, Nat.le_of_ble_eq_true rfl, w_274, rfl, rfl⟩
theorem fl_RX11_21 : FL RX11 21 11 2 := ⟨RX11, TX11, 12, cp11, Nat.le_of_ble_eq_true rfl, w_422, rfl⟩
theorem fl_RX11_34 : FL RX11 34 11 4 := ⟨RX11, TX11, 12, cp11, Nat.le_of_ble_eq_true rfl, w_424, rfl⟩
theorem fl_RX11_241 : FL RX11 241 7 0 := ⟨RX7, TX7, 3, cp7, Nat.le_of_ble_eq_true rfl, w_304, rfl⟩
theorem fl_RX11_41 : FL RX11 41 11 5 := ⟨RX11, TX11, 12, cp11, Nat.le_of_ble_eq_true rfl, w_425, rfl⟩
theorem fl_RX11_250 : FW RX11 250 9 1 := ⟨RX9, TX9, 3, cp9, Nat.le_of_ble_eq_true rfl, w_322, rfl, rfl⟩
theorem fl_RX11_52 : FL RX11 52 11 7 := ⟨RX11, TX11, 12, cp11, Nat.le_of_ble_eq_true rfl, w_427, rfl⟩
theorem fl_RX11_48 : FL RX11 48 11 6 := ⟨RX11, TX11, 12, cp11, Nat.le_of_ble_eq_true rfl, w_426, rfl⟩
theorem fl_RX11_260 : FW RX11 260 6 2 := ⟨RX6, TX6, 3, cp6, Nat.le_of_ble_eq_true rfl, w_345, rfl, rfl⟩
theorem fl_RX11_58 : FL RX11 58 11 8 := ⟨RX11, TX11, 12, cp11, Nat.le_of_ble_eq_true rfl, w_428, rfl⟩
theorem fl_RX11_265 : FW RX11 265 10 0 := ⟨RX10, TX10, 5, cp10, Nat.le_of_ble_eq_true rfl, w_360, rfl, rfl⟩
theorem fl_RX11_268 : FW RX11 268 10 1 := ⟨RX10, TX10, 5, cp10, Nat.le_of_ble_eq_true rfl, w_362, rfl, rfl⟩
theorem fl_RX11_271 : FW RX11 271 10 2 := ⟨RX10, TX10, 5, cp10, Nat.le_of_ble_eq_true rfl, w_364, rfl, rfl⟩
theorem fl_RX11_274 : FW RX11 274 10 3 := ⟨RX10, TX10, 5, cp10, Nat.le_of_ble_eq_true rfl, w_366, rfl, rfl⟩
theorem fl_RX11_277 : FW RX11 277 10 4 := ⟨RX10, TX10, 5, cp10, Nat.le_of_ble_eq_true rfl, w_368, rfl, rfl⟩
theorem fl_RX11_72 : FL RX11 72 11 10 := ⟨RX11, TX11, 12, cp11, Nat.le_of_ble_eq_true rfl, w_430, rfl⟩
theorem fl_RX11_294 : FL RX11 294 8 1 := ⟨RX8, TX8, 2, cp8, Nat.le_of_ble_eq_true rfl, w_414, rfl⟩
theorem fl_RX11_297 : FL RX11 297 8 0 := ⟨RX8, TX8, 2, cp8, Nat.le_of_ble_eq_true rfl, w_412, rfl⟩
theorem fl_RX11_65 : FL RX11 65 11 9 := ⟨RX11, TX11, 12, cp11, Nat.le_of_ble_eq_true rfl, w_429, rfl⟩
theorem fl_RX11_314 : FL RX11 314 0 0 := ⟨RX0, TX0, 4, cp0, Nat.le_of_ble_eq_true rfl, w_387, rfl⟩
theorem fl_RX11_317 : FL RX11 317 0 1 := ⟨RX0, TX0, 4, cp0, Nat.le_of_ble_eq_true rfl, w_389, rfl⟩
theorem fl_RX11_320 : FL RX11 320 0 2 := ⟨RX0, TX0, 4, cp0, Nat.le_of_ble_eq_true rfl, w_391, rfl⟩
theorem fl_RX11_313 : FW RX11 313 0 3 := ⟨RX0, TX0, 4, cp0, Nat.le_of_ble_eq_true rfl, w_393, rfl, rfl⟩
theorem fl_RX11_18 : FL RX11 18 11 1 := ⟨RX11, TX11, 12, cp11, Nat.le_of_ble_eq_true rfl, w_421, rfl⟩
theorem fl_RX11_76 : FW RX11 76 11 11 := ⟨RX11, TX11, 12, cp11, Nat.le_of_ble_eq_true rfl, w_431, rfl, rfl⟩
theorem fl_RX12_9 : FL RX12 9 12 0 := ⟨RX12, TX12, 41, cp12, Nat.le_of_ble_eq_true rfl, w_973, rfl⟩
theorem fl_RX12_114 : FW RX12 114 12 1 := ⟨RX12, TX12, 41, cp12, Nat.le_of_ble_eq_true rfl, w_974, rfl, rfl⟩
theorem fl_RX12_15 : FL RX12 15 12 2 := ⟨RX12, TX12, 41, cp12, Nat.le_of_ble_eq_true rfl, w_975, rfl⟩
theorem fl_RX12_18 : FL RX12 18 12 3 := ⟨RX12, TX12, 41, cp12, Nat.le_of_ble_eq_true rfl, w_976, rfl⟩
theorem fl_RX12_21 : FL RX12 21 12 4 := ⟨RX12, TX12, 41, cp12, Nat.le_of_ble_eq_true rfl, w_977, rfl⟩
theorem fl_RX12_24 : FL RX12 24 12 5 := ⟨RX12, TX12, 41, cp12, Nat.le_of_ble_eq_true rfl, w_978, rfl⟩
theorem fl_RX12_36 : FL RX12 36 12 9 := ⟨RX12, TX12, 41, cp12, Nat.le_of_ble_eq_true rfl, w_982, rfl⟩
theorem fl_RX12_27 : FL RX12 27 12 6 := ⟨RX12, TX12, 41, cp12, Nat.le_of_ble_eq_true rfl, w_979, rfl⟩
theorem fl_RX12_30 : FL RX12 30 12 7 := ⟨RX12, TX12, 41, cp12, Nat.le_of_ble_eq_true rfl, w_980, rfl⟩
theorem fl_RX12_33 : FL RX12 33 12 8 := ⟨RX12, TX12, 41, cp12, Nat.le_of_ble_eq_true rfl, w_981, rfl⟩
theorem fl_RX12_42 : FL RX12 42 12 13 := ⟨RX12, TX12, 41, cp12, Nat.le_of_ble_eq_true rfl, w_986, rfl⟩
theorem fl_RX12_177 : FW RX12 177 12 12 := ⟨RX12, TX12, 41, cp12, Nat.le_of_ble_eq_true rfl, w_985, rfl, rfl⟩
theorem fl_RX12_45 : FL RX12 45 12 14 := ⟨RX12, TX12, 41, cp12, Nat.le_of_ble_eq_true rfl, w_987, rfl⟩
theorem fl_RX12_49 : FL RX12 49 12 15 := ⟨RX12, TX12, 41, cp12, Nat.le_of_ble_eq_true rfl, w_988, rfl⟩
theorem fl_RX12_214 : FW RX12 214 12 17 := ⟨RX12, TX12, 41, cp12, Nat.le_of_ble_eq_true rfl, w_990, rfl, rfl⟩
theorem fl_RX12_52 : FL RX12 52 12 16 := ⟨RX12, TX12, 41, cp12, Nat.le_of_ble_eq_true rfl, w_989, rfl⟩
theorem fl_RX12_218 : FW RX12 218 12 18 := ⟨RX12, TX12, 41, cp12, Nat.le_of_ble_eq_true rfl, w_991, rfl, rfl⟩
theorem fl_RX12_55 : FL RX12 55 12 19 := ⟨RX12, TX12, 41, cp12, Nat.le_of_ble_eq_true rfl, w_992, rfl⟩
theorem fl_RX12_58 : FL RX12 58 12 20 := ⟨RX12, TX12, 41, cp12, Nat.le_of_ble_eq_true rfl, w_993, rfl⟩
theorem fl_RX12_250 : FW RX12 250 12 21 := ⟨RX12, TX12, 41, cp12, Nat.le_of_ble_eq_true rfl, w_994, rfl, rfl⟩
theorem fl_RX12_256 : FW RX12 256 12 23 := ⟨RX12, TX12, 41, cp12, Nat.le_of_ble_eq_true rfl, w_996, rfl, rfl⟩
theorem fl_RX12_61 : FL RX12 61 12 22 := ⟨RX12, TX12, 41, cp12, Nat.le_of_ble_eq_true rfl, w_995, rfl⟩
theorem fl_RX12_259 : FW RX12 259 12 29 := ⟨RX12, TX12, 41, cp12, Nat.le_of_ble_eq_true rfl, w_1002, rfl, rfl⟩
theorem fl_RX12_70 : FL RX12 70 12 27 := ⟨RX12, TX12, 41, cp12, Nat.le_of_ble_eq_true rfl, w_1000, rfl⟩
theorem fl_RX12_73 : FL RX12 73 12 28 := ⟨RX12, TX12, 41, cp12, Nat.le_of_ble_eq_true rfl, w_1001, rfl⟩
theorem fl_RX12_297 : FW RX12 297 12 24 := ⟨RX12, TX12, 41, cp12, Nat.le_of_ble_eq_true rfl, w_997, rfl, rfl⟩
theorem fl_RX12_64 : FL RX12 64 12 25 := ⟨RX12, TX12, 41, cp12, Nat.le_of_ble_eq_true rfl, w_998, rfl⟩
theorem fl_RX12_67 : FL RX12 67 12 26 := ⟨RX12, TX12, 41, cp12, Nat.le_of_ble_eq_true rfl, w_999, rfl⟩
theorem fl_RX12_303 : FW RX12 303 12 30 := ⟨RX12, TX12, 41, cp12, Nat.le_of_ble_eq_true rfl, w_1003, rfl, rfl⟩
theorem fl_RX12_317 : FW RX12 317 12 34 := ⟨RX12, TX12, 41, cp12, Nat.le_of_ble_eq_true rfl, w_1007, rfl, rfl⟩
theorem fl_RX12_305 : FW RX12 305 12 31 := ⟨RX12, TX12, 41, cp12, Nat.le_of_ble_eq_true rfl, w_1004, rfl, rfl⟩
theorem fl_RX12_308 : FW RX12 308 12 32 := ⟨RX12, TX12, 41, cp12, Nat.le_of_ble_eq_true rfl, w_1005, rfl, rfl⟩
theorem fl_RX12_311 : FW RX12 311 12 33 := ⟨RX12, TX12, 41, cp12, Nat.le_of_ble_eq_true rfl, w_1006, rfl, rfl⟩
theorem fl_RX12_76 : FL RX12 76 12 35 := ⟨RX12, TX12, 41, cp12, Nat.le_of_ble_eq_true rfl, w_1008, rfl⟩
theorem fl_RX12_79 : FL RX12 79 12 36 := ⟨RX12, TX12, 41, cp12, Nat.le_of_ble_eq_true rfl, w_1009, rfl⟩
theorem fl_RX12_85 : FL RX12 85 12 38 := ⟨RX12, TX12, 41, cp12, Nat.le_of_ble_eq_true rfl, w_1011, rfl⟩
theorem fl_RX12_82 : FL RX12 82 12 37 := ⟨RX12, TX12, 41, cp12, Nat.le_of_ble_eq_true rfl, w_1010, rfl⟩
theorem fl_RX12_355 : FW RX12 355 12 39 := ⟨RX12, TX12, 41, cp12, Nat.le_of_ble_eq_true rfl, w_1012, rfl, rfl⟩
theorem fl_RX12_88 : FL RX12 88 12 40 := ⟨RX12, TX12, 41, cp12, Nat.le_of_ble_eq_true rfl, w_1013, rfl⟩
theorem fl_RX12_361 : FW RX12 361 12 11 := ⟨RX12, TX12, 41, cp12, Nat.le_of_ble_eq_true rfl, w_984, rfl, rfl⟩
theorem fl_RX12_39 : FL RX12 39 12 10 := ⟨RX12, TX12, 41, cp12, Nat.le_of_ble_eq_true rfl, w_983, rfl⟩
theorem mi_X0_dropEldest : MI yX0_dropEldest cX0_dropEldest 1 (none) 0 0 := ⟨⟨TX0, 4, cp0⟩, w_913, w_13, w_67, w_914, by decide, by decide, by decide +kernel⟩
theorem mi_X1_has : MI yX1_has cX1_has 2 (some .boolean) 1 1 := ⟨⟨TX1, 2, cp1⟩, w_526, w_527, w_60, w_528, by decide, by decide, by decide +kernel⟩
theorem mi_X4_placeAs : MI yX4_placeAs cX4_placeAs 2 (none) 1 4 := ⟨⟨TX4, 11, cp4⟩, w_678, w_679, w_58, w_680, by decide, by decide, by decide +kernel⟩
theorem mi_X5_weighAs : MI yX5_weighAs cX5_weighAs 3 (none) 1 5 := ⟨⟨TX5, 10, cp5⟩, w_685, w_686, w_59, w_687, by decide, by decide, by decide +kernel⟩
theorem mi_X1_readAs : MI yX1_readAs cX1_readAs 2 (none) 1 1 := ⟨⟨TX1, 2, cp1⟩, w_690, w_691, w_60, w_692, by decide, by decide, by decide +kernel⟩
theorem mi_X2_hanging : MI yX2_hanging cX2_hanging 1 (some .int) 0 2 := ⟨⟨TX2, 4, cp2⟩, w_563, w_564, w_57, w_565, by decide, by decide, by decide +kernel⟩
theorem mi_X1_at : MI yX1_at cX1_at 4 (some .int) 1 1 := ⟨⟨TX1, 2, cp1⟩, w_539, w_540, w_60, w_541, by decide, by decide, by decide +kernel⟩
theorem mi_X2_mayHang : MI yX2_mayHang cX2_mayHang 5 (some .int) 2 2 := ⟨⟨TX2, 4, cp2⟩, w_547, w_548, w_57, w_549, by decide, by decide, by decide +kernel⟩
theorem mi_J9_floorMod_7cf53 : MS yJ9_floorMod_7cf53 cJ9_floorMod_7cf53 3 (some .int) 2 := ⟨w_856, w_70, w_857, by decide, by decide, by decide +kernel⟩
theorem mi_X2_wholeMass : MI yX2_wholeMass cX2_wholeMass 1 (some .int) 0 2 := ⟨⟨TX2, 4, cp2⟩, w_559, w_560, w_57, w_561, by decide, by decide, by decide +kernel⟩
theorem mi_X11_next : MS yX11_next cX11_next 1 (some .int) 1 := ⟨w_105, w_56, w_106, by decide, by decide, by decide +kernel⟩
theorem mi_X3_about : MI yX3_about cX3_about 8 (some .long) 3 3 := ⟨⟨TX3, 8, cp3⟩, w_599, w_600, w_62, w_601, by decide, by decide, by decide +kernel⟩
theorem mi_X4_span : MI yX4_span cX4_span 4 (some .long) 1 4 := ⟨⟨TX4, 11, cp4⟩, w_101, w_102, w_58, w_103, by decide, by decide, by decide +kernel⟩
theorem mi_X3_gather : MI yX3_gather cX3_gather 11 (none) 1 3 := ⟨⟨TX3, 8, cp3⟩, w_571, w_572, w_62, w_573, by decide, by decide, by decide +kernel⟩
theorem mi_X3_tipsOver : MI yX3_tipsOver cX3_tipsOver 3 (some .boolean) 1 3 := ⟨⟨TX3, 8, cp3⟩, w_631, w_2, w_62, w_632, by decide, by decide, by decide +kernel⟩
theorem mi_X3_shareByPlane : MI yX3_shareByPlane cX3_shareByPlane 9 (none) 1 3 := ⟨⟨TX3, 8, cp3⟩, w_636, w_3, w_62, w_637, by decide, by decide, by decide +kernel⟩
theorem mi_X3_lowestBelowNothing : MI yX3_lowestBelowNothing cX3_lowestBelowNothing 5 (some .int) 0 3 := ⟨⟨TX3, 8, cp3⟩, w_640, w_4, w_62, w_641, by decide, by decide, by decide +kernel⟩
theorem mi_X3_isOverLimit : MI yX3_isOverLimit cX3_isOverLimit 3 (some .boolean) 1 3 := ⟨⟨TX3, 8, cp3⟩, w_649, w_6, w_62, w_650, by decide, by decide, by decide +kernel⟩
theorem mi_X2_room : MI yX2_room cX2_room 1 (some .int) 0 2 := ⟨⟨TX2, 4, cp2⟩, w_652, w_653, w_57, w_654, by decide, by decide, by decide +kernel⟩
theorem mi_X3_shareByThree : MI yX3_shareByThree cX3_shareByThree 6 (some .boolean) 2 3 := ⟨⟨TX3, 8, cp3⟩, w_644, w_5, w_62, w_645, by decide, by decide, by decide +kernel⟩
theorem mi_X3_verdict : MI yX3_verdict cX3_verdict 2 (some .int) 1 3 := ⟨⟨TX3, 8, cp3⟩, w_625, w_626, w_62, w_627, by decide, by decide, by decide +kernel⟩
theorem mi_X3_wholeShare : MI yX3_wholeShare cX3_wholeShare 2 (some .long) 1 3 := ⟨⟨TX3, 8, cp3⟩, w_895, w_896, w_62, w_897, by decide, by decide, by decide +kernel⟩
theorem mi_X3_addMoment : MI yX3_addMoment cX3_addMoment 15 (none) 5 3 := ⟨⟨TX3, 8, cp3⟩, w_613, w_1, w_62, w_614, by decide, by decide, by decide +kernel⟩
theorem mi_X4_measure : MI yX4_measure cX4_measure 12 (none) 0 4 := ⟨⟨TX4, 11, cp4⟩, w_98, w_0, w_58, w_99, by decide, by decide, by decide +kernel⟩
theorem mi_X5_reweigh : MI yX5_reweigh cX5_reweigh 4 (none) 2 5 := ⟨⟨TX5, 10, cp5⟩, w_483, w_484, w_59, w_485, by decide, by decide, by decide +kernel⟩
theorem mi_X6_isMove : MI yX6_isMove cX6_isMove 2 (some .boolean) 1 6 := ⟨⟨TX6, 3, cp6⟩, w_848, w_849, w_65, w_850, by decide, by decide, by decide +kernel⟩
theorem mi_J7_fill_53178 : MS yJ7_fill_53178 cJ7_fill_53178 4 (none) 2 := ⟨w_216, w_61, w_217, by decide, by decide, by decide +kernel⟩
theorem mi_X7_spread : MI yX7_spread cX7_spread 7 (some .boolean) 0 7 := ⟨⟨TX7, 3, cp7⟩, w_722, w_7, w_63, w_723, by decide, by decide, by decide +kernel⟩
theorem mi_J7_fill_d0a16 : MS yJ7_fill_d0a16 cJ7_fill_d0a16 5 (none) 2 := ⟨w_941, w_61, w_942, by decide, by decide, by decide +kernel⟩
theorem mi_X9_spells : MI yX9_spells cX9_spells 4 (some .boolean) 2 9 := ⟨⟨TX9, 3, cp9⟩, w_756, w_9, w_64, w_757, by decide, by decide, by decide +kernel⟩
theorem mi_X11_within : MS yX11_within cX11_within 3 (some .boolean) 3 := ⟨w_465, w_56, w_466, by decide, by decide, by decide +kernel⟩
theorem mi_X11_fitsDial : MS yX11_fitsDial cX11_fitsDial 2 (some .boolean) 2 := ⟨w_503, w_56, w_504, by decide, by decide, by decide +kernel⟩
theorem mi_X6_append : MI yX6_append cX6_append 3 (none) 2 6 := ⟨⟨TX6, 3, cp6⟩, w_807, w_808, w_65, w_809, by decide, by decide, by decide +kernel⟩
theorem mi_X9_dialOfWord : MI yX9_dialOfWord cX9_dialOfWord 2 (some .int) 1 9 := ⟨⟨TX9, 3, cp9⟩, w_812, w_10, w_64, w_813, by decide, by decide, by decide +kernel⟩
theorem mi_X9_readNumber : MI yX9_readNumber cX9_readNumber 6 (some .int) 2 9 := ⟨⟨TX9, 3, cp9⟩, w_820, w_11, w_64, w_821, by decide, by decide, by decide +kernel⟩
theorem mi_X9_readStep : MI yX9_readStep cX9_readStep 4 (some .int) 1 9 := ⟨⟨TX9, 3, cp9⟩, w_751, w_8, w_64, w_752, by decide, by decide, by decide +kernel⟩
theorem mi_X10_meet : MI yX10_meet cX10_meet 5 (none) 3 10 := ⟨⟨TX10, 5, cp10⟩, w_842, w_12, w_66, w_843, by decide, by decide, by decide +kernel⟩
theorem mi_X2_approach : MI yX2_approach cX2_approach 5 (none) 2 2 := ⟨⟨TX2, 4, cp2⟩, w_852, w_853, w_57, w_854, by decide, by decide, by decide +kernel⟩
theorem mi_X11_isPad : MS yX11_isPad cX11_isPad 1 (some .boolean) 1 := ⟨w_462, w_56, w_463, by decide, by decide, by decide +kernel⟩
theorem mi_X4_place : MI yX4_place cX4_place 5 (none) 4 4 := ⟨⟨TX4, 11, cp4⟩, w_468, w_469, w_58, w_470, by decide, by decide, by decide +kernel⟩
theorem mi_X11_isMass : MS yX11_isMass cX11_isMass 1 (some .boolean) 1 := ⟨w_476, w_56, w_477, by decide, by decide, by decide +kernel⟩
theorem mi_X5_append : MI yX5_append cX5_append 6 (some .int) 4 5 := ⟨⟨TX5, 10, cp5⟩, w_479, w_480, w_59, w_481, by decide, by decide, by decide +kernel⟩
theorem mi_X5_has : MI yX5_has cX5_has 2 (some .boolean) 1 5 := ⟨⟨TX5, 10, cp5⟩, w_491, w_492, w_59, w_493, by decide, by decide, by decide +kernel⟩
theorem mi_X11_isDial : MS yX11_isDial cX11_isDial 1 (some .boolean) 1 := ⟨w_500, w_56, w_501, by decide, by decide, by decide +kernel⟩
theorem mi_X11_isChart : MS yX11_isChart cX11_isChart 1 (some .boolean) 1 := ⟨w_523, w_56, w_524, by decide, by decide, by decide +kernel⟩
theorem mi_X1_write : MI yX1_write cX1_write 3 (none) 2 1 := ⟨⟨TX1, 2, cp1⟩, w_530, w_531, w_60, w_532, by decide, by decide, by decide +kernel⟩
theorem mi_X11_commonDivisor : MS yX11_commonDivisor cX11_commonDivisor 11 (some .long) 2 := ⟨w_591, w_56, w_592, by decide, by decide, by decide +kernel⟩
theorem mi_X11_isSide : MS yX11_isSide cX11_isSide 1 (some .boolean) 1 := ⟨w_582, w_56, w_583, by decide, by decide, by decide +kernel⟩
theorem mi_X11_inLowestTerms : MS yX11_inLowestTerms cX11_inLowestTerms 7 (some .long) 3 := ⟨w_585, w_56, w_586, by decide, by decide, by decide +kernel⟩
theorem mi_X3_splitMoments : MI yX3_splitMoments cX3_splitMoments 14 (none) 2 3 := ⟨⟨TX3, 8, cp3⟩, w_608, w_609, w_62, w_610, by decide, by decide, by decide +kernel⟩
theorem mi_X3_finds : MI yX3_finds cX3_finds 3 (some .boolean) 1 3 := ⟨⟨TX3, 8, cp3⟩, w_621, w_622, w_62, w_623, by decide, by decide, by decide +kernel⟩
theorem mi_X2_become : MI yX2_become cX2_become 3 (none) 1 2 := ⟨⟨TX2, 4, cp2⟩, w_674, w_675, w_57, w_676, by decide, by decide, by decide +kernel⟩
theorem mi_X3_lawfulDirections : MI yX3_lawfulDirections cX3_lawfulDirections 5 (some .int) 2 3 := ⟨⟨TX3, 8, cp3⟩, w_700, w_701, w_62, w_702, by decide, by decide, by decide +kernel⟩
theorem mi_X7_begin : MI yX7_begin cX7_begin 3 (none) 2 7 := ⟨⟨TX7, 3, cp7⟩, w_712, w_713, w_63, w_714, by decide, by decide, by decide +kernel⟩
theorem mi_X7_movesTo : MI yX7_movesTo cX7_movesTo 5 (some .int) 2 7 := ⟨⟨TX7, 3, cp7⟩, w_717, w_718, w_63, w_719, by decide, by decide, by decide +kernel⟩
theorem mi_X9_append : MI yX9_append cX9_append 2 (some .int) 1 9 := ⟨⟨TX9, 3, cp9⟩, w_734, w_735, w_64, w_736, by decide, by decide, by decide +kernel⟩
theorem mi_X9_readInto : MI yX9_readInto cX9_readInto 4 (some .int) 1 9 := ⟨⟨TX9, 3, cp9⟩, w_746, w_747, w_64, w_748, by decide, by decide, by decide +kernel⟩
theorem mi_X6_become : MI yX6_become cX6_become 2 (none) 1 6 := ⟨⟨TX6, 3, cp6⟩, w_827, w_828, w_65, w_829, by decide, by decide, by decide +kernel⟩
theorem mi_X10_go : MI yX10_go cX10_go 8 (none) 3 10 := ⟨⟨TX10, 5, cp10⟩, w_836, w_837, w_66, w_838, by decide, by decide, by decide +kernel⟩
theorem mi_X6_onlyMoves : MI yX6_onlyMoves cX6_onlyMoves 2 (some .boolean) 0 6 := ⟨⟨TX6, 3, cp6⟩, w_871, w_872, w_65, w_873, by decide, by decide, by decide +kernel⟩
theorem mi_X6_turnBack : MI yX6_turnBack cX6_turnBack 5 (none) 2 6 := ⟨⟨TX6, 3, cp6⟩, w_876, w_877, w_65, w_878, by decide, by decide, by decide +kernel⟩
theorem mi_X11_isList : MS yX11_isList cX11_isList 1 (some .boolean) 1 := ⟨w_884, w_56, w_885, by decide, by decide, by decide +kernel⟩
theorem mi_X8_holds : MI yX8_holds cX8_holds 2 (some .boolean) 1 8 := ⟨⟨TX8, 2, cp8⟩, w_887, w_888, w_68, w_889, by decide, by decide, by decide +kernel⟩
theorem mi_X3_sharesAre : MI yX3_sharesAre cX3_sharesAre 4 (some .boolean) 2 3 := ⟨⟨TX3, 8, cp3⟩, w_891, w_892, w_62, w_893, by decide, by decide, by decide +kernel⟩
theorem mi_X0_keep : MI yX0_keep cX0_keep 4 (some .int) 3 0 := ⟨⟨TX0, 4, cp0⟩, w_908, w_909, w_67, w_910, by decide, by decide, by decide +kernel⟩
theorem mi_X11_mayBeAsBooked : MI yX11_mayBeAsBooked cX11_mayBeAsBooked 2 (some .boolean) 1 11 := ⟨⟨TX11, 12, cp11⟩, w_922, w_14, w_56, w_923, by decide, by decide, by decide +kernel⟩
theorem mi_X0_withMost : MI yX0_withMost cX0_withMost 4 (some .int) 0 0 := ⟨⟨TX0, 4, cp0⟩, w_929, w_930, w_67, w_931, by decide, by decide, by decide +kernel⟩
theorem mi_X8_begin : MI yX8_begin cX8_begin 3 (none) 2 8 := ⟨⟨TX8, 2, cp8⟩, w_937, w_938, w_68, w_939, by decide, by decide, by decide +kernel⟩
theorem mi_X8_hasPlace : MI yX8_hasPlace cX8_hasPlace 3 (some .boolean) 2 8 := ⟨⟨TX8, 2, cp8⟩, w_948, w_949, w_68, w_950, by decide, by decide, by decide +kernel⟩
theorem mi_X12_divisor : MS yX12_divisor cX12_divisor 10 (some .long) 2 := ⟨w_1239, w_69, w_1240, by decide, by decide, by decide +kernel⟩
theorem mi_X12_in : MS yX12_in cX12_in 3 (some .boolean) 3 := ⟨w_1105, w_69, w_1106, by decide, by decide, by decide +kernel⟩
theorem mi_X12_x : MI yX12_x cX12_x 2 (some .int) 1 12 := ⟨⟨TX12, 41, cp12⟩, w_1113, w_16, w_69, w_1114, by decide, by decide, by decide +kernel⟩
theorem mi_X12_y : MI yX12_y cX12_y 2 (some .int) 1 12 := ⟨⟨TX12, 41, cp12⟩, w_1117, w_17, w_69, w_1118, by decide, by decide, by decide +kernel⟩
theorem mi_X12_isPad : MS yX12_isPad cX12_isPad 1 (some .boolean) 1 := ⟨w_1102, w_69, w_1103, by decide, by decide, by decide +kernel⟩
theorem mi_X12_stands : MI yX12_stands cX12_stands 3 (some .boolean) 0 12 := ⟨⟨TX12, 41, cp12⟩, w_1109, w_15, w_69, w_1110, by decide, by decide, by decide +kernel⟩
theorem mi_X12_isPartOf : MI yX12_isPartOf cX12_isPartOf 2 (some .boolean) 1 12 := ⟨⟨TX12, 41, cp12⟩, w_1129, w_18, w_69, w_1130, by decide, by decide, by decide +kernel⟩
theorem mi_X12_most : MS yX12_most cX12_most 1 (some .int) 1 := ⟨w_1142, w_69, w_1143, by decide, by decide, by decide +kernel⟩
theorem mi_X12_isWhat : MS yX12_isWhat cX12_isWhat 1 (some .boolean) 1 := ⟨w_1136, w_69, w_1137, by decide, by decide, by decide +kernel⟩
theorem mi_X12_isFor : MS yX12_isFor cX12_isFor 2 (some .boolean) 2 := ⟨w_1139, w_69, w_1140, by decide, by decide, by decide +kernel⟩
theorem mi_X12_isChart : MS yX12_isChart cX12_isChart 1 (some .boolean) 1 := ⟨w_1158, w_69, w_1159, by decide, by decide, by decide +kernel⟩
theorem mi_X12_isReach : MS yX12_isReach cX12_isReach 1 (some .boolean) 1 := ⟨w_1161, w_69, w_1162, by decide, by decide, by decide +kernel⟩
theorem mi_X12_placeOf : MI yX12_placeOf cX12_placeOf 4 (some .int) 2 12 := ⟨⟨TX12, 41, cp12⟩, w_1165, w_19, w_69, w_1166, by decide, by decide, by decide +kernel⟩
theorem mi_X12_isThere : MI yX12_isThere cX12_isThere 4 (some .boolean) 3 12 := ⟨⟨TX12, 41, cp12⟩, w_1169, w_20, w_69, w_1170, by decide, by decide, by decide +kernel⟩
theorem mi_X12_comes : MI yX12_comes cX12_comes 5 (none) 3 12 := ⟨⟨TX12, 41, cp12⟩, w_1177, w_22, w_69, w_1178, by decide, by decide, by decide +kernel⟩
theorem mi_X12_goes : MI yX12_goes cX12_goes 4 (none) 2 12 := ⟨⟨TX12, 41, cp12⟩, w_1173, w_21, w_69, w_1174, by decide, by decide, by decide +kernel⟩
theorem mi_X12_readOf : MI yX12_readOf cX12_readOf 5 (some .int) 2 12 := ⟨⟨TX12, 41, cp12⟩, w_1185, w_23, w_69, w_1186, by decide, by decide, by decide +kernel⟩
theorem mi_X12_isDirection : MS yX12_isDirection cX12_isDirection 1 (some .boolean) 1 := ⟨w_1192, w_69, w_1193, by decide, by decide, by decide +kernel⟩
theorem mi_X12_allowedAt : MI yX12_allowedAt cX12_allowedAt 4 (some .int) 2 12 := ⟨⟨TX12, 41, cp12⟩, w_1196, w_24, w_69, w_1197, by decide, by decide, by decide +kernel⟩
theorem mi_X12_plainCos : MS yX12_plainCos cX12_plainCos 1 (some .int) 1 := ⟨w_1211, w_69, w_1212, by decide, by decide, by decide +kernel⟩
theorem mi_X12_plainSin : MS yX12_plainSin cX12_plainSin 1 (some .int) 1 := ⟨w_1214, w_69, w_1215, by decide, by decide, by decide +kernel⟩
theorem mi_X12_cos : MS yX12_cos cX12_cos 1 (some .int) 1 := ⟨w_1208, w_69, w_1209, by decide, by decide, by decide +kernel⟩
theorem mi_X12_sin : MS yX12_sin cX12_sin 1 (some .int) 1 := ⟨w_1217, w_69, w_1218, by decide, by decide, by decide +kernel⟩
theorem mi_X12_lays : MI yX12_lays cX12_lays 6 (none) 3 12 := ⟨⟨TX12, 41, cp12⟩, w_1221, w_26, w_69, w_1222, by decide, by decide, by decide +kernel⟩
theorem mi_X12_momentOf : MI yX12_momentOf cX12_momentOf 7 (some .long) 2 12 := ⟨⟨TX12, 41, cp12⟩, w_1251, w_29, w_69, w_1252, by decide, by decide, by decide +kernel⟩
theorem mi_X12_looks : MI yX12_looks cX12_looks 4 (none) 0 12 := ⟨⟨TX12, 41, cp12⟩, w_1205, w_25, w_69, w_1206, by decide, by decide, by decide +kernel⟩
theorem mi_X12_sum : MI yX12_sum cX12_sum 5 (some .long) 1 12 := ⟨⟨TX12, 41, cp12⟩, w_1225, w_27, w_69, w_1226, by decide, by decide, by decide +kernel⟩
theorem mi_X12_isPart : MS yX12_isPart cX12_isPart 1 (some .boolean) 1 := ⟨w_1232, w_69, w_1233, by decide, by decide, by decide +kernel⟩
theorem mi_X12_part : MS yX12_part cX12_part 5 (some .long) 3 := ⟨w_1236, w_69, w_1237, by decide, by decide, by decide +kernel⟩
theorem mi_X12_moments : MI yX12_moments cX12_moments 8 (some .long) 2 12 := ⟨⟨TX12, 41, cp12⟩, w_1247, w_28, w_69, w_1248, by decide, by decide, by decide +kernel⟩
theorem mi_X12_determinant : MS yX12_determinant cX12_determinant 18 (some .long) 9 := ⟨w_1274, w_69, w_1275, by decide, by decide, by decide +kernel⟩
theorem mi_X12_tips : MI yX12_tips cX12_tips 2 (some .boolean) 0 12 := ⟨⟨TX12, 41, cp12⟩, w_1267, w_31, w_69, w_1268, by decide, by decide, by decide +kernel⟩
theorem mi_X12_plane : MI yX12_plane cX12_plane 29 (none) 1 12 := ⟨⟨TX12, 41, cp12⟩, w_1271, w_32, w_69, w_1272, by decide, by decide, by decide +kernel⟩
theorem mi_X12_least : MI yX12_least cX12_least 3 (some .int) 0 12 := ⟨⟨TX12, 41, cp12⟩, w_1278, w_33, w_69, w_1279, by decide, by decide, by decide +kernel⟩
theorem mi_X12_pushes : MI yX12_pushes cX12_pushes 1 (some .int) 0 12 := ⟨⟨TX12, 41, cp12⟩, w_1263, w_30, w_69, w_1264, by decide, by decide, by decide +kernel⟩
theorem mi_X12_isAboveLimit : MI yX12_isAboveLimit cX12_isAboveLimit 2 (some .boolean) 0 12 := ⟨⟨TX12, 41, cp12⟩, w_1298, w_35, w_69, w_1299, by decide, by decide, by decide +kernel⟩
theorem mi_X12_spareNow : MI yX12_spareNow cX12_spareNow 1 (some .int) 0 12 := ⟨⟨TX12, 41, cp12⟩, w_1302, w_36, w_69, w_1303, by decide, by decide, by decide +kernel⟩
theorem mi_X12_whyNow : MI yX12_whyNow cX12_whyNow 2 (some .int) 0 12 := ⟨⟨TX12, 41, cp12⟩, w_1294, w_34, w_69, w_1295, by decide, by decide, by decide +kernel⟩
theorem mi_X12_may : MI yX12_may cX12_may 1 (some .boolean) 0 12 := ⟨⟨TX12, 41, cp12⟩, w_1310, w_37, w_69, w_1311, by decide, by decide, by decide +kernel⟩
theorem mi_X12_mayAt : MI yX12_mayAt cX12_mayAt 6 (some .boolean) 2 12 := ⟨⟨TX12, 41, cp12⟩, w_1318, w_38, w_69, w_1319, by decide, by decide, by decide +kernel⟩
theorem mi_X12_comesTo : MI yX12_comesTo cX12_comesTo 5 (none) 3 12 := ⟨⟨TX12, 41, cp12⟩, w_1330, w_39, w_69, w_1331, by decide, by decide, by decide +kernel⟩
theorem mi_X12_here : MI yX12_here cX12_here 1 (some .int) 0 12 := ⟨⟨TX12, 41, cp12⟩, w_1358, w_42, w_69, w_1359, by decide, by decide, by decide +kernel⟩
theorem mi_X12_whatOf : MS yX12_whatOf cX12_whatOf 1 (some .int) 1 := ⟨w_1375, w_69, w_1376, by decide, by decide, by decide +kernel⟩
theorem mi_X12_word : MS yX12_word cX12_word 1 (some (.object "java/lang/String")) 1 := ⟨w_1361, w_69, w_1362, by decide, by decide, by decide +kernel⟩
theorem mi_X12_isWord : MI yX12_isWord cX12_isWord 4 (some .boolean) 2 12 := ⟨⟨TX12, 41, cp12⟩, w_1370, w_43, w_69, w_1371, by decide, by decide, by decide +kernel⟩
theorem mi_X12_readStep : MI yX12_readStep cX12_readStep 6 (some .int) 1 12 := ⟨⟨TX12, 41, cp12⟩, w_1354, w_41, w_69, w_1355, by decide, by decide, by decide +kernel⟩
theorem mi_X12_reads : MI yX12_reads cX12_reads 4 (some .int) 0 12 := ⟨⟨TX12, 41, cp12⟩, w_1350, w_40, w_69, w_1351, by decide, by decide, by decide +kernel⟩
theorem mi_X12_looksAt : MI yX12_looksAt cX12_looksAt 3 (none) 1 12 := ⟨⟨TX12, 41, cp12⟩, w_1399, w_48, w_69, w_1400, by decide, by decide, by decide +kernel⟩
theorem mi_X12_reaches : MI yX12_reaches cX12_reaches 3 (none) 2 12 := ⟨⟨TX12, 41, cp12⟩, w_1412, w_51, w_69, w_1413, by decide, by decide, by decide +kernel⟩
theorem mi_X12_slews : MI yX12_slews cX12_slews 5 (none) 2 12 := ⟨⟨TX12, 41, cp12⟩, w_1408, w_50, w_69, w_1409, by decide, by decide, by decide +kernel⟩
theorem mi_X12_begins : MI yX12_begins cX12_begins 1 (none) 0 12 := ⟨⟨TX12, 41, cp12⟩, w_1395, w_47, w_69, w_1396, by decide, by decide, by decide +kernel⟩
theorem mi_X12_goesStep : MI yX12_goesStep cX12_goesStep 2 (none) 1 12 := ⟨⟨TX12, 41, cp12⟩, w_1404, w_49, w_69, w_1405, by decide, by decide, by decide +kernel⟩
theorem mi_X12_remembers : MI yX12_remembers cX12_remembers 2 (none) 0 12 := ⟨⟨TX12, 41, cp12⟩, w_1387, w_45, w_69, w_1388, by decide, by decide, by decide +kernel⟩
theorem mi_X12_goesAll : MI yX12_goesAll cX12_goesAll 2 (none) 0 12 := ⟨⟨TX12, 41, cp12⟩, w_1391, w_46, w_69, w_1392, by decide, by decide, by decide +kernel⟩
theorem mi_X12_returns : MI yX12_returns cX12_returns 2 (none) 0 12 := ⟨⟨TX12, 41, cp12⟩, w_1416, w_52, w_69, w_1417, by decide, by decide, by decide +kernel⟩
theorem mi_X12_checks : MI yX12_checks cX12_checks 1 (none) 0 12 := ⟨⟨TX12, 41, cp12⟩, w_1383, w_44, w_69, w_1384, by decide, by decide, by decide +kernel⟩
theorem mi_X12_isList : MS yX12_isList cX12_isList 1 (some .boolean) 1 := ⟨w_1435, w_69, w_1436, by decide, by decide, by decide +kernel⟩
theorem mi_X12_isSeen : MI yX12_isSeen cX12_isSeen 3 (some .boolean) 1 12 := ⟨⟨TX12, 41, cp12⟩, w_1440, w_53, w_69, w_1441, by decide, by decide, by decide +kernel⟩
theorem mi_X12_mayLift : MI yX12_mayLift cX12_mayLift 4 (some .boolean) 1 12 := ⟨⟨TX12, 41, cp12⟩, w_1468, w_54, w_69, w_1469, by decide, by decide, by decide +kernel⟩
theorem mg_max : Cond.static Lib.Math.max.name ∈ GG ∧ Cond.initialized "java/lang/Math" ∈ GG ∧ Cond.code Lib.Math.max.name Lib.Math.max.code 2 (some .int) ∈ GG := ⟨w_552, w_70, w_553⟩
theorem mg_min : Cond.static Lib.Math.min.name ∈ GG ∧ Cond.initialized "java/lang/Math" ∈ GG ∧ Cond.code Lib.Math.min.name Lib.Math.min.code 2 (some .int) ∈ GG := ⟨w_823, w_70, w_824⟩
theorem mg_abs : Cond.static Lib.MathLoose.abs_long.x ∈ GG ∧ Cond.initialized "java/lang/Math" ∈ GG ∧ Cond.code Lib.MathLoose.abs_long.x Lib.MathLoose.abs_long.code 2 (some .long) ∈ GG := ⟨w_588, w_70, w_589⟩
theorem mi_check3 : MS yJ3_checkIndex_8e157 cJ3_checkIndex_8e157 3 (some .int) 3 := ⟨w_785, w_74, w_786, by decide, by decide, by decide +kernel⟩
theorem mi_check0 : MS yJ0_checkIndex_df160 cJ0_checkIndex_df160 2 (none) 2 := ⟨w_780, w_72, w_781, by decide, by decide, by decide +kernel⟩
theorem mi_lat : MS yJ1_charAt_3b067 cJ1_charAt_3b067 2 (some .char) 2 := ⟨w_777, w_73, w_778, by decide, by decide, by decide +kernel⟩
