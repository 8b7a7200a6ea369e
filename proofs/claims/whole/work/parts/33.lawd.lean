theorem w_458 : (Jvm.Cond.instanceMethod ({ cls := "CranePads", name := "pad", desc := "(IIII)I" } : Jvm.MethodName)) ∈ GG := gg_mem 458 (by decide +kernel) rfl
theorem w_459 : (Jvm.Cond.selects "CranePads" ({ cls := "CranePads", name := "pad", desc := "(IIII)I" } : Jvm.MethodName) ({ cls := "CranePads", name := "pad", desc := "(IIII)I" } : Jvm.MethodName)) ∈ GG := gg_mem 459 (by decide +kernel) rfl
theorem w_460 : (Jvm.Cond.code ({ cls := "CranePads", name := "pad", desc := "(IIII)I" } : Jvm.MethodName) prog_1_method_2_code (5 : Nat) (Option.some Jvm.ClassFile.FieldType.int)) ∈ GG := gg_mem 460 (by decide +kernel) rfl
theorem w_457 : (Jvm.Cond.methodLink "CranePadsLaw" (13 : Nat) ({ cls := "CranePads", name := "pad", desc := "(IIII)I" } : Jvm.MethodName)) ∈ GG := gg_mem 457 (by decide +kernel) rfl
theorem w_1098 : (Jvm.Cond.instanceMethod ({ cls := "CranePadsModel", name := "pad", desc := "(IIII)I" } : Jvm.MethodName)) ∈ GG := gg_mem 1098 (by decide +kernel) rfl
theorem w_1099 : (Jvm.Cond.selects "CranePadsModel" ({ cls := "CranePadsModel", name := "pad", desc := "(IIII)I" } : Jvm.MethodName) ({ cls := "CranePadsModel", name := "pad", desc := "(IIII)I" } : Jvm.MethodName)) ∈ GG := gg_mem 1099 (by decide +kernel) rfl
theorem w_1100 : (Jvm.Cond.code ({ cls := "CranePadsModel", name := "pad", desc := "(IIII)I" } : Jvm.MethodName) prog_14_method_10_code (5 : Nat) (Option.some Jvm.ClassFile.FieldType.int)) ∈ GG := gg_mem 1100 (by decide +kernel) rfl
theorem w_1097 : (Jvm.Cond.methodLink "CranePadsLaw" (17 : Nat) ({ cls := "CranePadsModel", name := "pad", desc := "(IIII)I" } : Jvm.MethodName)) ∈ GG := gg_mem 1097 (by decide +kernel) rfl
theorem w_472 : (Jvm.Cond.instanceMethod ({ cls := "CranePads", name := "part", desc := "(IIIZ)I" } : Jvm.MethodName)) ∈ GG := gg_mem 472 (by decide +kernel) rfl
theorem w_473 : (Jvm.Cond.selects "CranePads" ({ cls := "CranePads", name := "part", desc := "(IIIZ)I" } : Jvm.MethodName) ({ cls := "CranePads", name := "part", desc := "(IIIZ)I" } : Jvm.MethodName)) ∈ GG := gg_mem 473 (by decide +kernel) rfl
theorem w_474 : (Jvm.Cond.code ({ cls := "CranePads", name := "part", desc := "(IIIZ)I" } : Jvm.MethodName) prog_1_method_3_code (5 : Nat) (Option.some Jvm.ClassFile.FieldType.int)) ∈ GG := gg_mem 474 (by decide +kernel) rfl
theorem w_471 : (Jvm.Cond.methodLink "CranePadsLaw" (18 : Nat) ({ cls := "CranePads", name := "part", desc := "(IIIZ)I" } : Jvm.MethodName)) ∈ GG := gg_mem 471 (by decide +kernel) rfl
theorem w_1120 : (Jvm.Cond.instanceMethod ({ cls := "CranePadsModel", name := "part", desc := "(IIIZ)I" } : Jvm.MethodName)) ∈ GG := gg_mem 1120 (by decide +kernel) rfl
theorem w_1121 : (Jvm.Cond.selects "CranePadsModel" ({ cls := "CranePadsModel", name := "part", desc := "(IIIZ)I" } : Jvm.MethodName) ({ cls := "CranePadsModel", name := "part", desc := "(IIIZ)I" } : Jvm.MethodName)) ∈ GG := gg_mem 1121 (by decide +kernel) rfl
theorem w_1122 : (Jvm.Cond.code ({ cls := "CranePadsModel", name := "part", desc := "(IIIZ)I" } : Jvm.MethodName) prog_14_method_11_code (5 : Nat) (Option.some Jvm.ClassFile.FieldType.int)) ∈ GG := gg_mem 1122 (by decide +kernel) rfl
theorem w_1119 : (Jvm.Cond.methodLink "CranePadsLaw" (22 : Nat) ({ cls := "CranePadsModel", name := "part", desc := "(IIIZ)I" } : Jvm.MethodName)) ∈ GG := gg_mem 1119 (by decide +kernel) rfl
theorem w_487 : (Jvm.Cond.instanceMethod ({ cls := "CranePads", name := "mass", desc := "(II)I" } : Jvm.MethodName)) ∈ GG := gg_mem 487 (by decide +kernel) rfl
theorem w_488 : (Jvm.Cond.selects "CranePads" ({ cls := "CranePads", name := "mass", desc := "(II)I" } : Jvm.MethodName) ({ cls := "CranePads", name := "mass", desc := "(II)I" } : Jvm.MethodName)) ∈ GG := gg_mem 488 (by decide +kernel) rfl
theorem w_489 : (Jvm.Cond.code ({ cls := "CranePads", name := "mass", desc := "(II)I" } : Jvm.MethodName) prog_1_method_4_code (4 : Nat) (Option.some Jvm.ClassFile.FieldType.int)) ∈ GG := gg_mem 489 (by decide +kernel) rfl
theorem w_486 : (Jvm.Cond.methodLink "CranePadsLaw" (23 : Nat) ({ cls := "CranePads", name := "mass", desc := "(II)I" } : Jvm.MethodName)) ∈ GG := gg_mem 486 (by decide +kernel) rfl
theorem w_1124 : (Jvm.Cond.instanceMethod ({ cls := "CranePadsModel", name := "mass", desc := "(II)I" } : Jvm.MethodName)) ∈ GG := gg_mem 1124 (by decide +kernel) rfl
theorem w_1125 : (Jvm.Cond.selects "CranePadsModel" ({ cls := "CranePadsModel", name := "mass", desc := "(II)I" } : Jvm.MethodName) ({ cls := "CranePadsModel", name := "mass", desc := "(II)I" } : Jvm.MethodName)) ∈ GG := gg_mem 1125 (by decide +kernel) rfl
theorem w_1126 : (Jvm.Cond.code ({ cls := "CranePadsModel", name := "mass", desc := "(II)I" } : Jvm.MethodName) prog_14_method_13_code (4 : Nat) (Option.some Jvm.ClassFile.FieldType.int)) ∈ GG := gg_mem 1126 (by decide +kernel) rfl
theorem w_1123 : (Jvm.Cond.methodLink "CranePadsLaw" (27 : Nat) ({ cls := "CranePadsModel", name := "mass", desc := "(II)I" } : Jvm.MethodName)) ∈ GG := gg_mem 1123 (by decide +kernel) rfl
theorem w_496 : (Jvm.Cond.instanceMethod ({ cls := "CranePads", name := "put", desc := "(II)I" } : Jvm.MethodName)) ∈ GG := gg_mem 496 (by decide +kernel) rfl
theorem w_497 : (Jvm.Cond.selects "CranePads" ({ cls := "CranePads", name := "put", desc := "(II)I" } : Jvm.MethodName) ({ cls := "CranePads", name := "put", desc := "(II)I" } : Jvm.MethodName)) ∈ GG := gg_mem 497 (by decide +kernel) rfl
theorem w_498 : (Jvm.Cond.code ({ cls := "CranePads", name := "put", desc := "(II)I" } : Jvm.MethodName) prog_1_method_5_code (4 : Nat) (Option.some Jvm.ClassFile.FieldType.int)) ∈ GG := gg_mem 498 (by decide +kernel) rfl
theorem w_495 : (Jvm.Cond.methodLink "CranePadsLaw" (28 : Nat) ({ cls := "CranePads", name := "put", desc := "(II)I" } : Jvm.MethodName)) ∈ GG := gg_mem 495 (by decide +kernel) rfl
theorem w_1132 : (Jvm.Cond.instanceMethod ({ cls := "CranePadsModel", name := "put", desc := "(II)I" } : Jvm.MethodName)) ∈ GG := gg_mem 1132 (by decide +kernel) rfl
theorem w_1133 : (Jvm.Cond.selects "CranePadsModel" ({ cls := "CranePadsModel", name := "put", desc := "(II)I" } : Jvm.MethodName) ({ cls := "CranePadsModel", name := "put", desc := "(II)I" } : Jvm.MethodName)) ∈ GG := gg_mem 1133 (by decide +kernel) rfl
theorem w_1134 : (Jvm.Cond.code ({ cls := "CranePadsModel", name := "put", desc := "(II)I" } : Jvm.MethodName) prog_14_method_17_code (4 : Nat) (Option.some Jvm.ClassFile.FieldType.int)) ∈ GG := gg_mem 1134 (by decide +kernel) rfl
theorem w_1131 : (Jvm.Cond.methodLink "CranePadsLaw" (31 : Nat) ({ cls := "CranePadsModel", name := "put", desc := "(II)I" } : Jvm.MethodName)) ∈ GG := gg_mem 1131 (by decide +kernel) rfl
theorem w_510 : (Jvm.Cond.instanceMethod ({ cls := "CranePads", name := "told", desc := "(I)I" } : Jvm.MethodName)) ∈ GG := gg_mem 510 (by decide +kernel) rfl
theorem w_511 : (Jvm.Cond.selects "CranePads" ({ cls := "CranePads", name := "told", desc := "(I)I" } : Jvm.MethodName) ({ cls := "CranePads", name := "told", desc := "(I)I" } : Jvm.MethodName)) ∈ GG := gg_mem 511 (by decide +kernel) rfl
theorem w_512 : (Jvm.Cond.code ({ cls := "CranePads", name := "told", desc := "(I)I" } : Jvm.MethodName) prog_1_method_6_code (2 : Nat) (Option.some Jvm.ClassFile.FieldType.int)) ∈ GG := gg_mem 512 (by decide +kernel) rfl
theorem w_509 : (Jvm.Cond.methodLink "CranePadsLaw" (32 : Nat) ({ cls := "CranePads", name := "told", desc := "(I)I" } : Jvm.MethodName)) ∈ GG := gg_mem 509 (by decide +kernel) rfl
theorem w_1145 : (Jvm.Cond.instanceMethod ({ cls := "CranePadsModel", name := "told", desc := "(I)I" } : Jvm.MethodName)) ∈ GG := gg_mem 1145 (by decide +kernel) rfl
theorem w_1146 : (Jvm.Cond.selects "CranePadsModel" ({ cls := "CranePadsModel", name := "told", desc := "(I)I" } : Jvm.MethodName) ({ cls := "CranePadsModel", name := "told", desc := "(I)I" } : Jvm.MethodName)) ∈ GG := gg_mem 1146 (by decide +kernel) rfl
theorem w_1147 : (Jvm.Cond.code ({ cls := "CranePadsModel", name := "told", desc := "(I)I" } : Jvm.MethodName) prog_14_method_18_code (2 : Nat) (Option.some Jvm.ClassFile.FieldType.int)) ∈ GG := gg_mem 1147 (by decide +kernel) rfl
theorem w_1144 : (Jvm.Cond.methodLink "CranePadsLaw" (36 : Nat) ({ cls := "CranePadsModel", name := "told", desc := "(I)I" } : Jvm.MethodName)) ∈ GG := gg_mem 1144 (by decide +kernel) rfl
theorem w_514 : (Jvm.Cond.instanceMethod ({ cls := "CranePads", name := "padOf", desc := "(II)J" } : Jvm.MethodName)) ∈ GG := gg_mem 514 (by decide +kernel) rfl
theorem w_515 : (Jvm.Cond.selects "CranePads" ({ cls := "CranePads", name := "padOf", desc := "(II)J" } : Jvm.MethodName) ({ cls := "CranePads", name := "padOf", desc := "(II)J" } : Jvm.MethodName)) ∈ GG := gg_mem 515 (by decide +kernel) rfl
theorem w_516 : (Jvm.Cond.code ({ cls := "CranePads", name := "padOf", desc := "(II)J" } : Jvm.MethodName) prog_1_method_7_code (3 : Nat) (Option.some Jvm.ClassFile.FieldType.long)) ∈ GG := gg_mem 516 (by decide +kernel) rfl
theorem w_513 : (Jvm.Cond.methodLink "CranePadsLaw" (37 : Nat) ({ cls := "CranePads", name := "padOf", desc := "(II)J" } : Jvm.MethodName)) ∈ GG := gg_mem 513 (by decide +kernel) rfl
theorem w_1149 : (Jvm.Cond.instanceMethod ({ cls := "CranePadsModel", name := "padOf", desc := "(II)J" } : Jvm.MethodName)) ∈ GG := gg_mem 1149 (by decide +kernel) rfl
theorem w_1150 : (Jvm.Cond.selects "CranePadsModel" ({ cls := "CranePadsModel", name := "padOf", desc := "(II)J" } : Jvm.MethodName) ({ cls := "CranePadsModel", name := "padOf", desc := "(II)J" } : Jvm.MethodName)) ∈ GG := gg_mem 1150 (by decide +kernel) rfl
theorem w_1151 : (Jvm.Cond.code ({ cls := "CranePadsModel", name := "padOf", desc := "(II)J" } : Jvm.MethodName) prog_14_method_19_code (3 : Nat) (Option.some Jvm.ClassFile.FieldType.long)) ∈ GG := gg_mem 1151 (by decide +kernel) rfl
theorem w_1148 : (Jvm.Cond.methodLink "CranePadsLaw" (41 : Nat) ({ cls := "CranePadsModel", name := "padOf", desc := "(II)J" } : Jvm.MethodName)) ∈ GG := gg_mem 1148 (by decide +kernel) rfl
theorem w_519 : (Jvm.Cond.instanceMethod ({ cls := "CranePads", name := "entry", desc := "(III)I" } : Jvm.MethodName)) ∈ GG := gg_mem 519 (by decide +kernel) rfl
theorem w_520 : (Jvm.Cond.selects "CranePads" ({ cls := "CranePads", name := "entry", desc := "(III)I" } : Jvm.MethodName) ({ cls := "CranePads", name := "entry", desc := "(III)I" } : Jvm.MethodName)) ∈ GG := gg_mem 520 (by decide +kernel) rfl
theorem w_521 : (Jvm.Cond.code ({ cls := "CranePads", name := "entry", desc := "(III)I" } : Jvm.MethodName) prog_1_method_8_code (6 : Nat) (Option.some Jvm.ClassFile.FieldType.int)) ∈ GG := gg_mem 521 (by decide +kernel) rfl
theorem w_518 : (Jvm.Cond.methodLink "CranePadsLaw" (42 : Nat) ({ cls := "CranePads", name := "entry", desc := "(III)I" } : Jvm.MethodName)) ∈ GG := gg_mem 518 (by decide +kernel) rfl
theorem w_1154 : (Jvm.Cond.instanceMethod ({ cls := "CranePadsModel", name := "entry", desc := "(III)I" } : Jvm.MethodName)) ∈ GG := gg_mem 1154 (by decide +kernel) rfl
theorem w_1155 : (Jvm.Cond.selects "CranePadsModel" ({ cls := "CranePadsModel", name := "entry", desc := "(III)I" } : Jvm.MethodName) ({ cls := "CranePadsModel", name := "entry", desc := "(III)I" } : Jvm.MethodName)) ∈ GG := gg_mem 1155 (by decide +kernel) rfl
theorem w_1156 : (Jvm.Cond.code ({ cls := "CranePadsModel", name := "entry", desc := "(III)I" } : Jvm.MethodName) prog_14_method_26_code (6 : Nat) (Option.some Jvm.ClassFile.FieldType.int)) ∈ GG := gg_mem 1156 (by decide +kernel) rfl
theorem w_1153 : (Jvm.Cond.methodLink "CranePadsLaw" (46 : Nat) ({ cls := "CranePadsModel", name := "entry", desc := "(III)I" } : Jvm.MethodName)) ∈ GG := gg_mem 1153 (by decide +kernel) rfl
theorem w_535 : (Jvm.Cond.instanceMethod ({ cls := "CranePads", name := "read", desc := "(II)I" } : Jvm.MethodName)) ∈ GG := gg_mem 535 (by decide +kernel) rfl
theorem w_536 : (Jvm.Cond.selects "CranePads" ({ cls := "CranePads", name := "read", desc := "(II)I" } : Jvm.MethodName) ({ cls := "CranePads", name := "read", desc := "(II)I" } : Jvm.MethodName)) ∈ GG := gg_mem 536 (by decide +kernel) rfl
theorem w_537 : (Jvm.Cond.code ({ cls := "CranePads", name := "read", desc := "(II)I" } : Jvm.MethodName) prog_1_method_9_code (3 : Nat) (Option.some Jvm.ClassFile.FieldType.int)) ∈ GG := gg_mem 537 (by decide +kernel) rfl
theorem w_534 : (Jvm.Cond.methodLink "CranePadsLaw" (47 : Nat) ({ cls := "CranePads", name := "read", desc := "(II)I" } : Jvm.MethodName)) ∈ GG := gg_mem 534 (by decide +kernel) rfl
theorem w_1180 : (Jvm.Cond.instanceMethod ({ cls := "CranePadsModel", name := "read", desc := "(II)I" } : Jvm.MethodName)) ∈ GG := gg_mem 1180 (by decide +kernel) rfl
theorem w_1181 : (Jvm.Cond.selects "CranePadsModel" ({ cls := "CranePadsModel", name := "read", desc := "(II)I" } : Jvm.MethodName) ({ cls := "CranePadsModel", name := "read", desc := "(II)I" } : Jvm.MethodName)) ∈ GG := gg_mem 1181 (by decide +kernel) rfl
theorem w_1182 : (Jvm.Cond.code ({ cls := "CranePadsModel", name := "read", desc := "(II)I" } : Jvm.MethodName) prog_14_method_28_code (3 : Nat) (Option.some Jvm.ClassFile.FieldType.int)) ∈ GG := gg_mem 1182 (by decide +kernel) rfl
theorem w_1179 : (Jvm.Cond.methodLink "CranePadsLaw" (50 : Nat) ({ cls := "CranePadsModel", name := "read", desc := "(II)I" } : Jvm.MethodName)) ∈ GG := gg_mem 1179 (by decide +kernel) rfl
theorem w_543 : (Jvm.Cond.instanceMethod ({ cls := "CranePads", name := "allowed", desc := "(II)I" } : Jvm.MethodName)) ∈ GG := gg_mem 543 (by decide +kernel) rfl
theorem w_544 : (Jvm.Cond.selects "CranePads" ({ cls := "CranePads", name := "allowed", desc := "(II)I" } : Jvm.MethodName) ({ cls := "CranePads", name := "allowed", desc := "(II)I" } : Jvm.MethodName)) ∈ GG := gg_mem 544 (by decide +kernel) rfl
theorem w_545 : (Jvm.Cond.code ({ cls := "CranePads", name := "allowed", desc := "(II)I" } : Jvm.MethodName) prog_1_method_10_code (3 : Nat) (Option.some Jvm.ClassFile.FieldType.int)) ∈ GG := gg_mem 545 (by decide +kernel) rfl
theorem w_542 : (Jvm.Cond.methodLink "CranePadsLaw" (51 : Nat) ({ cls := "CranePads", name := "allowed", desc := "(II)I" } : Jvm.MethodName)) ∈ GG := gg_mem 542 (by decide +kernel) rfl
theorem w_1188 : (Jvm.Cond.instanceMethod ({ cls := "CranePadsModel", name := "allowed", desc := "(II)I" } : Jvm.MethodName)) ∈ GG := gg_mem 1188 (by decide +kernel) rfl
theorem w_1189 : (Jvm.Cond.selects "CranePadsModel" ({ cls := "CranePadsModel", name := "allowed", desc := "(II)I" } : Jvm.MethodName) ({ cls := "CranePadsModel", name := "allowed", desc := "(II)I" } : Jvm.MethodName)) ∈ GG := gg_mem 1189 (by decide +kernel) rfl
theorem w_1190 : (Jvm.Cond.code ({ cls := "CranePadsModel", name := "allowed", desc := "(II)I" } : Jvm.MethodName) prog_14_method_31_code (3 : Nat) (Option.some Jvm.ClassFile.FieldType.int)) ∈ GG := gg_mem 1190 (by decide +kernel) rfl
theorem w_1187 : (Jvm.Cond.methodLink "CranePadsLaw" (54 : Nat) ({ cls := "CranePadsModel", name := "allowed", desc := "(II)I" } : Jvm.MethodName)) ∈ GG := gg_mem 1187 (by decide +kernel) rfl
theorem w_555 : (Jvm.Cond.instanceMethod ({ cls := "CranePads", name := "weight", desc := "()I" } : Jvm.MethodName)) ∈ GG := gg_mem 555 (by decide +kernel) rfl
theorem w_556 : (Jvm.Cond.selects "CranePads" ({ cls := "CranePads", name := "weight", desc := "()I" } : Jvm.MethodName) ({ cls := "CranePads", name := "weight", desc := "()I" } : Jvm.MethodName)) ∈ GG := gg_mem 556 (by decide +kernel) rfl
theorem w_557 : (Jvm.Cond.code ({ cls := "CranePads", name := "weight", desc := "()I" } : Jvm.MethodName) prog_1_method_11_code (1 : Nat) (Option.some Jvm.ClassFile.FieldType.int)) ∈ GG := gg_mem 557 (by decide +kernel) rfl
theorem w_554 : (Jvm.Cond.methodLink "CranePadsLaw" (55 : Nat) ({ cls := "CranePads", name := "weight", desc := "()I" } : Jvm.MethodName)) ∈ GG := gg_mem 554 (by decide +kernel) rfl
theorem w_1200 : (Jvm.Cond.instanceMethod ({ cls := "CranePadsModel", name := "weight", desc := "()I" } : Jvm.MethodName)) ∈ GG := gg_mem 1200 (by decide +kernel) rfl
theorem w_1201 : (Jvm.Cond.selects "CranePadsModel" ({ cls := "CranePadsModel", name := "weight", desc := "()I" } : Jvm.MethodName) ({ cls := "CranePadsModel", name := "weight", desc := "()I" } : Jvm.MethodName)) ∈ GG := gg_mem 1201 (by decide +kernel) rfl
theorem w_1202 : (Jvm.Cond.code ({ cls := "CranePadsModel", name := "weight", desc := "()I" } : Jvm.MethodName) prog_14_method_41_code (1 : Nat) (Option.some Jvm.ClassFile.FieldType.int)) ∈ GG := gg_mem 1202 (by decide +kernel) rfl
theorem w_1199 : (Jvm.Cond.methodLink "CranePadsLaw" (59 : Nat) ({ cls := "CranePadsModel", name := "weight", desc := "()I" } : Jvm.MethodName)) ∈ GG := gg_mem 1199 (by decide +kernel) rfl
theorem w_567 : (Jvm.Cond.instanceMethod ({ cls := "CranePads", name := "centre", desc := "(II)J" } : Jvm.MethodName)) ∈ GG := gg_mem 567 (by decide +kernel) rfl
theorem w_568 : (Jvm.Cond.selects "CranePads" ({ cls := "CranePads", name := "centre", desc := "(II)J" } : Jvm.MethodName) ({ cls := "CranePads", name := "centre", desc := "(II)J" } : Jvm.MethodName)) ∈ GG := gg_mem 568 (by decide +kernel) rfl
theorem w_569 : (Jvm.Cond.code ({ cls := "CranePads", name := "centre", desc := "(II)J" } : Jvm.MethodName) prog_1_method_12_code (3 : Nat) (Option.some Jvm.ClassFile.FieldType.long)) ∈ GG := gg_mem 569 (by decide +kernel) rfl
theorem w_566 : (Jvm.Cond.methodLink "CranePadsLaw" (60 : Nat) ({ cls := "CranePads", name := "centre", desc := "(II)J" } : Jvm.MethodName)) ∈ GG := gg_mem 566 (by decide +kernel) rfl
theorem w_1228 : (Jvm.Cond.instanceMethod ({ cls := "CranePadsModel", name := "centre", desc := "(II)J" } : Jvm.MethodName)) ∈ GG := gg_mem 1228 (by decide +kernel) rfl
theorem w_1229 : (Jvm.Cond.selects "CranePadsModel" ({ cls := "CranePadsModel", name := "centre", desc := "(II)J" } : Jvm.MethodName) ({ cls := "CranePadsModel", name := "centre", desc := "(II)J" } : Jvm.MethodName)) ∈ GG := gg_mem 1229 (by decide +kernel) rfl
theorem w_1230 : (Jvm.Cond.code ({ cls := "CranePadsModel", name := "centre", desc := "(II)J" } : Jvm.MethodName) prog_14_method_42_code (3 : Nat) (Option.some Jvm.ClassFile.FieldType.long)) ∈ GG := gg_mem 1230 (by decide +kernel) rfl
theorem w_1227 : (Jvm.Cond.methodLink "CranePadsLaw" (63 : Nat) ({ cls := "CranePadsModel", name := "centre", desc := "(II)J" } : Jvm.MethodName)) ∈ GG := gg_mem 1227 (by decide +kernel) rfl
theorem w_594 : (Jvm.Cond.instanceMethod ({ cls := "CranePads", name := "moment", desc := "(II)J" } : Jvm.MethodName)) ∈ GG := gg_mem 594 (by decide +kernel) rfl
theorem w_595 : (Jvm.Cond.selects "CranePads" ({ cls := "CranePads", name := "moment", desc := "(II)J" } : Jvm.MethodName) ({ cls := "CranePads", name := "moment", desc := "(II)J" } : Jvm.MethodName)) ∈ GG := gg_mem 595 (by decide +kernel) rfl
theorem w_596 : (Jvm.Cond.code ({ cls := "CranePads", name := "moment", desc := "(II)J" } : Jvm.MethodName) prog_1_method_13_code (3 : Nat) (Option.some Jvm.ClassFile.FieldType.long)) ∈ GG := gg_mem 596 (by decide +kernel) rfl
theorem w_593 : (Jvm.Cond.methodLink "CranePadsLaw" (64 : Nat) ({ cls := "CranePads", name := "moment", desc := "(II)J" } : Jvm.MethodName)) ∈ GG := gg_mem 593 (by decide +kernel) rfl
theorem w_1242 : (Jvm.Cond.instanceMethod ({ cls := "CranePadsModel", name := "moment", desc := "(II)J" } : Jvm.MethodName)) ∈ GG := gg_mem 1242 (by decide +kernel) rfl
theorem w_1243 : (Jvm.Cond.selects "CranePadsModel" ({ cls := "CranePadsModel", name := "moment", desc := "(II)J" } : Jvm.MethodName) ({ cls := "CranePadsModel", name := "moment", desc := "(II)J" } : Jvm.MethodName)) ∈ GG := gg_mem 1243 (by decide +kernel) rfl
theorem w_1244 : (Jvm.Cond.code ({ cls := "CranePadsModel", name := "moment", desc := "(II)J" } : Jvm.MethodName) prog_14_method_43_code (3 : Nat) (Option.some Jvm.ClassFile.FieldType.long)) ∈ GG := gg_mem 1244 (by decide +kernel) rfl
theorem w_1241 : (Jvm.Cond.methodLink "CranePadsLaw" (67 : Nat) ({ cls := "CranePadsModel", name := "moment", desc := "(II)J" } : Jvm.MethodName)) ∈ GG := gg_mem 1241 (by decide +kernel) rfl
theorem w_604 : (Jvm.Cond.instanceMethod ({ cls := "CranePads", name := "factor", desc := "(II)J" } : Jvm.MethodName)) ∈ GG := gg_mem 604 (by decide +kernel) rfl
theorem w_605 : (Jvm.Cond.selects "CranePads" ({ cls := "CranePads", name := "factor", desc := "(II)J" } : Jvm.MethodName) ({ cls := "CranePads", name := "factor", desc := "(II)J" } : Jvm.MethodName)) ∈ GG := gg_mem 605 (by decide +kernel) rfl
theorem w_606 : (Jvm.Cond.code ({ cls := "CranePads", name := "factor", desc := "(II)J" } : Jvm.MethodName) prog_1_method_14_code (3 : Nat) (Option.some Jvm.ClassFile.FieldType.long)) ∈ GG := gg_mem 606 (by decide +kernel) rfl
theorem w_603 : (Jvm.Cond.methodLink "CranePadsLaw" (68 : Nat) ({ cls := "CranePads", name := "factor", desc := "(II)J" } : Jvm.MethodName)) ∈ GG := gg_mem 603 (by decide +kernel) rfl
theorem w_1254 : (Jvm.Cond.instanceMethod ({ cls := "CranePadsModel", name := "factor", desc := "(II)J" } : Jvm.MethodName)) ∈ GG := gg_mem 1254 (by decide +kernel) rfl
theorem w_1255 : (Jvm.Cond.selects "CranePadsModel" ({ cls := "CranePadsModel", name := "factor", desc := "(II)J" } : Jvm.MethodName) ({ cls := "CranePadsModel", name := "factor", desc := "(II)J" } : Jvm.MethodName)) ∈ GG := gg_mem 1255 (by decide +kernel) rfl
theorem w_1256 : (Jvm.Cond.code ({ cls := "CranePadsModel", name := "factor", desc := "(II)J" } : Jvm.MethodName) prog_14_method_44_code (5 : Nat) (Option.some Jvm.ClassFile.FieldType.long)) ∈ GG := gg_mem 1256 (by decide +kernel) rfl
theorem w_1253 : (Jvm.Cond.methodLink "CranePadsLaw" (71 : Nat) ({ cls := "CranePadsModel", name := "factor", desc := "(II)J" } : Jvm.MethodName)) ∈ GG := gg_mem 1253 (by decide +kernel) rfl
theorem w_617 : (Jvm.Cond.instanceMethod ({ cls := "CranePads", name := "push", desc := "(II)J" } : Jvm.MethodName)) ∈ GG := gg_mem 617 (by decide +kernel) rfl
theorem w_618 : (Jvm.Cond.selects "CranePads" ({ cls := "CranePads", name := "push", desc := "(II)J" } : Jvm.MethodName) ({ cls := "CranePads", name := "push", desc := "(II)J" } : Jvm.MethodName)) ∈ GG := gg_mem 618 (by decide +kernel) rfl
theorem w_619 : (Jvm.Cond.code ({ cls := "CranePads", name := "push", desc := "(II)J" } : Jvm.MethodName) prog_1_method_15_code (3 : Nat) (Option.some Jvm.ClassFile.FieldType.long)) ∈ GG := gg_mem 619 (by decide +kernel) rfl
theorem w_616 : (Jvm.Cond.methodLink "CranePadsLaw" (72 : Nat) ({ cls := "CranePads", name := "push", desc := "(II)J" } : Jvm.MethodName)) ∈ GG := gg_mem 616 (by decide +kernel) rfl
theorem w_1258 : (Jvm.Cond.instanceMethod ({ cls := "CranePadsModel", name := "push", desc := "(II)J" } : Jvm.MethodName)) ∈ GG := gg_mem 1258 (by decide +kernel) rfl
theorem w_1259 : (Jvm.Cond.selects "CranePadsModel" ({ cls := "CranePadsModel", name := "push", desc := "(II)J" } : Jvm.MethodName) ({ cls := "CranePadsModel", name := "push", desc := "(II)J" } : Jvm.MethodName)) ∈ GG := gg_mem 1259 (by decide +kernel) rfl
theorem w_1260 : (Jvm.Cond.code ({ cls := "CranePadsModel", name := "push", desc := "(II)J" } : Jvm.MethodName) prog_14_method_54_code (3 : Nat) (Option.some Jvm.ClassFile.FieldType.long)) ∈ GG := gg_mem 1260 (by decide +kernel) rfl
theorem w_1257 : (Jvm.Cond.methodLink "CranePadsLaw" (75 : Nat) ({ cls := "CranePadsModel", name := "push", desc := "(II)J" } : Jvm.MethodName)) ∈ GG := gg_mem 1257 (by decide +kernel) rfl
theorem w_657 : (Jvm.Cond.instanceMethod ({ cls := "CranePads", name := "lifted", desc := "()I" } : Jvm.MethodName)) ∈ GG := gg_mem 657 (by decide +kernel) rfl
theorem w_658 : (Jvm.Cond.selects "CranePads" ({ cls := "CranePads", name := "lifted", desc := "()I" } : Jvm.MethodName) ({ cls := "CranePads", name := "lifted", desc := "()I" } : Jvm.MethodName)) ∈ GG := gg_mem 658 (by decide +kernel) rfl
theorem w_659 : (Jvm.Cond.code ({ cls := "CranePads", name := "lifted", desc := "()I" } : Jvm.MethodName) prog_1_method_16_code (1 : Nat) (Option.some Jvm.ClassFile.FieldType.int)) ∈ GG := gg_mem 659 (by decide +kernel) rfl
theorem w_656 : (Jvm.Cond.methodLink "CranePadsLaw" (76 : Nat) ({ cls := "CranePads", name := "lifted", desc := "()I" } : Jvm.MethodName)) ∈ GG := gg_mem 656 (by decide +kernel) rfl
theorem w_1281 : (Jvm.Cond.instanceMethod ({ cls := "CranePadsModel", name := "lifted", desc := "()I" } : Jvm.MethodName)) ∈ GG := gg_mem 1281 (by decide +kernel) rfl
theorem w_1282 : (Jvm.Cond.selects "CranePadsModel" ({ cls := "CranePadsModel", name := "lifted", desc := "()I" } : Jvm.MethodName) ({ cls := "CranePadsModel", name := "lifted", desc := "()I" } : Jvm.MethodName)) ∈ GG := gg_mem 1282 (by decide +kernel) rfl
theorem w_1283 : (Jvm.Cond.code ({ cls := "CranePadsModel", name := "lifted", desc := "()I" } : Jvm.MethodName) prog_14_method_55_code (1 : Nat) (Option.some Jvm.ClassFile.FieldType.int)) ∈ GG := gg_mem 1283 (by decide +kernel) rfl
theorem w_1280 : (Jvm.Cond.methodLink "CranePadsLaw" (79 : Nat) ({ cls := "CranePadsModel", name := "lifted", desc := "()I" } : Jvm.MethodName)) ∈ GG := gg_mem 1280 (by decide +kernel) rfl
theorem w_661 : (Jvm.Cond.instanceMethod ({ cls := "CranePads", name := "mat", desc := "(I)I" } : Jvm.MethodName)) ∈ GG := gg_mem 661 (by decide +kernel) rfl
theorem w_662 : (Jvm.Cond.selects "CranePads" ({ cls := "CranePads", name := "mat", desc := "(I)I" } : Jvm.MethodName) ({ cls := "CranePads", name := "mat", desc := "(I)I" } : Jvm.MethodName)) ∈ GG := gg_mem 662 (by decide +kernel) rfl
theorem w_663 : (Jvm.Cond.code ({ cls := "CranePads", name := "mat", desc := "(I)I" } : Jvm.MethodName) prog_1_method_17_code (5 : Nat) (Option.some Jvm.ClassFile.FieldType.int)) ∈ GG := gg_mem 663 (by decide +kernel) rfl
theorem w_660 : (Jvm.Cond.methodLink "CranePadsLaw" (80 : Nat) ({ cls := "CranePads", name := "mat", desc := "(I)I" } : Jvm.MethodName)) ∈ GG := gg_mem 660 (by decide +kernel) rfl
theorem w_1285 : (Jvm.Cond.instanceMethod ({ cls := "CranePadsModel", name := "mat", desc := "(I)I" } : Jvm.MethodName)) ∈ GG := gg_mem 1285 (by decide +kernel) rfl
theorem w_1286 : (Jvm.Cond.selects "CranePadsModel" ({ cls := "CranePadsModel", name := "mat", desc := "(I)I" } : Jvm.MethodName) ({ cls := "CranePadsModel", name := "mat", desc := "(I)I" } : Jvm.MethodName)) ∈ GG := gg_mem 1286 (by decide +kernel) rfl
theorem w_1287 : (Jvm.Cond.code ({ cls := "CranePadsModel", name := "mat", desc := "(I)I" } : Jvm.MethodName) prog_14_method_56_code (3 : Nat) (Option.some Jvm.ClassFile.FieldType.int)) ∈ GG := gg_mem 1287 (by decide +kernel) rfl
theorem w_1284 : (Jvm.Cond.methodLink "CranePadsLaw" (83 : Nat) ({ cls := "CranePadsModel", name := "mat", desc := "(I)I" } : Jvm.MethodName)) ∈ GG := gg_mem 1284 (by decide +kernel) rfl
theorem w_665 : (Jvm.Cond.instanceMethod ({ cls := "CranePads", name := "why", desc := "()I" } : Jvm.MethodName)) ∈ GG := gg_mem 665 (by decide +kernel) rfl
theorem w_666 : (Jvm.Cond.selects "CranePads" ({ cls := "CranePads", name := "why", desc := "()I" } : Jvm.MethodName) ({ cls := "CranePads", name := "why", desc := "()I" } : Jvm.MethodName)) ∈ GG := gg_mem 666 (by decide +kernel) rfl
theorem w_667 : (Jvm.Cond.code ({ cls := "CranePads", name := "why", desc := "()I" } : Jvm.MethodName) prog_1_method_18_code (1 : Nat) (Option.some Jvm.ClassFile.FieldType.int)) ∈ GG := gg_mem 667 (by decide +kernel) rfl
theorem w_664 : (Jvm.Cond.methodLink "CranePadsLaw" (84 : Nat) ({ cls := "CranePads", name := "why", desc := "()I" } : Jvm.MethodName)) ∈ GG := gg_mem 664 (by decide +kernel) rfl
theorem w_1289 : (Jvm.Cond.instanceMethod ({ cls := "CranePadsModel", name := "why", desc := "()I" } : Jvm.MethodName)) ∈ GG := gg_mem 1289 (by decide +kernel) rfl
theorem w_1290 : (Jvm.Cond.selects "CranePadsModel" ({ cls := "CranePadsModel", name := "why", desc := "()I" } : Jvm.MethodName) ({ cls := "CranePadsModel", name := "why", desc := "()I" } : Jvm.MethodName)) ∈ GG := gg_mem 1290 (by decide +kernel) rfl
theorem w_1291 : (Jvm.Cond.code ({ cls := "CranePadsModel", name := "why", desc := "()I" } : Jvm.MethodName) prog_14_method_57_code (1 : Nat) (Option.some Jvm.ClassFile.FieldType.int)) ∈ GG := gg_mem 1291 (by decide +kernel) rfl
theorem w_1288 : (Jvm.Cond.methodLink "CranePadsLaw" (87 : Nat) ({ cls := "CranePadsModel", name := "why", desc := "()I" } : Jvm.MethodName)) ∈ GG := gg_mem 1288 (by decide +kernel) rfl
theorem w_670 : (Jvm.Cond.instanceMethod ({ cls := "CranePads", name := "most", desc := "()I" } : Jvm.MethodName)) ∈ GG := gg_mem 670 (by decide +kernel) rfl
theorem w_671 : (Jvm.Cond.selects "CranePads" ({ cls := "CranePads", name := "most", desc := "()I" } : Jvm.MethodName) ({ cls := "CranePads", name := "most", desc := "()I" } : Jvm.MethodName)) ∈ GG := gg_mem 671 (by decide +kernel) rfl
theorem w_672 : (Jvm.Cond.code ({ cls := "CranePads", name := "most", desc := "()I" } : Jvm.MethodName) prog_1_method_19_code (2 : Nat) (Option.some Jvm.ClassFile.FieldType.int)) ∈ GG := gg_mem 672 (by decide +kernel) rfl
theorem w_669 : (Jvm.Cond.methodLink "CranePadsLaw" (88 : Nat) ({ cls := "CranePads", name := "most", desc := "()I" } : Jvm.MethodName)) ∈ GG := gg_mem 669 (by decide +kernel) rfl
theorem w_1305 : (Jvm.Cond.instanceMethod ({ cls := "CranePadsModel", name := "most", desc := "()I" } : Jvm.MethodName)) ∈ GG := gg_mem 1305 (by decide +kernel) rfl
theorem w_1306 : (Jvm.Cond.selects "CranePadsModel" ({ cls := "CranePadsModel", name := "most", desc := "()I" } : Jvm.MethodName) ({ cls := "CranePadsModel", name := "most", desc := "()I" } : Jvm.MethodName)) ∈ GG := gg_mem 1306 (by decide +kernel) rfl
theorem w_1307 : (Jvm.Cond.code ({ cls := "CranePadsModel", name := "most", desc := "()I" } : Jvm.MethodName) prog_14_method_58_code (4 : Nat) (Option.some Jvm.ClassFile.FieldType.int)) ∈ GG := gg_mem 1307 (by decide +kernel) rfl
theorem w_1304 : (Jvm.Cond.methodLink "CranePadsLaw" (91 : Nat) ({ cls := "CranePadsModel", name := "most", desc := "()I" } : Jvm.MethodName)) ∈ GG := gg_mem 1304 (by decide +kernel) rfl
theorem w_696 : (Jvm.Cond.instanceMethod ({ cls := "CranePads", name := "where", desc := "(I)I" } : Jvm.MethodName)) ∈ GG := gg_mem 696 (by decide +kernel) rfl
theorem w_697 : (Jvm.Cond.selects "CranePads" ({ cls := "CranePads", name := "where", desc := "(I)I" } : Jvm.MethodName) ({ cls := "CranePads", name := "where", desc := "(I)I" } : Jvm.MethodName)) ∈ GG := gg_mem 697 (by decide +kernel) rfl
theorem w_698 : (Jvm.Cond.code ({ cls := "CranePads", name := "where", desc := "(I)I" } : Jvm.MethodName) prog_1_method_20_code (2 : Nat) (Option.some Jvm.ClassFile.FieldType.int)) ∈ GG := gg_mem 698 (by decide +kernel) rfl
theorem w_695 : (Jvm.Cond.methodLink "CranePadsLaw" (92 : Nat) ({ cls := "CranePads", name := "where", desc := "(I)I" } : Jvm.MethodName)) ∈ GG := gg_mem 695 (by decide +kernel) rfl
theorem w_1313 : (Jvm.Cond.instanceMethod ({ cls := "CranePadsModel", name := "where", desc := "(I)I" } : Jvm.MethodName)) ∈ GG := gg_mem 1313 (by decide +kernel) rfl
theorem w_1314 : (Jvm.Cond.selects "CranePadsModel" ({ cls := "CranePadsModel", name := "where", desc := "(I)I" } : Jvm.MethodName) ({ cls := "CranePadsModel", name := "where", desc := "(I)I" } : Jvm.MethodName)) ∈ GG := gg_mem 1314 (by decide +kernel) rfl
theorem w_1315 : (Jvm.Cond.code ({ cls := "CranePadsModel", name := "where", desc := "(I)I" } : Jvm.MethodName) prog_14_method_60_code (4 : Nat) (Option.some Jvm.ClassFile.FieldType.int)) ∈ GG := gg_mem 1315 (by decide +kernel) rfl
theorem w_1312 : (Jvm.Cond.methodLink "CranePadsLaw" (95 : Nat) ({ cls := "CranePadsModel", name := "where", desc := "(I)I" } : Jvm.MethodName)) ∈ GG := gg_mem 1312 (by decide +kernel) rfl
theorem w_704 : (Jvm.Cond.instanceMethod ({ cls := "CranePads", name := "farthest", desc := "(I)I" } : Jvm.MethodName)) ∈ GG := gg_mem 704 (by decide +kernel) rfl
theorem w_705 : (Jvm.Cond.selects "CranePads" ({ cls := "CranePads", name := "farthest", desc := "(I)I" } : Jvm.MethodName) ({ cls := "CranePads", name := "farthest", desc := "(I)I" } : Jvm.MethodName)) ∈ GG := gg_mem 705 (by decide +kernel) rfl
theorem w_706 : (Jvm.Cond.code ({ cls := "CranePads", name := "farthest", desc := "(I)I" } : Jvm.MethodName) prog_1_method_21_code (3 : Nat) (Option.some Jvm.ClassFile.FieldType.int)) ∈ GG := gg_mem 706 (by decide +kernel) rfl
theorem w_703 : (Jvm.Cond.methodLink "CranePadsLaw" (96 : Nat) ({ cls := "CranePads", name := "farthest", desc := "(I)I" } : Jvm.MethodName)) ∈ GG := gg_mem 703 (by decide +kernel) rfl
theorem w_1321 : (Jvm.Cond.instanceMethod ({ cls := "CranePadsModel", name := "farthest", desc := "(I)I" } : Jvm.MethodName)) ∈ GG := gg_mem 1321 (by decide +kernel) rfl
theorem w_1322 : (Jvm.Cond.selects "CranePadsModel" ({ cls := "CranePadsModel", name := "farthest", desc := "(I)I" } : Jvm.MethodName) ({ cls := "CranePadsModel", name := "farthest", desc := "(I)I" } : Jvm.MethodName)) ∈ GG := gg_mem 1322 (by decide +kernel) rfl
theorem w_1323 : (Jvm.Cond.code ({ cls := "CranePadsModel", name := "farthest", desc := "(I)I" } : Jvm.MethodName) prog_14_method_61_code (3 : Nat) (Option.some Jvm.ClassFile.FieldType.int)) ∈ GG := gg_mem 1323 (by decide +kernel) rfl
theorem w_1320 : (Jvm.Cond.methodLink "CranePadsLaw" (99 : Nat) ({ cls := "CranePadsModel", name := "farthest", desc := "(I)I" } : Jvm.MethodName)) ∈ GG := gg_mem 1320 (by decide +kernel) rfl
theorem w_708 : (Jvm.Cond.instanceMethod ({ cls := "CranePads", name := "way", desc := "(II)I" } : Jvm.MethodName)) ∈ GG := gg_mem 708 (by decide +kernel) rfl
theorem w_709 : (Jvm.Cond.selects "CranePads" ({ cls := "CranePads", name := "way", desc := "(II)I" } : Jvm.MethodName) ({ cls := "CranePads", name := "way", desc := "(II)I" } : Jvm.MethodName)) ∈ GG := gg_mem 709 (by decide +kernel) rfl
theorem w_710 : (Jvm.Cond.code ({ cls := "CranePads", name := "way", desc := "(II)I" } : Jvm.MethodName) prog_1_method_22_code (4 : Nat) (Option.some Jvm.ClassFile.FieldType.int)) ∈ GG := gg_mem 710 (by decide +kernel) rfl
theorem w_707 : (Jvm.Cond.methodLink "CranePadsLaw" (100 : Nat) ({ cls := "CranePads", name := "way", desc := "(II)I" } : Jvm.MethodName)) ∈ GG := gg_mem 707 (by decide +kernel) rfl
theorem w_1325 : (Jvm.Cond.instanceMethod ({ cls := "CranePadsModel", name := "way", desc := "(II)I" } : Jvm.MethodName)) ∈ GG := gg_mem 1325 (by decide +kernel) rfl
theorem w_1326 : (Jvm.Cond.selects "CranePadsModel" ({ cls := "CranePadsModel", name := "way", desc := "(II)I" } : Jvm.MethodName) ({ cls := "CranePadsModel", name := "way", desc := "(II)I" } : Jvm.MethodName)) ∈ GG := gg_mem 1326 (by decide +kernel) rfl
theorem w_1327 : (Jvm.Cond.code ({ cls := "CranePadsModel", name := "way", desc := "(II)I" } : Jvm.MethodName) prog_14_method_63_code (7 : Nat) (Option.some Jvm.ClassFile.FieldType.int)) ∈ GG := gg_mem 1327 (by decide +kernel) rfl
theorem w_1324 : (Jvm.Cond.methodLink "CranePadsLaw" (103 : Nat) ({ cls := "CranePadsModel", name := "way", desc := "(II)I" } : Jvm.MethodName)) ∈ GG := gg_mem 1324 (by decide +kernel) rfl
theorem w_726 : (Jvm.Cond.instanceMethod ({ cls := "CranePads", name := "ballast", desc := "(I)I" } : Jvm.MethodName)) ∈ GG := gg_mem 726 (by decide +kernel) rfl
theorem w_727 : (Jvm.Cond.selects "CranePads" ({ cls := "CranePads", name := "ballast", desc := "(I)I" } : Jvm.MethodName) ({ cls := "CranePads", name := "ballast", desc := "(I)I" } : Jvm.MethodName)) ∈ GG := gg_mem 727 (by decide +kernel) rfl
theorem w_728 : (Jvm.Cond.code ({ cls := "CranePads", name := "ballast", desc := "(I)I" } : Jvm.MethodName) prog_1_method_23_code (3 : Nat) (Option.some Jvm.ClassFile.FieldType.int)) ∈ GG := gg_mem 728 (by decide +kernel) rfl
theorem w_725 : (Jvm.Cond.methodLink "CranePadsLaw" (104 : Nat) ({ cls := "CranePads", name := "ballast", desc := "(I)I" } : Jvm.MethodName)) ∈ GG := gg_mem 725 (by decide +kernel) rfl
theorem w_1333 : (Jvm.Cond.instanceMethod ({ cls := "CranePadsModel", name := "ballast", desc := "(I)I" } : Jvm.MethodName)) ∈ GG := gg_mem 1333 (by decide +kernel) rfl
theorem w_1334 : (Jvm.Cond.selects "CranePadsModel" ({ cls := "CranePadsModel", name := "ballast", desc := "(I)I" } : Jvm.MethodName) ({ cls := "CranePadsModel", name := "ballast", desc := "(I)I" } : Jvm.MethodName)) ∈ GG := gg_mem 1334 (by decide +kernel) rfl
theorem w_1335 : (Jvm.Cond.code ({ cls := "CranePadsModel", name := "ballast", desc := "(I)I" } : Jvm.MethodName) prog_14_method_64_code (5 : Nat) (Option.some Jvm.ClassFile.FieldType.int)) ∈ GG := gg_mem 1335 (by decide +kernel) rfl
theorem w_1332 : (Jvm.Cond.methodLink "CranePadsLaw" (107 : Nat) ({ cls := "CranePadsModel", name := "ballast", desc := "(I)I" } : Jvm.MethodName)) ∈ GG := gg_mem 1332 (by decide +kernel) rfl
theorem w_730 : (Jvm.Cond.instanceMethod ({ cls := "CranePads", name := "feed", desc := "(I)I" } : Jvm.MethodName)) ∈ GG := gg_mem 730 (by decide +kernel) rfl
theorem w_731 : (Jvm.Cond.selects "CranePads" ({ cls := "CranePads", name := "feed", desc := "(I)I" } : Jvm.MethodName) ({ cls := "CranePads", name := "feed", desc := "(I)I" } : Jvm.MethodName)) ∈ GG := gg_mem 731 (by decide +kernel) rfl
theorem w_732 : (Jvm.Cond.code ({ cls := "CranePads", name := "feed", desc := "(I)I" } : Jvm.MethodName) prog_1_method_24_code (2 : Nat) (Option.some Jvm.ClassFile.FieldType.int)) ∈ GG := gg_mem 732 (by decide +kernel) rfl
theorem w_729 : (Jvm.Cond.methodLink "CranePadsLaw" (108 : Nat) ({ cls := "CranePads", name := "feed", desc := "(I)I" } : Jvm.MethodName)) ∈ GG := gg_mem 729 (by decide +kernel) rfl
theorem w_1337 : (Jvm.Cond.instanceMethod ({ cls := "CranePadsModel", name := "feed", desc := "(I)I" } : Jvm.MethodName)) ∈ GG := gg_mem 1337 (by decide +kernel) rfl
theorem w_1338 : (Jvm.Cond.selects "CranePadsModel" ({ cls := "CranePadsModel", name := "feed", desc := "(I)I" } : Jvm.MethodName) ({ cls := "CranePadsModel", name := "feed", desc := "(I)I" } : Jvm.MethodName)) ∈ GG := gg_mem 1338 (by decide +kernel) rfl
theorem w_1339 : (Jvm.Cond.code ({ cls := "CranePadsModel", name := "feed", desc := "(I)I" } : Jvm.MethodName) prog_14_method_65_code (2 : Nat) (Option.some Jvm.ClassFile.FieldType.int)) ∈ GG := gg_mem 1339 (by decide +kernel) rfl
theorem w_1336 : (Jvm.Cond.methodLink "CranePadsLaw" (111 : Nat) ({ cls := "CranePadsModel", name := "feed", desc := "(I)I" } : Jvm.MethodName)) ∈ GG := gg_mem 1336 (by decide +kernel) rfl
theorem w_738 : (Jvm.Cond.instanceMethod ({ cls := "CranePads", name := "clear", desc := "()I" } : Jvm.MethodName)) ∈ GG := gg_mem 738 (by decide +kernel) rfl
theorem w_739 : (Jvm.Cond.selects "CranePads" ({ cls := "CranePads", name := "clear", desc := "()I" } : Jvm.MethodName) ({ cls := "CranePads", name := "clear", desc := "()I" } : Jvm.MethodName)) ∈ GG := gg_mem 739 (by decide +kernel) rfl
theorem w_740 : (Jvm.Cond.code ({ cls := "CranePads", name := "clear", desc := "()I" } : Jvm.MethodName) prog_1_method_25_code (2 : Nat) (Option.some Jvm.ClassFile.FieldType.int)) ∈ GG := gg_mem 740 (by decide +kernel) rfl
theorem w_737 : (Jvm.Cond.methodLink "CranePadsLaw" (112 : Nat) ({ cls := "CranePads", name := "clear", desc := "()I" } : Jvm.MethodName)) ∈ GG := gg_mem 737 (by decide +kernel) rfl
theorem w_1341 : (Jvm.Cond.instanceMethod ({ cls := "CranePadsModel", name := "clear", desc := "()I" } : Jvm.MethodName)) ∈ GG := gg_mem 1341 (by decide +kernel) rfl
theorem w_1342 : (Jvm.Cond.selects "CranePadsModel" ({ cls := "CranePadsModel", name := "clear", desc := "()I" } : Jvm.MethodName) ({ cls := "CranePadsModel", name := "clear", desc := "()I" } : Jvm.MethodName)) ∈ GG := gg_mem 1342 (by decide +kernel) rfl
theorem w_1343 : (Jvm.Cond.code ({ cls := "CranePadsModel", name := "clear", desc := "()I" } : Jvm.MethodName) prog_14_method_66_code (2 : Nat) (Option.some Jvm.ClassFile.FieldType.int)) ∈ GG := gg_mem 1343 (by decide +kernel) rfl
theorem w_1340 : (Jvm.Cond.methodLink "CranePadsLaw" (115 : Nat) ({ cls := "CranePadsModel", name := "clear", desc := "()I" } : Jvm.MethodName)) ∈ GG := gg_mem 1340 (by decide +kernel) rfl
theorem w_742 : (Jvm.Cond.instanceMethod ({ cls := "CranePads", name := "plan", desc := "()I" } : Jvm.MethodName)) ∈ GG := gg_mem 742 (by decide +kernel) rfl
theorem w_743 : (Jvm.Cond.selects "CranePads" ({ cls := "CranePads", name := "plan", desc := "()I" } : Jvm.MethodName) ({ cls := "CranePads", name := "plan", desc := "()I" } : Jvm.MethodName)) ∈ GG := gg_mem 743 (by decide +kernel) rfl
theorem w_744 : (Jvm.Cond.code ({ cls := "CranePads", name := "plan", desc := "()I" } : Jvm.MethodName) prog_1_method_26_code (2 : Nat) (Option.some Jvm.ClassFile.FieldType.int)) ∈ GG := gg_mem 744 (by decide +kernel) rfl
theorem w_741 : (Jvm.Cond.methodLink "CranePadsLaw" (116 : Nat) ({ cls := "CranePads", name := "plan", desc := "()I" } : Jvm.MethodName)) ∈ GG := gg_mem 741 (by decide +kernel) rfl
theorem w_1345 : (Jvm.Cond.instanceMethod ({ cls := "CranePadsModel", name := "plan", desc := "()I" } : Jvm.MethodName)) ∈ GG := gg_mem 1345 (by decide +kernel) rfl
theorem w_1346 : (Jvm.Cond.selects "CranePadsModel" ({ cls := "CranePadsModel", name := "plan", desc := "()I" } : Jvm.MethodName) ({ cls := "CranePadsModel", name := "plan", desc := "()I" } : Jvm.MethodName)) ∈ GG := gg_mem 1346 (by decide +kernel) rfl
theorem w_1347 : (Jvm.Cond.code ({ cls := "CranePadsModel", name := "plan", desc := "()I" } : Jvm.MethodName) prog_14_method_73_code (2 : Nat) (Option.some Jvm.ClassFile.FieldType.int)) ∈ GG := gg_mem 1347 (by decide +kernel) rfl
theorem w_1344 : (Jvm.Cond.methodLink "CranePadsLaw" (119 : Nat) ({ cls := "CranePadsModel", name := "plan", desc := "()I" } : Jvm.MethodName)) ∈ GG := gg_mem 1344 (by decide +kernel) rfl
theorem w_832 : (Jvm.Cond.instanceMethod ({ cls := "CranePads", name := "checked", desc := "(I)I" } : Jvm.MethodName)) ∈ GG := gg_mem 832 (by decide +kernel) rfl
theorem w_833 : (Jvm.Cond.selects "CranePads" ({ cls := "CranePads", name := "checked", desc := "(I)I" } : Jvm.MethodName) ({ cls := "CranePads", name := "checked", desc := "(I)I" } : Jvm.MethodName)) ∈ GG := gg_mem 833 (by decide +kernel) rfl
theorem w_834 : (Jvm.Cond.code ({ cls := "CranePads", name := "checked", desc := "(I)I" } : Jvm.MethodName) prog_1_method_27_code (2 : Nat) (Option.some Jvm.ClassFile.FieldType.int)) ∈ GG := gg_mem 834 (by decide +kernel) rfl
theorem w_831 : (Jvm.Cond.methodLink "CranePadsLaw" (120 : Nat) ({ cls := "CranePads", name := "checked", desc := "(I)I" } : Jvm.MethodName)) ∈ GG := gg_mem 831 (by decide +kernel) rfl
theorem w_1378 : (Jvm.Cond.instanceMethod ({ cls := "CranePadsModel", name := "checked", desc := "(I)I" } : Jvm.MethodName)) ∈ GG := gg_mem 1378 (by decide +kernel) rfl
theorem w_1379 : (Jvm.Cond.selects "CranePadsModel" ({ cls := "CranePadsModel", name := "checked", desc := "(I)I" } : Jvm.MethodName) ({ cls := "CranePadsModel", name := "checked", desc := "(I)I" } : Jvm.MethodName)) ∈ GG := gg_mem 1379 (by decide +kernel) rfl
theorem w_1380 : (Jvm.Cond.code ({ cls := "CranePadsModel", name := "checked", desc := "(I)I" } : Jvm.MethodName) prog_14_method_83_code (2 : Nat) (Option.some Jvm.ClassFile.FieldType.int)) ∈ GG := gg_mem 1380 (by decide +kernel) rfl
theorem w_1377 : (Jvm.Cond.methodLink "CranePadsLaw" (123 : Nat) ({ cls := "CranePadsModel", name := "checked", desc := "(I)I" } : Jvm.MethodName)) ∈ GG := gg_mem 1377 (by decide +kernel) rfl
theorem w_859 : (Jvm.Cond.instanceMethod ({ cls := "CranePads", name := "spare", desc := "()J" } : Jvm.MethodName)) ∈ GG := gg_mem 859 (by decide +kernel) rfl
theorem w_860 : (Jvm.Cond.selects "CranePads" ({ cls := "CranePads", name := "spare", desc := "()J" } : Jvm.MethodName) ({ cls := "CranePads", name := "spare", desc := "()J" } : Jvm.MethodName)) ∈ GG := gg_mem 860 (by decide +kernel) rfl
theorem w_861 : (Jvm.Cond.code ({ cls := "CranePads", name := "spare", desc := "()J" } : Jvm.MethodName) prog_1_method_28_code (1 : Nat) (Option.some Jvm.ClassFile.FieldType.long)) ∈ GG := gg_mem 861 (by decide +kernel) rfl
theorem w_858 : (Jvm.Cond.methodLink "CranePadsLaw" (124 : Nat) ({ cls := "CranePads", name := "spare", desc := "()J" } : Jvm.MethodName)) ∈ GG := gg_mem 858 (by decide +kernel) rfl
theorem w_1419 : (Jvm.Cond.instanceMethod ({ cls := "CranePadsModel", name := "spare", desc := "()J" } : Jvm.MethodName)) ∈ GG := gg_mem 1419 (by decide +kernel) rfl
theorem w_1420 : (Jvm.Cond.selects "CranePadsModel" ({ cls := "CranePadsModel", name := "spare", desc := "()J" } : Jvm.MethodName) ({ cls := "CranePadsModel", name := "spare", desc := "()J" } : Jvm.MethodName)) ∈ GG := gg_mem 1420 (by decide +kernel) rfl
theorem w_1421 : (Jvm.Cond.code ({ cls := "CranePadsModel", name := "spare", desc := "()J" } : Jvm.MethodName) prog_14_method_84_code (1 : Nat) (Option.some Jvm.ClassFile.FieldType.long)) ∈ GG := gg_mem 1421 (by decide +kernel) rfl
theorem w_1418 : (Jvm.Cond.methodLink "CranePadsLaw" (128 : Nat) ({ cls := "CranePadsModel", name := "spare", desc := "()J" } : Jvm.MethodName)) ∈ GG := gg_mem 1418 (by decide +kernel) rfl
theorem w_863 : (Jvm.Cond.instanceMethod ({ cls := "CranePads", name := "done", desc := "()I" } : Jvm.MethodName)) ∈ GG := gg_mem 863 (by decide +kernel) rfl
theorem w_864 : (Jvm.Cond.selects "CranePads" ({ cls := "CranePads", name := "done", desc := "()I" } : Jvm.MethodName) ({ cls := "CranePads", name := "done", desc := "()I" } : Jvm.MethodName)) ∈ GG := gg_mem 864 (by decide +kernel) rfl
theorem w_865 : (Jvm.Cond.code ({ cls := "CranePads", name := "done", desc := "()I" } : Jvm.MethodName) prog_1_method_29_code (1 : Nat) (Option.some Jvm.ClassFile.FieldType.int)) ∈ GG := gg_mem 865 (by decide +kernel) rfl
theorem w_862 : (Jvm.Cond.methodLink "CranePadsLaw" (129 : Nat) ({ cls := "CranePads", name := "done", desc := "()I" } : Jvm.MethodName)) ∈ GG := gg_mem 862 (by decide +kernel) rfl
theorem w_1423 : (Jvm.Cond.instanceMethod ({ cls := "CranePadsModel", name := "done", desc := "()I" } : Jvm.MethodName)) ∈ GG := gg_mem 1423 (by decide +kernel) rfl
theorem w_1424 : (Jvm.Cond.selects "CranePadsModel" ({ cls := "CranePadsModel", name := "done", desc := "()I" } : Jvm.MethodName) ({ cls := "CranePadsModel", name := "done", desc := "()I" } : Jvm.MethodName)) ∈ GG := gg_mem 1424 (by decide +kernel) rfl
theorem w_1425 : (Jvm.Cond.code ({ cls := "CranePadsModel", name := "done", desc := "()I" } : Jvm.MethodName) prog_14_method_85_code (1 : Nat) (Option.some Jvm.ClassFile.FieldType.int)) ∈ GG := gg_mem 1425 (by decide +kernel) rfl
theorem w_1422 : (Jvm.Cond.methodLink "CranePadsLaw" (132 : Nat) ({ cls := "CranePadsModel", name := "done", desc := "()I" } : Jvm.MethodName)) ∈ GG := gg_mem 1422 (by decide +kernel) rfl
theorem w_867 : (Jvm.Cond.instanceMethod ({ cls := "CranePads", name := "backward", desc := "()I" } : Jvm.MethodName)) ∈ GG := gg_mem 867 (by decide +kernel) rfl
theorem w_868 : (Jvm.Cond.selects "CranePads" ({ cls := "CranePads", name := "backward", desc := "()I" } : Jvm.MethodName) ({ cls := "CranePads", name := "backward", desc := "()I" } : Jvm.MethodName)) ∈ GG := gg_mem 868 (by decide +kernel) rfl
theorem w_869 : (Jvm.Cond.code ({ cls := "CranePads", name := "backward", desc := "()I" } : Jvm.MethodName) prog_1_method_30_code (1 : Nat) (Option.some Jvm.ClassFile.FieldType.int)) ∈ GG := gg_mem 869 (by decide +kernel) rfl
theorem w_866 : (Jvm.Cond.methodLink "CranePadsLaw" (133 : Nat) ({ cls := "CranePads", name := "backward", desc := "()I" } : Jvm.MethodName)) ∈ GG := gg_mem 866 (by decide +kernel) rfl
theorem w_1427 : (Jvm.Cond.instanceMethod ({ cls := "CranePadsModel", name := "backward", desc := "()I" } : Jvm.MethodName)) ∈ GG := gg_mem 1427 (by decide +kernel) rfl
theorem w_1428 : (Jvm.Cond.selects "CranePadsModel" ({ cls := "CranePadsModel", name := "backward", desc := "()I" } : Jvm.MethodName) ({ cls := "CranePadsModel", name := "backward", desc := "()I" } : Jvm.MethodName)) ∈ GG := gg_mem 1428 (by decide +kernel) rfl
theorem w_1429 : (Jvm.Cond.code ({ cls := "CranePadsModel", name := "backward", desc := "()I" } : Jvm.MethodName) prog_14_method_86_code (2 : Nat) (Option.some Jvm.ClassFile.FieldType.int)) ∈ GG := gg_mem 1429 (by decide +kernel) rfl
theorem w_1426 : (Jvm.Cond.methodLink "CranePadsLaw" (136 : Nat) ({ cls := "CranePadsModel", name := "backward", desc := "()I" } : Jvm.MethodName)) ∈ GG := gg_mem 1426 (by decide +kernel) rfl
theorem w_880 : (Jvm.Cond.instanceMethod ({ cls := "CranePads", name := "seen", desc := "(III)I" } : Jvm.MethodName)) ∈ GG := gg_mem 880 (by decide +kernel) rfl
theorem w_881 : (Jvm.Cond.selects "CranePads" ({ cls := "CranePads", name := "seen", desc := "(III)I" } : Jvm.MethodName) ({ cls := "CranePads", name := "seen", desc := "(III)I" } : Jvm.MethodName)) ∈ GG := gg_mem 881 (by decide +kernel) rfl
theorem w_882 : (Jvm.Cond.code ({ cls := "CranePads", name := "seen", desc := "(III)I" } : Jvm.MethodName) prog_1_method_31_code (7 : Nat) (Option.some Jvm.ClassFile.FieldType.int)) ∈ GG := gg_mem 882 (by decide +kernel) rfl
theorem w_879 : (Jvm.Cond.methodLink "CranePadsLaw" (137 : Nat) ({ cls := "CranePads", name := "seen", desc := "(III)I" } : Jvm.MethodName)) ∈ GG := gg_mem 879 (by decide +kernel) rfl
theorem w_1431 : (Jvm.Cond.instanceMethod ({ cls := "CranePadsModel", name := "seen", desc := "(III)I" } : Jvm.MethodName)) ∈ GG := gg_mem 1431 (by decide +kernel) rfl
theorem w_1432 : (Jvm.Cond.selects "CranePadsModel" ({ cls := "CranePadsModel", name := "seen", desc := "(III)I" } : Jvm.MethodName) ({ cls := "CranePadsModel", name := "seen", desc := "(III)I" } : Jvm.MethodName)) ∈ GG := gg_mem 1432 (by decide +kernel) rfl
theorem w_1433 : (Jvm.Cond.code ({ cls := "CranePadsModel", name := "seen", desc := "(III)I" } : Jvm.MethodName) prog_14_method_89_code (8 : Nat) (Option.some Jvm.ClassFile.FieldType.int)) ∈ GG := gg_mem 1433 (by decide +kernel) rfl
theorem w_1430 : (Jvm.Cond.methodLink "CranePadsLaw" (140 : Nat) ({ cls := "CranePadsModel", name := "seen", desc := "(III)I" } : Jvm.MethodName)) ∈ GG := gg_mem 1430 (by decide +kernel) rfl
theorem w_899 : (Jvm.Cond.instanceMethod ({ cls := "CranePads", name := "lay", desc := "(II)I" } : Jvm.MethodName)) ∈ GG := gg_mem 899 (by decide +kernel) rfl
theorem w_900 : (Jvm.Cond.selects "CranePads" ({ cls := "CranePads", name := "lay", desc := "(II)I" } : Jvm.MethodName) ({ cls := "CranePads", name := "lay", desc := "(II)I" } : Jvm.MethodName)) ∈ GG := gg_mem 900 (by decide +kernel) rfl
theorem w_901 : (Jvm.Cond.code ({ cls := "CranePads", name := "lay", desc := "(II)I" } : Jvm.MethodName) prog_1_method_32_code (4 : Nat) (Option.some Jvm.ClassFile.FieldType.int)) ∈ GG := gg_mem 901 (by decide +kernel) rfl
theorem w_898 : (Jvm.Cond.methodLink "CranePadsLaw" (141 : Nat) ({ cls := "CranePads", name := "lay", desc := "(II)I" } : Jvm.MethodName)) ∈ GG := gg_mem 898 (by decide +kernel) rfl
theorem w_1443 : (Jvm.Cond.instanceMethod ({ cls := "CranePadsModel", name := "lay", desc := "(II)I" } : Jvm.MethodName)) ∈ GG := gg_mem 1443 (by decide +kernel) rfl
theorem w_1444 : (Jvm.Cond.selects "CranePadsModel" ({ cls := "CranePadsModel", name := "lay", desc := "(II)I" } : Jvm.MethodName) ({ cls := "CranePadsModel", name := "lay", desc := "(II)I" } : Jvm.MethodName)) ∈ GG := gg_mem 1444 (by decide +kernel) rfl
theorem w_1445 : (Jvm.Cond.code ({ cls := "CranePadsModel", name := "lay", desc := "(II)I" } : Jvm.MethodName) prog_14_method_90_code (4 : Nat) (Option.some Jvm.ClassFile.FieldType.int)) ∈ GG := gg_mem 1445 (by decide +kernel) rfl
theorem w_1442 : (Jvm.Cond.methodLink "CranePadsLaw" (144 : Nat) ({ cls := "CranePadsModel", name := "lay", desc := "(II)I" } : Jvm.MethodName)) ∈ GG := gg_mem 1442 (by decide +kernel) rfl
theorem w_904 : (Jvm.Cond.instanceMethod ({ cls := "CranePads", name := "book", desc := "()I" } : Jvm.MethodName)) ∈ GG := gg_mem 904 (by decide +kernel) rfl
theorem w_905 : (Jvm.Cond.selects "CranePads" ({ cls := "CranePads", name := "book", desc := "()I" } : Jvm.MethodName) ({ cls := "CranePads", name := "book", desc := "()I" } : Jvm.MethodName)) ∈ GG := gg_mem 905 (by decide +kernel) rfl
theorem w_906 : (Jvm.Cond.code ({ cls := "CranePads", name := "book", desc := "()I" } : Jvm.MethodName) prog_1_method_33_code (1 : Nat) (Option.some Jvm.ClassFile.FieldType.int)) ∈ GG := gg_mem 906 (by decide +kernel) rfl
theorem w_903 : (Jvm.Cond.methodLink "CranePadsLaw" (145 : Nat) ({ cls := "CranePads", name := "book", desc := "()I" } : Jvm.MethodName)) ∈ GG := gg_mem 903 (by decide +kernel) rfl
theorem w_1459 : (Jvm.Cond.instanceMethod ({ cls := "CranePadsModel", name := "book", desc := "()I" } : Jvm.MethodName)) ∈ GG := gg_mem 1459 (by decide +kernel) rfl
theorem w_1460 : (Jvm.Cond.selects "CranePadsModel" ({ cls := "CranePadsModel", name := "book", desc := "()I" } : Jvm.MethodName) ({ cls := "CranePadsModel", name := "book", desc := "()I" } : Jvm.MethodName)) ∈ GG := gg_mem 1460 (by decide +kernel) rfl
theorem w_1461 : (Jvm.Cond.code ({ cls := "CranePadsModel", name := "book", desc := "()I" } : Jvm.MethodName) prog_14_method_94_code (2 : Nat) (Option.some Jvm.ClassFile.FieldType.int)) ∈ GG := gg_mem 1461 (by decide +kernel) rfl
theorem w_1458 : (Jvm.Cond.methodLink "CranePadsLaw" (148 : Nat) ({ cls := "CranePadsModel", name := "book", desc := "()I" } : Jvm.MethodName)) ∈ GG := gg_mem 1458 (by decide +kernel) rfl
theorem w_917 : (Jvm.Cond.instanceMethod ({ cls := "CranePads", name := "booked", desc := "(II)I" } : Jvm.MethodName)) ∈ GG := gg_mem 917 (by decide +kernel) rfl
theorem w_918 : (Jvm.Cond.selects "CranePads" ({ cls := "CranePads", name := "booked", desc := "(II)I" } : Jvm.MethodName) ({ cls := "CranePads", name := "booked", desc := "(II)I" } : Jvm.MethodName)) ∈ GG := gg_mem 918 (by decide +kernel) rfl
theorem w_919 : (Jvm.Cond.code ({ cls := "CranePads", name := "booked", desc := "(II)I" } : Jvm.MethodName) prog_1_method_34_code (3 : Nat) (Option.some Jvm.ClassFile.FieldType.int)) ∈ GG := gg_mem 919 (by decide +kernel) rfl
theorem w_916 : (Jvm.Cond.methodLink "CranePadsLaw" (149 : Nat) ({ cls := "CranePads", name := "booked", desc := "(II)I" } : Jvm.MethodName)) ∈ GG := gg_mem 916 (by decide +kernel) rfl
theorem w_1463 : (Jvm.Cond.instanceMethod ({ cls := "CranePadsModel", name := "booked", desc := "(II)I" } : Jvm.MethodName)) ∈ GG := gg_mem 1463 (by decide +kernel) rfl
theorem w_1464 : (Jvm.Cond.selects "CranePadsModel" ({ cls := "CranePadsModel", name := "booked", desc := "(II)I" } : Jvm.MethodName) ({ cls := "CranePadsModel", name := "booked", desc := "(II)I" } : Jvm.MethodName)) ∈ GG := gg_mem 1464 (by decide +kernel) rfl
theorem w_1465 : (Jvm.Cond.code ({ cls := "CranePadsModel", name := "booked", desc := "(II)I" } : Jvm.MethodName) prog_14_method_96_code (3 : Nat) (Option.some Jvm.ClassFile.FieldType.int)) ∈ GG := gg_mem 1465 (by decide +kernel) rfl
theorem w_1462 : (Jvm.Cond.methodLink "CranePadsLaw" (152 : Nat) ({ cls := "CranePadsModel", name := "booked", desc := "(II)I" } : Jvm.MethodName)) ∈ GG := gg_mem 1462 (by decide +kernel) rfl
theorem w_925 : (Jvm.Cond.instanceMethod ({ cls := "CranePads", name := "heaviest", desc := "()I" } : Jvm.MethodName)) ∈ GG := gg_mem 925 (by decide +kernel) rfl
theorem w_926 : (Jvm.Cond.selects "CranePads" ({ cls := "CranePads", name := "heaviest", desc := "()I" } : Jvm.MethodName) ({ cls := "CranePads", name := "heaviest", desc := "()I" } : Jvm.MethodName)) ∈ GG := gg_mem 926 (by decide +kernel) rfl
theorem w_927 : (Jvm.Cond.code ({ cls := "CranePads", name := "heaviest", desc := "()I" } : Jvm.MethodName) prog_1_method_35_code (1 : Nat) (Option.some Jvm.ClassFile.FieldType.int)) ∈ GG := gg_mem 927 (by decide +kernel) rfl
theorem w_924 : (Jvm.Cond.methodLink "CranePadsLaw" (153 : Nat) ({ cls := "CranePads", name := "heaviest", desc := "()I" } : Jvm.MethodName)) ∈ GG := gg_mem 924 (by decide +kernel) rfl
theorem w_1471 : (Jvm.Cond.instanceMethod ({ cls := "CranePadsModel", name := "heaviest", desc := "()I" } : Jvm.MethodName)) ∈ GG := gg_mem 1471 (by decide +kernel) rfl
theorem w_1472 : (Jvm.Cond.selects "CranePadsModel" ({ cls := "CranePadsModel", name := "heaviest", desc := "()I" } : Jvm.MethodName) ({ cls := "CranePadsModel", name := "heaviest", desc := "()I" } : Jvm.MethodName)) ∈ GG := gg_mem 1472 (by decide +kernel) rfl
theorem w_1473 : (Jvm.Cond.code ({ cls := "CranePadsModel", name := "heaviest", desc := "()I" } : Jvm.MethodName) prog_14_method_97_code (4 : Nat) (Option.some Jvm.ClassFile.FieldType.int)) ∈ GG := gg_mem 1473 (by decide +kernel) rfl
theorem w_1470 : (Jvm.Cond.methodLink "CranePadsLaw" (156 : Nat) ({ cls := "CranePadsModel", name := "heaviest", desc := "()I" } : Jvm.MethodName)) ∈ GG := gg_mem 1470 (by decide +kernel) rfl
theorem w_933 : (Jvm.Cond.instanceMethod ({ cls := "CranePads", name := "list", desc := "(II)I" } : Jvm.MethodName)) ∈ GG := gg_mem 933 (by decide +kernel) rfl
theorem w_934 : (Jvm.Cond.selects "CranePads" ({ cls := "CranePads", name := "list", desc := "(II)I" } : Jvm.MethodName) ({ cls := "CranePads", name := "list", desc := "(II)I" } : Jvm.MethodName)) ∈ GG := gg_mem 934 (by decide +kernel) rfl
theorem w_935 : (Jvm.Cond.code ({ cls := "CranePads", name := "list", desc := "(II)I" } : Jvm.MethodName) prog_1_method_36_code (3 : Nat) (Option.some Jvm.ClassFile.FieldType.int)) ∈ GG := gg_mem 935 (by decide +kernel) rfl
theorem w_932 : (Jvm.Cond.methodLink "CranePadsLaw" (157 : Nat) ({ cls := "CranePads", name := "list", desc := "(II)I" } : Jvm.MethodName)) ∈ GG := gg_mem 932 (by decide +kernel) rfl
theorem w_1447 : (Jvm.Cond.instanceMethod ({ cls := "CranePadsModel", name := "list", desc := "(II)I" } : Jvm.MethodName)) ∈ GG := gg_mem 1447 (by decide +kernel) rfl
theorem w_1448 : (Jvm.Cond.selects "CranePadsModel" ({ cls := "CranePadsModel", name := "list", desc := "(II)I" } : Jvm.MethodName) ({ cls := "CranePadsModel", name := "list", desc := "(II)I" } : Jvm.MethodName)) ∈ GG := gg_mem 1448 (by decide +kernel) rfl
theorem w_1449 : (Jvm.Cond.code ({ cls := "CranePadsModel", name := "list", desc := "(II)I" } : Jvm.MethodName) prog_14_method_91_code (4 : Nat) (Option.some Jvm.ClassFile.FieldType.int)) ∈ GG := gg_mem 1449 (by decide +kernel) rfl
theorem w_1446 : (Jvm.Cond.methodLink "CranePadsLaw" (160 : Nat) ({ cls := "CranePadsModel", name := "list", desc := "(II)I" } : Jvm.MethodName)) ∈ GG := gg_mem 1446 (by decide +kernel) rfl
theorem w_1486 : (Jvm.Cond.constantLong "CranePadsLaw" (161 : Nat) (4294967295 : Int64)) ∈ GG := gg_mem 1486 (by decide +kernel) rfl
theorem w_944 : (Jvm.Cond.instanceMethod ({ cls := "CranePads", name := "set", desc := "(IIJ)I" } : Jvm.MethodName)) ∈ GG := gg_mem 944 (by decide +kernel) rfl
theorem w_945 : (Jvm.Cond.selects "CranePads" ({ cls := "CranePads", name := "set", desc := "(IIJ)I" } : Jvm.MethodName) ({ cls := "CranePads", name := "set", desc := "(IIJ)I" } : Jvm.MethodName)) ∈ GG := gg_mem 945 (by decide +kernel) rfl
theorem w_946 : (Jvm.Cond.code ({ cls := "CranePads", name := "set", desc := "(IIJ)I" } : Jvm.MethodName) prog_1_method_37_code (5 : Nat) (Option.some Jvm.ClassFile.FieldType.int)) ∈ GG := gg_mem 946 (by decide +kernel) rfl
theorem w_943 : (Jvm.Cond.methodLink "CranePadsLaw" (163 : Nat) ({ cls := "CranePads", name := "set", desc := "(IIJ)I" } : Jvm.MethodName)) ∈ GG := gg_mem 943 (by decide +kernel) rfl
theorem w_1451 : (Jvm.Cond.instanceMethod ({ cls := "CranePadsModel", name := "set", desc := "(IIJ)I" } : Jvm.MethodName)) ∈ GG := gg_mem 1451 (by decide +kernel) rfl
theorem w_1452 : (Jvm.Cond.selects "CranePadsModel" ({ cls := "CranePadsModel", name := "set", desc := "(IIJ)I" } : Jvm.MethodName) ({ cls := "CranePadsModel", name := "set", desc := "(IIJ)I" } : Jvm.MethodName)) ∈ GG := gg_mem 1452 (by decide +kernel) rfl
theorem w_1453 : (Jvm.Cond.code ({ cls := "CranePadsModel", name := "set", desc := "(IIJ)I" } : Jvm.MethodName) prog_14_method_92_code (5 : Nat) (Option.some Jvm.ClassFile.FieldType.int)) ∈ GG := gg_mem 1453 (by decide +kernel) rfl
theorem w_1450 : (Jvm.Cond.methodLink "CranePadsLaw" (167 : Nat) ({ cls := "CranePadsModel", name := "set", desc := "(IIJ)I" } : Jvm.MethodName)) ∈ GG := gg_mem 1450 (by decide +kernel) rfl
theorem w_952 : (Jvm.Cond.instanceMethod ({ cls := "CranePads", name := "get", desc := "(II)J" } : Jvm.MethodName)) ∈ GG := gg_mem 952 (by decide +kernel) rfl
theorem w_953 : (Jvm.Cond.selects "CranePads" ({ cls := "CranePads", name := "get", desc := "(II)J" } : Jvm.MethodName) ({ cls := "CranePads", name := "get", desc := "(II)J" } : Jvm.MethodName)) ∈ GG := gg_mem 953 (by decide +kernel) rfl
theorem w_954 : (Jvm.Cond.code ({ cls := "CranePads", name := "get", desc := "(II)J" } : Jvm.MethodName) prog_1_method_38_code (3 : Nat) (Option.some Jvm.ClassFile.FieldType.long)) ∈ GG := gg_mem 954 (by decide +kernel) rfl
theorem w_951 : (Jvm.Cond.methodLink "CranePadsLaw" (168 : Nat) ({ cls := "CranePads", name := "get", desc := "(II)J" } : Jvm.MethodName)) ∈ GG := gg_mem 951 (by decide +kernel) rfl
theorem w_1455 : (Jvm.Cond.instanceMethod ({ cls := "CranePadsModel", name := "get", desc := "(II)J" } : Jvm.MethodName)) ∈ GG := gg_mem 1455 (by decide +kernel) rfl
theorem w_1456 : (Jvm.Cond.selects "CranePadsModel" ({ cls := "CranePadsModel", name := "get", desc := "(II)J" } : Jvm.MethodName) ({ cls := "CranePadsModel", name := "get", desc := "(II)J" } : Jvm.MethodName)) ∈ GG := gg_mem 1456 (by decide +kernel) rfl
theorem w_1457 : (Jvm.Cond.code ({ cls := "CranePadsModel", name := "get", desc := "(II)J" } : Jvm.MethodName) prog_14_method_93_code (3 : Nat) (Option.some Jvm.ClassFile.FieldType.long)) ∈ GG := gg_mem 1457 (by decide +kernel) rfl
theorem w_1454 : (Jvm.Cond.methodLink "CranePadsLaw" (171 : Nat) ({ cls := "CranePadsModel", name := "get", desc := "(II)J" } : Jvm.MethodName)) ∈ GG := gg_mem 1454 (by decide +kernel) rfl
theorem w_956 : (Jvm.Cond.instanceMethod ({ cls := "CranePads", name := "count", desc := "(I)I" } : Jvm.MethodName)) ∈ GG := gg_mem 956 (by decide +kernel) rfl
theorem w_957 : (Jvm.Cond.selects "CranePads" ({ cls := "CranePads", name := "count", desc := "(I)I" } : Jvm.MethodName) ({ cls := "CranePads", name := "count", desc := "(I)I" } : Jvm.MethodName)) ∈ GG := gg_mem 957 (by decide +kernel) rfl
theorem w_958 : (Jvm.Cond.code ({ cls := "CranePads", name := "count", desc := "(I)I" } : Jvm.MethodName) prog_1_method_39_code (2 : Nat) (Option.some Jvm.ClassFile.FieldType.int)) ∈ GG := gg_mem 958 (by decide +kernel) rfl
theorem w_955 : (Jvm.Cond.methodLink "CranePadsLaw" (172 : Nat) ({ cls := "CranePads", name := "count", desc := "(I)I" } : Jvm.MethodName)) ∈ GG := gg_mem 955 (by decide +kernel) rfl
theorem w_1475 : (Jvm.Cond.instanceMethod ({ cls := "CranePadsModel", name := "count", desc := "(I)I" } : Jvm.MethodName)) ∈ GG := gg_mem 1475 (by decide +kernel) rfl
theorem w_1476 : (Jvm.Cond.selects "CranePadsModel" ({ cls := "CranePadsModel", name := "count", desc := "(I)I" } : Jvm.MethodName) ({ cls := "CranePadsModel", name := "count", desc := "(I)I" } : Jvm.MethodName)) ∈ GG := gg_mem 1476 (by decide +kernel) rfl
theorem w_1477 : (Jvm.Cond.code ({ cls := "CranePadsModel", name := "count", desc := "(I)I" } : Jvm.MethodName) prog_14_method_98_code (2 : Nat) (Option.some Jvm.ClassFile.FieldType.int)) ∈ GG := gg_mem 1477 (by decide +kernel) rfl
theorem w_1474 : (Jvm.Cond.methodLink "CranePadsLaw" (175 : Nat) ({ cls := "CranePadsModel", name := "count", desc := "(I)I" } : Jvm.MethodName)) ∈ GG := gg_mem 1474 (by decide +kernel) rfl
theorem w_960 : (Jvm.Cond.instanceMethod ({ cls := "CranePads", name := "image", desc := "()I" } : Jvm.MethodName)) ∈ GG := gg_mem 960 (by decide +kernel) rfl
theorem w_961 : (Jvm.Cond.selects "CranePads" ({ cls := "CranePads", name := "image", desc := "()I" } : Jvm.MethodName) ({ cls := "CranePads", name := "image", desc := "()I" } : Jvm.MethodName)) ∈ GG := gg_mem 961 (by decide +kernel) rfl
theorem w_962 : (Jvm.Cond.code ({ cls := "CranePads", name := "image", desc := "()I" } : Jvm.MethodName) prog_1_method_40_code (1 : Nat) (Option.some Jvm.ClassFile.FieldType.int)) ∈ GG := gg_mem 962 (by decide +kernel) rfl
theorem w_959 : (Jvm.Cond.methodLink "CranePadsLaw" (176 : Nat) ({ cls := "CranePads", name := "image", desc := "()I" } : Jvm.MethodName)) ∈ GG := gg_mem 959 (by decide +kernel) rfl
theorem w_1479 : (Jvm.Cond.instanceMethod ({ cls := "CranePadsModel", name := "image", desc := "()I" } : Jvm.MethodName)) ∈ GG := gg_mem 1479 (by decide +kernel) rfl
theorem w_1480 : (Jvm.Cond.selects "CranePadsModel" ({ cls := "CranePadsModel", name := "image", desc := "()I" } : Jvm.MethodName) ({ cls := "CranePadsModel", name := "image", desc := "()I" } : Jvm.MethodName)) ∈ GG := gg_mem 1480 (by decide +kernel) rfl
theorem w_1481 : (Jvm.Cond.code ({ cls := "CranePadsModel", name := "image", desc := "()I" } : Jvm.MethodName) prog_14_method_99_code (2 : Nat) (Option.some Jvm.ClassFile.FieldType.int)) ∈ GG := gg_mem 1481 (by decide +kernel) rfl
theorem w_1478 : (Jvm.Cond.methodLink "CranePadsLaw" (179 : Nat) ({ cls := "CranePadsModel", name := "image", desc := "()I" } : Jvm.MethodName)) ∈ GG := gg_mem 1478 (by decide +kernel) rfl
theorem w_964 : (Jvm.Cond.instanceMethod ({ cls := "CranePads", name := "undo", desc := "()I" } : Jvm.MethodName)) ∈ GG := gg_mem 964 (by decide +kernel) rfl
theorem w_965 : (Jvm.Cond.selects "CranePads" ({ cls := "CranePads", name := "undo", desc := "()I" } : Jvm.MethodName) ({ cls := "CranePads", name := "undo", desc := "()I" } : Jvm.MethodName)) ∈ GG := gg_mem 965 (by decide +kernel) rfl
theorem w_966 : (Jvm.Cond.code ({ cls := "CranePads", name := "undo", desc := "()I" } : Jvm.MethodName) prog_1_method_41_code (1 : Nat) (Option.some Jvm.ClassFile.FieldType.int)) ∈ GG := gg_mem 966 (by decide +kernel) rfl
theorem w_963 : (Jvm.Cond.methodLink "CranePadsLaw" (180 : Nat) ({ cls := "CranePads", name := "undo", desc := "()I" } : Jvm.MethodName)) ∈ GG := gg_mem 963 (by decide +kernel) rfl
theorem w_1483 : (Jvm.Cond.instanceMethod ({ cls := "CranePadsModel", name := "undo", desc := "()I" } : Jvm.MethodName)) ∈ GG := gg_mem 1483 (by decide +kernel) rfl
theorem w_1484 : (Jvm.Cond.selects "CranePadsModel" ({ cls := "CranePadsModel", name := "undo", desc := "()I" } : Jvm.MethodName) ({ cls := "CranePadsModel", name := "undo", desc := "()I" } : Jvm.MethodName)) ∈ GG := gg_mem 1484 (by decide +kernel) rfl
theorem w_1485 : (Jvm.Cond.code ({ cls := "CranePadsModel", name := "undo", desc := "()I" } : Jvm.MethodName) prog_14_method_100_code (2 : Nat) (Option.some Jvm.ClassFile.FieldType.int)) ∈ GG := gg_mem 1485 (by decide +kernel) rfl
theorem w_1482 : (Jvm.Cond.methodLink "CranePadsLaw" (183 : Nat) ({ cls := "CranePadsModel", name := "undo", desc := "()I" } : Jvm.MethodName)) ∈ GG := gg_mem 1482 (by decide +kernel) rfl
theorem mi_X11_pad : MI yX11_pad cX11_pad 5 (some .int) 4 11 := ⟨⟨TX11, 12, cp11⟩, w_458, w_459, w_56, w_460, by decide, by decide, by decide +kernel⟩
theorem mi_X12_pad : MI yX12_pad cX12_pad 5 (some .int) 4 12 := ⟨⟨TX12, 41, cp12⟩, w_1098, w_1099, w_69, w_1100, by decide, by decide, by decide +kernel⟩
theorem mi_X11_part : MI yX11_part cX11_part 5 (some .int) 4 11 := ⟨⟨TX11, 12, cp11⟩, w_472, w_473, w_56, w_474, by decide, by decide, by decide +kernel⟩
theorem mi_X12_part_ : MI yX12_part_ cX12_part_ 5 (some .int) 4 12 := ⟨⟨TX12, 41, cp12⟩, w_1120, w_1121, w_69, w_1122, by decide, by decide, by decide +kernel⟩
theorem mi_X11_mass : MI yX11_mass cX11_mass 4 (some .int) 2 11 := ⟨⟨TX11, 12, cp11⟩, w_487, w_488, w_56, w_489, by decide, by decide, by decide +kernel⟩
theorem mi_X12_mass : MI yX12_mass cX12_mass 4 (some .int) 2 12 := ⟨⟨TX12, 41, cp12⟩, w_1124, w_1125, w_69, w_1126, by decide, by decide, by decide +kernel⟩
theorem mi_X11_put : MI yX11_put cX11_put 4 (some .int) 2 11 := ⟨⟨TX11, 12, cp11⟩, w_496, w_497, w_56, w_498, by decide, by decide, by decide +kernel⟩
theorem mi_X12_put : MI yX12_put cX12_put 4 (some .int) 2 12 := ⟨⟨TX12, 41, cp12⟩, w_1132, w_1133, w_69, w_1134, by decide, by decide, by decide +kernel⟩
theorem mi_X11_told : MI yX11_told cX11_told 2 (some .int) 1 11 := ⟨⟨TX11, 12, cp11⟩, w_510, w_511, w_56, w_512, by decide, by decide, by decide +kernel⟩
theorem mi_X12_told : MI yX12_told cX12_told 2 (some .int) 1 12 := ⟨⟨TX12, 41, cp12⟩, w_1145, w_1146, w_69, w_1147, by decide, by decide, by decide +kernel⟩
theorem mi_X11_padOf : MI yX11_padOf cX11_padOf 3 (some .long) 2 11 := ⟨⟨TX11, 12, cp11⟩, w_514, w_515, w_56, w_516, by decide, by decide, by decide +kernel⟩
theorem mi_X12_padOf : MI yX12_padOf cX12_padOf 3 (some .long) 2 12 := ⟨⟨TX12, 41, cp12⟩, w_1149, w_1150, w_69, w_1151, by decide, by decide, by decide +kernel⟩
theorem mi_X11_entry : MI yX11_entry cX11_entry 6 (some .int) 3 11 := ⟨⟨TX11, 12, cp11⟩, w_519, w_520, w_56, w_521, by decide, by decide, by decide +kernel⟩
theorem mi_X12_entry : MI yX12_entry cX12_entry 6 (some .int) 3 12 := ⟨⟨TX12, 41, cp12⟩, w_1154, w_1155, w_69, w_1156, by decide, by decide, by decide +kernel⟩
theorem mi_X11_read : MI yX11_read cX11_read 3 (some .int) 2 11 := ⟨⟨TX11, 12, cp11⟩, w_535, w_536, w_56, w_537, by decide, by decide, by decide +kernel⟩
theorem mi_X12_read : MI yX12_read cX12_read 3 (some .int) 2 12 := ⟨⟨TX12, 41, cp12⟩, w_1180, w_1181, w_69, w_1182, by decide, by decide, by decide +kernel⟩
theorem mi_X11_allowed : MI yX11_allowed cX11_allowed 3 (some .int) 2 11 := ⟨⟨TX11, 12, cp11⟩, w_543, w_544, w_56, w_545, by decide, by decide, by decide +kernel⟩
theorem mi_X12_allowed : MI yX12_allowed cX12_allowed 3 (some .int) 2 12 := ⟨⟨TX12, 41, cp12⟩, w_1188, w_1189, w_69, w_1190, by decide, by decide, by decide +kernel⟩
theorem mi_X11_weight : MI yX11_weight cX11_weight 1 (some .int) 0 11 := ⟨⟨TX11, 12, cp11⟩, w_555, w_556, w_56, w_557, by decide, by decide, by decide +kernel⟩
theorem mi_X12_weight : MI yX12_weight cX12_weight 1 (some .int) 0 12 := ⟨⟨TX12, 41, cp12⟩, w_1200, w_1201, w_69, w_1202, by decide, by decide, by decide +kernel⟩
theorem mi_X11_centre : MI yX11_centre cX11_centre 3 (some .long) 2 11 := ⟨⟨TX11, 12, cp11⟩, w_567, w_568, w_56, w_569, by decide, by decide, by decide +kernel⟩
theorem mi_X12_centre : MI yX12_centre cX12_centre 3 (some .long) 2 12 := ⟨⟨TX12, 41, cp12⟩, w_1228, w_1229, w_69, w_1230, by decide, by decide, by decide +kernel⟩
theorem mi_X11_moment : MI yX11_moment cX11_moment 3 (some .long) 2 11 := ⟨⟨TX11, 12, cp11⟩, w_594, w_595, w_56, w_596, by decide, by decide, by decide +kernel⟩
theorem mi_X12_moment : MI yX12_moment cX12_moment 3 (some .long) 2 12 := ⟨⟨TX12, 41, cp12⟩, w_1242, w_1243, w_69, w_1244, by decide, by decide, by decide +kernel⟩
theorem mi_X11_factor : MI yX11_factor cX11_factor 3 (some .long) 2 11 := ⟨⟨TX11, 12, cp11⟩, w_604, w_605, w_56, w_606, by decide, by decide, by decide +kernel⟩
theorem mi_X12_factor : MI yX12_factor cX12_factor 5 (some .long) 2 12 := ⟨⟨TX12, 41, cp12⟩, w_1254, w_1255, w_69, w_1256, by decide, by decide, by decide +kernel⟩
theorem mi_X11_push : MI yX11_push cX11_push 3 (some .long) 2 11 := ⟨⟨TX11, 12, cp11⟩, w_617, w_618, w_56, w_619, by decide, by decide, by decide +kernel⟩
theorem mi_X12_push : MI yX12_push cX12_push 3 (some .long) 2 12 := ⟨⟨TX12, 41, cp12⟩, w_1258, w_1259, w_69, w_1260, by decide, by decide, by decide +kernel⟩
theorem mi_X11_lifted : MI yX11_lifted cX11_lifted 1 (some .int) 0 11 := ⟨⟨TX11, 12, cp11⟩, w_657, w_658, w_56, w_659, by decide, by decide, by decide +kernel⟩
theorem mi_X12_lifted : MI yX12_lifted cX12_lifted 1 (some .int) 0 12 := ⟨⟨TX12, 41, cp12⟩, w_1281, w_1282, w_69, w_1283, by decide, by decide, by decide +kernel⟩
theorem mi_X11_mat : MI yX11_mat cX11_mat 5 (some .int) 1 11 := ⟨⟨TX11, 12, cp11⟩, w_661, w_662, w_56, w_663, by decide, by decide, by decide +kernel⟩
theorem mi_X12_mat : MI yX12_mat cX12_mat 3 (some .int) 1 12 := ⟨⟨TX12, 41, cp12⟩, w_1285, w_1286, w_69, w_1287, by decide, by decide, by decide +kernel⟩
theorem mi_X11_why : MI yX11_why cX11_why 1 (some .int) 0 11 := ⟨⟨TX11, 12, cp11⟩, w_665, w_666, w_56, w_667, by decide, by decide, by decide +kernel⟩
theorem mi_X12_why : MI yX12_why cX12_why 1 (some .int) 0 12 := ⟨⟨TX12, 41, cp12⟩, w_1289, w_1290, w_69, w_1291, by decide, by decide, by decide +kernel⟩
theorem mi_X11_most : MI yX11_most cX11_most 2 (some .int) 0 11 := ⟨⟨TX11, 12, cp11⟩, w_670, w_671, w_56, w_672, by decide, by decide, by decide +kernel⟩
theorem mi_X12_most_ : MI yX12_most_ cX12_most_ 4 (some .int) 0 12 := ⟨⟨TX12, 41, cp12⟩, w_1305, w_1306, w_69, w_1307, by decide, by decide, by decide +kernel⟩
theorem mi_X11_where : MI yX11_where cX11_where 2 (some .int) 1 11 := ⟨⟨TX11, 12, cp11⟩, w_696, w_697, w_56, w_698, by decide, by decide, by decide +kernel⟩
theorem mi_X12_where : MI yX12_where cX12_where 4 (some .int) 1 12 := ⟨⟨TX12, 41, cp12⟩, w_1313, w_1314, w_69, w_1315, by decide, by decide, by decide +kernel⟩
theorem mi_X11_farthest : MI yX11_farthest cX11_farthest 3 (some .int) 1 11 := ⟨⟨TX11, 12, cp11⟩, w_704, w_705, w_56, w_706, by decide, by decide, by decide +kernel⟩
theorem mi_X12_farthest : MI yX12_farthest cX12_farthest 3 (some .int) 1 12 := ⟨⟨TX12, 41, cp12⟩, w_1321, w_1322, w_69, w_1323, by decide, by decide, by decide +kernel⟩
theorem mi_X11_way : MI yX11_way cX11_way 4 (some .int) 2 11 := ⟨⟨TX11, 12, cp11⟩, w_708, w_709, w_56, w_710, by decide, by decide, by decide +kernel⟩
theorem mi_X12_way : MI yX12_way cX12_way 7 (some .int) 2 12 := ⟨⟨TX12, 41, cp12⟩, w_1325, w_1326, w_69, w_1327, by decide, by decide, by decide +kernel⟩
theorem mi_X11_ballast : MI yX11_ballast cX11_ballast 3 (some .int) 1 11 := ⟨⟨TX11, 12, cp11⟩, w_726, w_727, w_56, w_728, by decide, by decide, by decide +kernel⟩
theorem mi_X12_ballast : MI yX12_ballast cX12_ballast 5 (some .int) 1 12 := ⟨⟨TX12, 41, cp12⟩, w_1333, w_1334, w_69, w_1335, by decide, by decide, by decide +kernel⟩
theorem mi_X11_feed : MI yX11_feed cX11_feed 2 (some .int) 1 11 := ⟨⟨TX11, 12, cp11⟩, w_730, w_731, w_56, w_732, by decide, by decide, by decide +kernel⟩
theorem mi_X12_feed : MI yX12_feed cX12_feed 2 (some .int) 1 12 := ⟨⟨TX12, 41, cp12⟩, w_1337, w_1338, w_69, w_1339, by decide, by decide, by decide +kernel⟩
theorem mi_X11_clear : MI yX11_clear cX11_clear 2 (some .int) 0 11 := ⟨⟨TX11, 12, cp11⟩, w_738, w_739, w_56, w_740, by decide, by decide, by decide +kernel⟩
theorem mi_X12_clear : MI yX12_clear cX12_clear 2 (some .int) 0 12 := ⟨⟨TX12, 41, cp12⟩, w_1341, w_1342, w_69, w_1343, by decide, by decide, by decide +kernel⟩
theorem mi_X11_plan : MI yX11_plan cX11_plan 2 (some .int) 0 11 := ⟨⟨TX11, 12, cp11⟩, w_742, w_743, w_56, w_744, by decide, by decide, by decide +kernel⟩
theorem mi_X12_plan : MI yX12_plan cX12_plan 2 (some .int) 0 12 := ⟨⟨TX12, 41, cp12⟩, w_1345, w_1346, w_69, w_1347, by decide, by decide, by decide +kernel⟩
theorem mi_X11_checked : MI yX11_checked cX11_checked 2 (some .int) 1 11 := ⟨⟨TX11, 12, cp11⟩, w_832, w_833, w_56, w_834, by decide, by decide, by decide +kernel⟩
theorem mi_X12_checked : MI yX12_checked cX12_checked 2 (some .int) 1 12 := ⟨⟨TX12, 41, cp12⟩, w_1378, w_1379, w_69, w_1380, by decide, by decide, by decide +kernel⟩
theorem mi_X11_spare : MI yX11_spare cX11_spare 1 (some .long) 0 11 := ⟨⟨TX11, 12, cp11⟩, w_859, w_860, w_56, w_861, by decide, by decide, by decide +kernel⟩
theorem mi_X12_spare : MI yX12_spare cX12_spare 1 (some .long) 0 12 := ⟨⟨TX12, 41, cp12⟩, w_1419, w_1420, w_69, w_1421, by decide, by decide, by decide +kernel⟩
theorem mi_X11_done : MI yX11_done cX11_done 1 (some .int) 0 11 := ⟨⟨TX11, 12, cp11⟩, w_863, w_864, w_56, w_865, by decide, by decide, by decide +kernel⟩
theorem mi_X12_done : MI yX12_done cX12_done 1 (some .int) 0 12 := ⟨⟨TX12, 41, cp12⟩, w_1423, w_1424, w_69, w_1425, by decide, by decide, by decide +kernel⟩
theorem mi_X11_backward : MI yX11_backward cX11_backward 1 (some .int) 0 11 := ⟨⟨TX11, 12, cp11⟩, w_867, w_868, w_56, w_869, by decide, by decide, by decide +kernel⟩
theorem mi_X12_backward : MI yX12_backward cX12_backward 2 (some .int) 0 12 := ⟨⟨TX12, 41, cp12⟩, w_1427, w_1428, w_69, w_1429, by decide, by decide, by decide +kernel⟩
theorem mi_X11_seen : MI yX11_seen cX11_seen 7 (some .int) 3 11 := ⟨⟨TX11, 12, cp11⟩, w_880, w_881, w_56, w_882, by decide, by decide, by decide +kernel⟩
theorem mi_X12_seen : MI yX12_seen cX12_seen 8 (some .int) 3 12 := ⟨⟨TX12, 41, cp12⟩, w_1431, w_1432, w_69, w_1433, by decide, by decide, by decide +kernel⟩
theorem mi_X11_lay : MI yX11_lay cX11_lay 4 (some .int) 2 11 := ⟨⟨TX11, 12, cp11⟩, w_899, w_900, w_56, w_901, by decide, by decide, by decide +kernel⟩
theorem mi_X12_lay : MI yX12_lay cX12_lay 4 (some .int) 2 12 := ⟨⟨TX12, 41, cp12⟩, w_1443, w_1444, w_69, w_1445, by decide, by decide, by decide +kernel⟩
theorem mi_X11_book : MI yX11_book cX11_book 1 (some .int) 0 11 := ⟨⟨TX11, 12, cp11⟩, w_904, w_905, w_56, w_906, by decide, by decide, by decide +kernel⟩
theorem mi_X12_book : MI yX12_book cX12_book 2 (some .int) 0 12 := ⟨⟨TX12, 41, cp12⟩, w_1459, w_1460, w_69, w_1461, by decide, by decide, by decide +kernel⟩
theorem mi_X11_booked : MI yX11_booked cX11_booked 3 (some .int) 2 11 := ⟨⟨TX11, 12, cp11⟩, w_917, w_918, w_56, w_919, by decide, by decide, by decide +kernel⟩
theorem mi_X12_booked : MI yX12_booked cX12_booked 3 (some .int) 2 12 := ⟨⟨TX12, 41, cp12⟩, w_1463, w_1464, w_69, w_1465, by decide, by decide, by decide +kernel⟩
theorem mi_X11_heaviest : MI yX11_heaviest cX11_heaviest 1 (some .int) 0 11 := ⟨⟨TX11, 12, cp11⟩, w_925, w_926, w_56, w_927, by decide, by decide, by decide +kernel⟩
theorem mi_X12_heaviest : MI yX12_heaviest cX12_heaviest 4 (some .int) 0 12 := ⟨⟨TX12, 41, cp12⟩, w_1471, w_1472, w_69, w_1473, by decide, by decide, by decide +kernel⟩
theorem mi_X11_list : MI yX11_list cX11_list 3 (some .int) 2 11 := ⟨⟨TX11, 12, cp11⟩, w_933, w_934, w_56, w_935, by decide, by decide, by decide +kernel⟩
theorem mi_X12_list : MI yX12_list cX12_list 4 (some .int) 2 12 := ⟨⟨TX12, 41, cp12⟩, w_1447, w_1448, w_69, w_1449, by decide, by decide, by decide +kernel⟩
theorem mi_X11_set : MI yX11_set cX11_set 5 (some .int) 3 11 := ⟨⟨TX11, 12, cp11⟩, w_944, w_945, w_56, w_946, by decide, by decide, by decide +kernel⟩
theorem mi_X12_set : MI yX12_set cX12_set 5 (some .int) 3 12 := ⟨⟨TX12, 41, cp12⟩, w_1451, w_1452, w_69, w_1453, by decide, by decide, by decide +kernel⟩
theorem mi_X11_get : MI yX11_get cX11_get 3 (some .long) 2 11 := ⟨⟨TX11, 12, cp11⟩, w_952, w_953, w_56, w_954, by decide, by decide, by decide +kernel⟩
theorem mi_X12_get : MI yX12_get cX12_get 3 (some .long) 2 12 := ⟨⟨TX12, 41, cp12⟩, w_1455, w_1456, w_69, w_1457, by decide, by decide, by decide +kernel⟩
theorem mi_X11_count : MI yX11_count cX11_count 2 (some .int) 1 11 := ⟨⟨TX11, 12, cp11⟩, w_956, w_957, w_56, w_958, by decide, by decide, by decide +kernel⟩
theorem mi_X12_count : MI yX12_count cX12_count 2 (some .int) 1 12 := ⟨⟨TX12, 41, cp12⟩, w_1475, w_1476, w_69, w_1477, by decide, by decide, by decide +kernel⟩
theorem mi_X11_image : MI yX11_image cX11_image 1 (some .int) 0 11 := ⟨⟨TX11, 12, cp11⟩, w_960, w_961, w_56, w_962, by decide, by decide, by decide +kernel⟩
theorem mi_X12_image : MI yX12_image cX12_image 2 (some .int) 0 12 := ⟨⟨TX12, 41, cp12⟩, w_1479, w_1480, w_69, w_1481, by decide, by decide, by decide +kernel⟩
theorem mi_X11_undo : MI yX11_undo cX11_undo 1 (some .int) 0 11 := ⟨⟨TX11, 12, cp11⟩, w_964, w_965, w_56, w_966, by decide, by decide, by decide +kernel⟩
theorem mi_X12_undo : MI yX12_undo cX12_undo 2 (some .int) 0 12 := ⟨⟨TX12, 41, cp12⟩, w_1483, w_1484, w_69, w_1485, by decide, by decide, by decide +kernel⟩
theorem dL_law_0 : decode cL_law 0 = .ok (.new 7, 3) := by decide +kernel
theorem dL_law_3 : decode cL_law 3 = .ok (.dup, 1) := by decide +kernel
theorem dL_law_4 : decode cL_law 4 = .ok (.invokespecial 9, 3) := by decide +kernel
theorem dL_law_7 : decode cL_law 7 = .ok (.astore_n 1, 1) := by decide +kernel
theorem dL_law_8 : decode cL_law 8 = .ok (.new 10, 3) := by decide +kernel
theorem dL_law_11 : decode cL_law 11 = .ok (.dup, 1) := by decide +kernel
theorem dL_law_12 : decode cL_law 12 = .ok (.invokespecial 12, 3) := by decide +kernel
theorem dL_law_15 : decode cL_law 15 = .ok (.astore_n 2, 1) := by decide +kernel
theorem dL_law_16 : decode cL_law 16 = .ok (.iconst 0, 1) := by decide +kernel
theorem dL_law_17 : decode cL_law 17 = .ok (.istore_n 3, 1) := by decide +kernel
theorem dL_law_18 : decode cL_law 18 = .ok (.iload_n 3, 1) := by decide +kernel
theorem dL_law_19 : decode cL_law 19 = .ok (.aload_n 0, 1) := by decide +kernel
theorem dL_law_20 : decode cL_law 20 = .ok (.arraylength, 1) := by decide +kernel
theorem dL_law_21 : decode cL_law 21 = .ok (.iconst 5, 1) := by decide +kernel
theorem dL_law_22 : decode cL_law 22 = .ok (.isub, 1) := by decide +kernel
theorem dL_law_23 : decode cL_law 23 = .ok (.if_icmp .gt 1294, 3) := by decide +kernel
theorem dL_law_26 : decode cL_law 26 = .ok (.aload_n 0, 1) := by decide +kernel
theorem dL_law_27 : decode cL_law 27 = .ok (.iload_n 3, 1) := by decide +kernel
theorem dL_law_28 : decode cL_law 28 = .ok (.iaload, 1) := by decide +kernel
theorem dL_law_29 : decode cL_law 29 = .ok (.bipush 63, 2) := by decide +kernel
theorem dL_law_31 : decode cL_law 31 = .ok (.iand, 1) := by decide +kernel
theorem dL_law_32 : decode cL_law 32 = .ok (.tableswitch 1279 0 39 #[176, 229, 298, 331, 364, 387, 421, 464, 497, 530, 543, 577, 611, 645, 679, 692, 715, 728, 741, 764, 787, 820, 843, 866, 879, 892, 915, 929, 942, 955, 998, 1031, 1044, 1077, 1090, 1123, 1196, 1230, 1253, 1266], 176) := by decide +kernel
theorem dL_law_208 : decode cL_law 208 = .ok (.aload_n 1, 1) := by decide +kernel
theorem dL_law_209 : decode cL_law 209 = .ok (.aload_n 0, 1) := by decide +kernel
theorem dL_law_210 : decode cL_law 210 = .ok (.iload_n 3, 1) := by decide +kernel
theorem dL_law_211 : decode cL_law 211 = .ok (.iconst 1, 1) := by decide +kernel
theorem dL_law_212 : decode cL_law 212 = .ok (.iadd, 1) := by decide +kernel
theorem dL_law_213 : decode cL_law 213 = .ok (.iaload, 1) := by decide +kernel
theorem dL_law_214 : decode cL_law 214 = .ok (.aload_n 0, 1) := by decide +kernel
theorem dL_law_215 : decode cL_law 215 = .ok (.iload_n 3, 1) := by decide +kernel
theorem dL_law_216 : decode cL_law 216 = .ok (.iconst 2, 1) := by decide +kernel
theorem dL_law_217 : decode cL_law 217 = .ok (.iadd, 1) := by decide +kernel
theorem dL_law_218 : decode cL_law 218 = .ok (.iaload, 1) := by decide +kernel
theorem dL_law_219 : decode cL_law 219 = .ok (.aload_n 0, 1) := by decide +kernel
theorem dL_law_220 : decode cL_law 220 = .ok (.iload_n 3, 1) := by decide +kernel
theorem dL_law_221 : decode cL_law 221 = .ok (.iconst 3, 1) := by decide +kernel
theorem dL_law_222 : decode cL_law 222 = .ok (.iadd, 1) := by decide +kernel
theorem dL_law_223 : decode cL_law 223 = .ok (.iaload, 1) := by decide +kernel
theorem dL_law_224 : decode cL_law 224 = .ok (.aload_n 0, 1) := by decide +kernel
theorem dL_law_225 : decode cL_law 225 = .ok (.iload_n 3, 1) := by decide +kernel
theorem dL_law_226 : decode cL_law 226 = .ok (.iconst 4, 1) := by decide +kernel
theorem dL_law_227 : decode cL_law 227 = .ok (.iadd, 1) := by decide +kernel
theorem dL_law_228 : decode cL_law 228 = .ok (.iaload, 1) := by decide +kernel
theorem dL_law_229 : decode cL_law 229 = .ok (.invokevirtual 13, 3) := by decide +kernel
theorem dL_law_232 : decode cL_law 232 = .ok (.aload_n 2, 1) := by decide +kernel
theorem dL_law_233 : decode cL_law 233 = .ok (.aload_n 0, 1) := by decide +kernel
theorem dL_law_234 : decode cL_law 234 = .ok (.iload_n 3, 1) := by decide +kernel
theorem dL_law_235 : decode cL_law 235 = .ok (.iconst 1, 1) := by decide +kernel
theorem dL_law_236 : decode cL_law 236 = .ok (.iadd, 1) := by decide +kernel
theorem dL_law_237 : decode cL_law 237 = .ok (.iaload, 1) := by decide +kernel
theorem dL_law_238 : decode cL_law 238 = .ok (.aload_n 0, 1) := by decide +kernel
theorem dL_law_239 : decode cL_law 239 = .ok (.iload_n 3, 1) := by decide +kernel
theorem dL_law_240 : decode cL_law 240 = .ok (.iconst 2, 1) := by decide +kernel
theorem dL_law_241 : decode cL_law 241 = .ok (.iadd, 1) := by decide +kernel
theorem dL_law_242 : decode cL_law 242 = .ok (.iaload, 1) := by decide +kernel
theorem dL_law_243 : decode cL_law 243 = .ok (.aload_n 0, 1) := by decide +kernel
theorem dL_law_244 : decode cL_law 244 = .ok (.iload_n 3, 1) := by decide +kernel
theorem dL_law_245 : decode cL_law 245 = .ok (.iconst 3, 1) := by decide +kernel
theorem dL_law_246 : decode cL_law 246 = .ok (.iadd, 1) := by decide +kernel
theorem dL_law_247 : decode cL_law 247 = .ok (.iaload, 1) := by decide +kernel
theorem dL_law_248 : decode cL_law 248 = .ok (.aload_n 0, 1) := by decide +kernel
theorem dL_law_249 : decode cL_law 249 = .ok (.iload_n 3, 1) := by decide +kernel
theorem dL_law_250 : decode cL_law 250 = .ok (.iconst 4, 1) := by decide +kernel
theorem dL_law_251 : decode cL_law 251 = .ok (.iadd, 1) := by decide +kernel
theorem dL_law_252 : decode cL_law 252 = .ok (.iaload, 1) := by decide +kernel
theorem dL_law_253 : decode cL_law 253 = .ok (.invokevirtual 17, 3) := by decide +kernel
theorem dL_law_256 : decode cL_law 256 = .ok (.if_icmp .eq 1055, 3) := by decide +kernel
theorem dL_law_259 : decode cL_law 259 = .ok (.iconst 0, 1) := by decide +kernel
theorem dL_law_260 : decode cL_law 260 = .ok (.ireturn, 1) := by decide +kernel
theorem dL_law_261 : decode cL_law 261 = .ok (.aload_n 1, 1) := by decide +kernel
theorem dL_law_262 : decode cL_law 262 = .ok (.aload_n 0, 1) := by decide +kernel
theorem dL_law_263 : decode cL_law 263 = .ok (.iload_n 3, 1) := by decide +kernel
theorem dL_law_264 : decode cL_law 264 = .ok (.iconst 1, 1) := by decide +kernel
theorem dL_law_265 : decode cL_law 265 = .ok (.iadd, 1) := by decide +kernel
theorem dL_law_266 : decode cL_law 266 = .ok (.iaload, 1) := by decide +kernel
theorem dL_law_267 : decode cL_law 267 = .ok (.aload_n 0, 1) := by decide +kernel
theorem dL_law_268 : decode cL_law 268 = .ok (.iload_n 3, 1) := by decide +kernel
theorem dL_law_269 : decode cL_law 269 = .ok (.iconst 2, 1) := by decide +kernel
theorem dL_law_270 : decode cL_law 270 = .ok (.iadd, 1) := by decide +kernel
theorem dL_law_271 : decode cL_law 271 = .ok (.iaload, 1) := by decide +kernel
theorem dL_law_272 : decode cL_law 272 = .ok (.aload_n 0, 1) := by decide +kernel
theorem dL_law_273 : decode cL_law 273 = .ok (.iload_n 3, 1) := by decide +kernel
theorem dL_law_274 : decode cL_law 274 = .ok (.iconst 3, 1) := by decide +kernel
theorem dL_law_275 : decode cL_law 275 = .ok (.iadd, 1) := by decide +kernel
theorem dL_law_276 : decode cL_law 276 = .ok (.iaload, 1) := by decide +kernel
theorem dL_law_277 : decode cL_law 277 = .ok (.aload_n 0, 1) := by decide +kernel
theorem dL_law_278 : decode cL_law 278 = .ok (.iload_n 3, 1) := by decide +kernel
theorem dL_law_279 : decode cL_law 279 = .ok (.iconst 4, 1) := by decide +kernel
theorem dL_law_280 : decode cL_law 280 = .ok (.iadd, 1) := by decide +kernel
theorem dL_law_281 : decode cL_law 281 = .ok (.iaload, 1) := by decide +kernel
theorem dL_law_282 : decode cL_law 282 = .ok (.ifCond .eq 7, 3) := by decide +kernel
theorem dL_law_285 : decode cL_law 285 = .ok (.iconst 1, 1) := by decide +kernel
theorem dL_law_286 : decode cL_law 286 = .ok (.goto 4, 3) := by decide +kernel
theorem dL_law_289 : decode cL_law 289 = .ok (.iconst 0, 1) := by decide +kernel
theorem dL_law_290 : decode cL_law 290 = .ok (.invokevirtual 18, 3) := by decide +kernel
theorem dL_law_293 : decode cL_law 293 = .ok (.aload_n 2, 1) := by decide +kernel
theorem dL_law_294 : decode cL_law 294 = .ok (.aload_n 0, 1) := by decide +kernel
theorem dL_law_295 : decode cL_law 295 = .ok (.iload_n 3, 1) := by decide +kernel
theorem dL_law_296 : decode cL_law 296 = .ok (.iconst 1, 1) := by decide +kernel
theorem dL_law_297 : decode cL_law 297 = .ok (.iadd, 1) := by decide +kernel
theorem dL_law_298 : decode cL_law 298 = .ok (.iaload, 1) := by decide +kernel
theorem dL_law_299 : decode cL_law 299 = .ok (.aload_n 0, 1) := by decide +kernel
theorem dL_law_300 : decode cL_law 300 = .ok (.iload_n 3, 1) := by decide +kernel
theorem dL_law_301 : decode cL_law 301 = .ok (.iconst 2, 1) := by decide +kernel
theorem dL_law_302 : decode cL_law 302 = .ok (.iadd, 1) := by decide +kernel
theorem dL_law_303 : decode cL_law 303 = .ok (.iaload, 1) := by decide +kernel
theorem dL_law_304 : decode cL_law 304 = .ok (.aload_n 0, 1) := by decide +kernel
theorem dL_law_305 : decode cL_law 305 = .ok (.iload_n 3, 1) := by decide +kernel
theorem dL_law_306 : decode cL_law 306 = .ok (.iconst 3, 1) := by decide +kernel
theorem dL_law_307 : decode cL_law 307 = .ok (.iadd, 1) := by decide +kernel
theorem dL_law_308 : decode cL_law 308 = .ok (.iaload, 1) := by decide +kernel
theorem dL_law_309 : decode cL_law 309 = .ok (.aload_n 0, 1) := by decide +kernel
theorem dL_law_310 : decode cL_law 310 = .ok (.iload_n 3, 1) := by decide +kernel
theorem dL_law_311 : decode cL_law 311 = .ok (.iconst 4, 1) := by decide +kernel
theorem dL_law_312 : decode cL_law 312 = .ok (.iadd, 1) := by decide +kernel
theorem dL_law_313 : decode cL_law 313 = .ok (.iaload, 1) := by decide +kernel
theorem dL_law_314 : decode cL_law 314 = .ok (.ifCond .eq 7, 3) := by decide +kernel
theorem dL_law_317 : decode cL_law 317 = .ok (.iconst 1, 1) := by decide +kernel
theorem dL_law_318 : decode cL_law 318 = .ok (.goto 4, 3) := by decide +kernel
theorem dL_law_321 : decode cL_law 321 = .ok (.iconst 0, 1) := by decide +kernel
theorem dL_law_322 : decode cL_law 322 = .ok (.invokevirtual 22, 3) := by decide +kernel
theorem dL_law_325 : decode cL_law 325 = .ok (.if_icmp .eq 986, 3) := by decide +kernel
theorem dL_law_328 : decode cL_law 328 = .ok (.iconst 0, 1) := by decide +kernel
theorem dL_law_329 : decode cL_law 329 = .ok (.ireturn, 1) := by decide +kernel
theorem dL_law_330 : decode cL_law 330 = .ok (.aload_n 1, 1) := by decide +kernel
theorem dL_law_331 : decode cL_law 331 = .ok (.aload_n 0, 1) := by decide +kernel
theorem dL_law_332 : decode cL_law 332 = .ok (.iload_n 3, 1) := by decide +kernel
theorem dL_law_333 : decode cL_law 333 = .ok (.iconst 1, 1) := by decide +kernel
theorem dL_law_334 : decode cL_law 334 = .ok (.iadd, 1) := by decide +kernel
theorem dL_law_335 : decode cL_law 335 = .ok (.iaload, 1) := by decide +kernel
theorem dL_law_336 : decode cL_law 336 = .ok (.aload_n 0, 1) := by decide +kernel
theorem dL_law_337 : decode cL_law 337 = .ok (.iload_n 3, 1) := by decide +kernel
theorem dL_law_338 : decode cL_law 338 = .ok (.iconst 2, 1) := by decide +kernel
theorem dL_law_339 : decode cL_law 339 = .ok (.iadd, 1) := by decide +kernel
theorem dL_law_340 : decode cL_law 340 = .ok (.iaload, 1) := by decide +kernel
theorem dL_law_341 : decode cL_law 341 = .ok (.invokevirtual 23, 3) := by decide +kernel
theorem dL_law_344 : decode cL_law 344 = .ok (.aload_n 2, 1) := by decide +kernel
theorem dL_law_345 : decode cL_law 345 = .ok (.aload_n 0, 1) := by decide +kernel
theorem dL_law_346 : decode cL_law 346 = .ok (.iload_n 3, 1) := by decide +kernel
theorem dL_law_347 : decode cL_law 347 = .ok (.iconst 1, 1) := by decide +kernel
theorem dL_law_348 : decode cL_law 348 = .ok (.iadd, 1) := by decide +kernel
theorem dL_law_349 : decode cL_law 349 = .ok (.iaload, 1) := by decide +kernel
theorem dL_law_350 : decode cL_law 350 = .ok (.aload_n 0, 1) := by decide +kernel
theorem dL_law_351 : decode cL_law 351 = .ok (.iload_n 3, 1) := by decide +kernel
theorem dL_law_352 : decode cL_law 352 = .ok (.iconst 2, 1) := by decide +kernel
theorem dL_law_353 : decode cL_law 353 = .ok (.iadd, 1) := by decide +kernel
theorem dL_law_354 : decode cL_law 354 = .ok (.iaload, 1) := by decide +kernel
theorem dL_law_355 : decode cL_law 355 = .ok (.invokevirtual 27, 3) := by decide +kernel
theorem dL_law_358 : decode cL_law 358 = .ok (.if_icmp .eq 953, 3) := by decide +kernel
theorem dL_law_361 : decode cL_law 361 = .ok (.iconst 0, 1) := by decide +kernel
theorem dL_law_362 : decode cL_law 362 = .ok (.ireturn, 1) := by decide +kernel
theorem dL_law_363 : decode cL_law 363 = .ok (.aload_n 1, 1) := by decide +kernel
theorem dL_law_364 : decode cL_law 364 = .ok (.aload_n 0, 1) := by decide +kernel
theorem dL_law_365 : decode cL_law 365 = .ok (.iload_n 3, 1) := by decide +kernel
theorem dL_law_366 : decode cL_law 366 = .ok (.iconst 1, 1) := by decide +kernel
theorem dL_law_367 : decode cL_law 367 = .ok (.iadd, 1) := by decide +kernel
theorem dL_law_368 : decode cL_law 368 = .ok (.iaload, 1) := by decide +kernel
theorem dL_law_369 : decode cL_law 369 = .ok (.aload_n 0, 1) := by decide +kernel
theorem dL_law_370 : decode cL_law 370 = .ok (.iload_n 3, 1) := by decide +kernel
theorem dL_law_371 : decode cL_law 371 = .ok (.iconst 2, 1) := by decide +kernel
theorem dL_law_372 : decode cL_law 372 = .ok (.iadd, 1) := by decide +kernel
theorem dL_law_373 : decode cL_law 373 = .ok (.iaload, 1) := by decide +kernel
theorem dL_law_374 : decode cL_law 374 = .ok (.invokevirtual 28, 3) := by decide +kernel
theorem dL_law_377 : decode cL_law 377 = .ok (.aload_n 2, 1) := by decide +kernel
theorem dL_law_378 : decode cL_law 378 = .ok (.aload_n 0, 1) := by decide +kernel
theorem dL_law_379 : decode cL_law 379 = .ok (.iload_n 3, 1) := by decide +kernel
theorem dL_law_380 : decode cL_law 380 = .ok (.iconst 1, 1) := by decide +kernel
theorem dL_law_381 : decode cL_law 381 = .ok (.iadd, 1) := by decide +kernel
theorem dL_law_382 : decode cL_law 382 = .ok (.iaload, 1) := by decide +kernel
theorem dL_law_383 : decode cL_law 383 = .ok (.aload_n 0, 1) := by decide +kernel
theorem dL_law_384 : decode cL_law 384 = .ok (.iload_n 3, 1) := by decide +kernel
theorem dL_law_385 : decode cL_law 385 = .ok (.iconst 2, 1) := by decide +kernel
theorem dL_law_386 : decode cL_law 386 = .ok (.iadd, 1) := by decide +kernel
theorem dL_law_387 : decode cL_law 387 = .ok (.iaload, 1) := by decide +kernel
theorem dL_law_388 : decode cL_law 388 = .ok (.invokevirtual 31, 3) := by decide +kernel
theorem dL_law_391 : decode cL_law 391 = .ok (.if_icmp .eq 920, 3) := by decide +kernel
theorem dL_law_394 : decode cL_law 394 = .ok (.iconst 0, 1) := by decide +kernel
theorem dL_law_395 : decode cL_law 395 = .ok (.ireturn, 1) := by decide +kernel
theorem dL_law_396 : decode cL_law 396 = .ok (.aload_n 1, 1) := by decide +kernel
theorem dL_law_397 : decode cL_law 397 = .ok (.aload_n 0, 1) := by decide +kernel
theorem dL_law_398 : decode cL_law 398 = .ok (.iload_n 3, 1) := by decide +kernel
theorem dL_law_399 : decode cL_law 399 = .ok (.iconst 1, 1) := by decide +kernel
theorem dL_law_400 : decode cL_law 400 = .ok (.iadd, 1) := by decide +kernel
theorem dL_law_401 : decode cL_law 401 = .ok (.iaload, 1) := by decide +kernel
theorem dL_law_402 : decode cL_law 402 = .ok (.invokevirtual 32, 3) := by decide +kernel
theorem dL_law_405 : decode cL_law 405 = .ok (.aload_n 2, 1) := by decide +kernel
theorem dL_law_406 : decode cL_law 406 = .ok (.aload_n 0, 1) := by decide +kernel
theorem dL_law_407 : decode cL_law 407 = .ok (.iload_n 3, 1) := by decide +kernel
theorem dL_law_408 : decode cL_law 408 = .ok (.iconst 1, 1) := by decide +kernel
theorem dL_law_409 : decode cL_law 409 = .ok (.iadd, 1) := by decide +kernel
theorem dL_law_410 : decode cL_law 410 = .ok (.iaload, 1) := by decide +kernel
theorem dL_law_411 : decode cL_law 411 = .ok (.invokevirtual 36, 3) := by decide +kernel
theorem dL_law_414 : decode cL_law 414 = .ok (.if_icmp .eq 897, 3) := by decide +kernel
theorem dL_law_417 : decode cL_law 417 = .ok (.iconst 0, 1) := by decide +kernel
theorem dL_law_418 : decode cL_law 418 = .ok (.ireturn, 1) := by decide +kernel
theorem dL_law_419 : decode cL_law 419 = .ok (.aload_n 1, 1) := by decide +kernel
theorem dL_law_420 : decode cL_law 420 = .ok (.aload_n 0, 1) := by decide +kernel
theorem dL_law_421 : decode cL_law 421 = .ok (.iload_n 3, 1) := by decide +kernel
theorem dL_law_422 : decode cL_law 422 = .ok (.iconst 1, 1) := by decide +kernel
theorem dL_law_423 : decode cL_law 423 = .ok (.iadd, 1) := by decide +kernel
theorem dL_law_424 : decode cL_law 424 = .ok (.iaload, 1) := by decide +kernel
theorem dL_law_425 : decode cL_law 425 = .ok (.aload_n 0, 1) := by decide +kernel
theorem dL_law_426 : decode cL_law 426 = .ok (.iload_n 3, 1) := by decide +kernel
theorem dL_law_427 : decode cL_law 427 = .ok (.iconst 2, 1) := by decide +kernel
theorem dL_law_428 : decode cL_law 428 = .ok (.iadd, 1) := by decide +kernel
theorem dL_law_429 : decode cL_law 429 = .ok (.iaload, 1) := by decide +kernel
theorem dL_law_430 : decode cL_law 430 = .ok (.invokevirtual 37, 3) := by decide +kernel
theorem dL_law_433 : decode cL_law 433 = .ok (.aload_n 2, 1) := by decide +kernel
theorem dL_law_434 : decode cL_law 434 = .ok (.aload_n 0, 1) := by decide +kernel
theorem dL_law_435 : decode cL_law 435 = .ok (.iload_n 3, 1) := by decide +kernel
theorem dL_law_436 : decode cL_law 436 = .ok (.iconst 1, 1) := by decide +kernel
theorem dL_law_437 : decode cL_law 437 = .ok (.iadd, 1) := by decide +kernel
theorem dL_law_438 : decode cL_law 438 = .ok (.iaload, 1) := by decide +kernel
theorem dL_law_439 : decode cL_law 439 = .ok (.aload_n 0, 1) := by decide +kernel
theorem dL_law_440 : decode cL_law 440 = .ok (.iload_n 3, 1) := by decide +kernel
theorem dL_law_441 : decode cL_law 441 = .ok (.iconst 2, 1) := by decide +kernel
theorem dL_law_442 : decode cL_law 442 = .ok (.iadd, 1) := by decide +kernel
theorem dL_law_443 : decode cL_law 443 = .ok (.iaload, 1) := by decide +kernel
theorem dL_law_444 : decode cL_law 444 = .ok (.invokevirtual 41, 3) := by decide +kernel
theorem dL_law_447 : decode cL_law 447 = .ok (.lcmp, 1) := by decide +kernel
theorem dL_law_448 : decode cL_law 448 = .ok (.ifCond .eq 863, 3) := by decide +kernel
theorem dL_law_451 : decode cL_law 451 = .ok (.iconst 0, 1) := by decide +kernel
theorem dL_law_452 : decode cL_law 452 = .ok (.ireturn, 1) := by decide +kernel
theorem dL_law_453 : decode cL_law 453 = .ok (.aload_n 1, 1) := by decide +kernel
theorem dL_law_454 : decode cL_law 454 = .ok (.aload_n 0, 1) := by decide +kernel
theorem dL_law_455 : decode cL_law 455 = .ok (.iload_n 3, 1) := by decide +kernel
theorem dL_law_456 : decode cL_law 456 = .ok (.iconst 1, 1) := by decide +kernel
theorem dL_law_457 : decode cL_law 457 = .ok (.iadd, 1) := by decide +kernel
theorem dL_law_458 : decode cL_law 458 = .ok (.iaload, 1) := by decide +kernel
theorem dL_law_459 : decode cL_law 459 = .ok (.aload_n 0, 1) := by decide +kernel
theorem dL_law_460 : decode cL_law 460 = .ok (.iload_n 3, 1) := by decide +kernel
theorem dL_law_461 : decode cL_law 461 = .ok (.iconst 2, 1) := by decide +kernel
theorem dL_law_462 : decode cL_law 462 = .ok (.iadd, 1) := by decide +kernel
theorem dL_law_463 : decode cL_law 463 = .ok (.iaload, 1) := by decide +kernel
theorem dL_law_464 : decode cL_law 464 = .ok (.aload_n 0, 1) := by decide +kernel
theorem dL_law_465 : decode cL_law 465 = .ok (.iload_n 3, 1) := by decide +kernel
theorem dL_law_466 : decode cL_law 466 = .ok (.iconst 3, 1) := by decide +kernel
theorem dL_law_467 : decode cL_law 467 = .ok (.iadd, 1) := by decide +kernel
theorem dL_law_468 : decode cL_law 468 = .ok (.iaload, 1) := by decide +kernel
theorem dL_law_469 : decode cL_law 469 = .ok (.invokevirtual 42, 3) := by decide +kernel
theorem dL_law_472 : decode cL_law 472 = .ok (.aload_n 2, 1) := by decide +kernel
theorem dL_law_473 : decode cL_law 473 = .ok (.aload_n 0, 1) := by decide +kernel
theorem dL_law_474 : decode cL_law 474 = .ok (.iload_n 3, 1) := by decide +kernel
theorem dL_law_475 : decode cL_law 475 = .ok (.iconst 1, 1) := by decide +kernel
theorem dL_law_476 : decode cL_law 476 = .ok (.iadd, 1) := by decide +kernel
theorem dL_law_477 : decode cL_law 477 = .ok (.iaload, 1) := by decide +kernel
theorem dL_law_478 : decode cL_law 478 = .ok (.aload_n 0, 1) := by decide +kernel
theorem dL_law_479 : decode cL_law 479 = .ok (.iload_n 3, 1) := by decide +kernel
theorem dL_law_480 : decode cL_law 480 = .ok (.iconst 2, 1) := by decide +kernel
theorem dL_law_481 : decode cL_law 481 = .ok (.iadd, 1) := by decide +kernel
theorem dL_law_482 : decode cL_law 482 = .ok (.iaload, 1) := by decide +kernel
theorem dL_law_483 : decode cL_law 483 = .ok (.aload_n 0, 1) := by decide +kernel
theorem dL_law_484 : decode cL_law 484 = .ok (.iload_n 3, 1) := by decide +kernel
theorem dL_law_485 : decode cL_law 485 = .ok (.iconst 3, 1) := by decide +kernel
theorem dL_law_486 : decode cL_law 486 = .ok (.iadd, 1) := by decide +kernel
theorem dL_law_487 : decode cL_law 487 = .ok (.iaload, 1) := by decide +kernel
theorem dL_law_488 : decode cL_law 488 = .ok (.invokevirtual 46, 3) := by decide +kernel
theorem dL_law_491 : decode cL_law 491 = .ok (.if_icmp .eq 820, 3) := by decide +kernel
theorem dL_law_494 : decode cL_law 494 = .ok (.iconst 0, 1) := by decide +kernel
theorem dL_law_495 : decode cL_law 495 = .ok (.ireturn, 1) := by decide +kernel
theorem dL_law_496 : decode cL_law 496 = .ok (.aload_n 1, 1) := by decide +kernel
theorem dL_law_497 : decode cL_law 497 = .ok (.aload_n 0, 1) := by decide +kernel
theorem dL_law_498 : decode cL_law 498 = .ok (.iload_n 3, 1) := by decide +kernel
theorem dL_law_499 : decode cL_law 499 = .ok (.iconst 1, 1) := by decide +kernel
theorem dL_law_500 : decode cL_law 500 = .ok (.iadd, 1) := by decide +kernel
theorem dL_law_501 : decode cL_law 501 = .ok (.iaload, 1) := by decide +kernel
theorem dL_law_502 : decode cL_law 502 = .ok (.aload_n 0, 1) := by decide +kernel
theorem dL_law_503 : decode cL_law 503 = .ok (.iload_n 3, 1) := by decide +kernel
theorem dL_law_504 : decode cL_law 504 = .ok (.iconst 2, 1) := by decide +kernel
theorem dL_law_505 : decode cL_law 505 = .ok (.iadd, 1) := by decide +kernel
theorem dL_law_506 : decode cL_law 506 = .ok (.iaload, 1) := by decide +kernel
theorem dL_law_507 : decode cL_law 507 = .ok (.invokevirtual 47, 3) := by decide +kernel
theorem dL_law_510 : decode cL_law 510 = .ok (.aload_n 2, 1) := by decide +kernel
theorem dL_law_511 : decode cL_law 511 = .ok (.aload_n 0, 1) := by decide +kernel
theorem dL_law_512 : decode cL_law 512 = .ok (.iload_n 3, 1) := by decide +kernel
theorem dL_law_513 : decode cL_law 513 = .ok (.iconst 1, 1) := by decide +kernel
theorem dL_law_514 : decode cL_law 514 = .ok (.iadd, 1) := by decide +kernel
theorem dL_law_515 : decode cL_law 515 = .ok (.iaload, 1) := by decide +kernel
theorem dL_law_516 : decode cL_law 516 = .ok (.aload_n 0, 1) := by decide +kernel
theorem dL_law_517 : decode cL_law 517 = .ok (.iload_n 3, 1) := by decide +kernel
theorem dL_law_518 : decode cL_law 518 = .ok (.iconst 2, 1) := by decide +kernel
theorem dL_law_519 : decode cL_law 519 = .ok (.iadd, 1) := by decide +kernel
theorem dL_law_520 : decode cL_law 520 = .ok (.iaload, 1) := by decide +kernel
theorem dL_law_521 : decode cL_law 521 = .ok (.invokevirtual 50, 3) := by decide +kernel
theorem dL_law_524 : decode cL_law 524 = .ok (.if_icmp .eq 787, 3) := by decide +kernel
theorem dL_law_527 : decode cL_law 527 = .ok (.iconst 0, 1) := by decide +kernel
theorem dL_law_528 : decode cL_law 528 = .ok (.ireturn, 1) := by decide +kernel
theorem dL_law_529 : decode cL_law 529 = .ok (.aload_n 1, 1) := by decide +kernel
theorem dL_law_530 : decode cL_law 530 = .ok (.aload_n 0, 1) := by decide +kernel
theorem dL_law_531 : decode cL_law 531 = .ok (.iload_n 3, 1) := by decide +kernel
theorem dL_law_532 : decode cL_law 532 = .ok (.iconst 1, 1) := by decide +kernel
theorem dL_law_533 : decode cL_law 533 = .ok (.iadd, 1) := by decide +kernel
theorem dL_law_534 : decode cL_law 534 = .ok (.iaload, 1) := by decide +kernel
theorem dL_law_535 : decode cL_law 535 = .ok (.aload_n 0, 1) := by decide +kernel
theorem dL_law_536 : decode cL_law 536 = .ok (.iload_n 3, 1) := by decide +kernel
theorem dL_law_537 : decode cL_law 537 = .ok (.iconst 2, 1) := by decide +kernel
theorem dL_law_538 : decode cL_law 538 = .ok (.iadd, 1) := by decide +kernel
theorem dL_law_539 : decode cL_law 539 = .ok (.iaload, 1) := by decide +kernel
theorem dL_law_540 : decode cL_law 540 = .ok (.invokevirtual 51, 3) := by decide +kernel
theorem dL_law_543 : decode cL_law 543 = .ok (.aload_n 2, 1) := by decide +kernel
theorem dL_law_544 : decode cL_law 544 = .ok (.aload_n 0, 1) := by decide +kernel
theorem dL_law_545 : decode cL_law 545 = .ok (.iload_n 3, 1) := by decide +kernel
theorem dL_law_546 : decode cL_law 546 = .ok (.iconst 1, 1) := by decide +kernel
theorem dL_law_547 : decode cL_law 547 = .ok (.iadd, 1) := by decide +kernel
theorem dL_law_548 : decode cL_law 548 = .ok (.iaload, 1) := by decide +kernel
theorem dL_law_549 : decode cL_law 549 = .ok (.aload_n 0, 1) := by decide +kernel
theorem dL_law_550 : decode cL_law 550 = .ok (.iload_n 3, 1) := by decide +kernel
theorem dL_law_551 : decode cL_law 551 = .ok (.iconst 2, 1) := by decide +kernel
theorem dL_law_552 : decode cL_law 552 = .ok (.iadd, 1) := by decide +kernel
theorem dL_law_553 : decode cL_law 553 = .ok (.iaload, 1) := by decide +kernel
theorem dL_law_554 : decode cL_law 554 = .ok (.invokevirtual 54, 3) := by decide +kernel
theorem dL_law_557 : decode cL_law 557 = .ok (.if_icmp .eq 754, 3) := by decide +kernel
theorem dL_law_560 : decode cL_law 560 = .ok (.iconst 0, 1) := by decide +kernel
theorem dL_law_561 : decode cL_law 561 = .ok (.ireturn, 1) := by decide +kernel
theorem dL_law_562 : decode cL_law 562 = .ok (.aload_n 1, 1) := by decide +kernel
theorem dL_law_563 : decode cL_law 563 = .ok (.invokevirtual 55, 3) := by decide +kernel
theorem dL_law_566 : decode cL_law 566 = .ok (.aload_n 2, 1) := by decide +kernel
theorem dL_law_567 : decode cL_law 567 = .ok (.invokevirtual 59, 3) := by decide +kernel
theorem dL_law_570 : decode cL_law 570 = .ok (.if_icmp .eq 741, 3) := by decide +kernel
theorem dL_law_573 : decode cL_law 573 = .ok (.iconst 0, 1) := by decide +kernel
theorem dL_law_574 : decode cL_law 574 = .ok (.ireturn, 1) := by decide +kernel
theorem dL_law_575 : decode cL_law 575 = .ok (.aload_n 1, 1) := by decide +kernel
theorem dL_law_576 : decode cL_law 576 = .ok (.aload_n 0, 1) := by decide +kernel
theorem dL_law_577 : decode cL_law 577 = .ok (.iload_n 3, 1) := by decide +kernel
theorem dL_law_578 : decode cL_law 578 = .ok (.iconst 1, 1) := by decide +kernel
theorem dL_law_579 : decode cL_law 579 = .ok (.iadd, 1) := by decide +kernel
theorem dL_law_580 : decode cL_law 580 = .ok (.iaload, 1) := by decide +kernel
theorem dL_law_581 : decode cL_law 581 = .ok (.aload_n 0, 1) := by decide +kernel
theorem dL_law_582 : decode cL_law 582 = .ok (.iload_n 3, 1) := by decide +kernel
theorem dL_law_583 : decode cL_law 583 = .ok (.iconst 2, 1) := by decide +kernel
theorem dL_law_584 : decode cL_law 584 = .ok (.iadd, 1) := by decide +kernel
theorem dL_law_585 : decode cL_law 585 = .ok (.iaload, 1) := by decide +kernel
theorem dL_law_586 : decode cL_law 586 = .ok (.invokevirtual 60, 3) := by decide +kernel
theorem dL_law_589 : decode cL_law 589 = .ok (.aload_n 2, 1) := by decide +kernel
theorem dL_law_590 : decode cL_law 590 = .ok (.aload_n 0, 1) := by decide +kernel
theorem dL_law_591 : decode cL_law 591 = .ok (.iload_n 3, 1) := by decide +kernel
theorem dL_law_592 : decode cL_law 592 = .ok (.iconst 1, 1) := by decide +kernel
theorem dL_law_593 : decode cL_law 593 = .ok (.iadd, 1) := by decide +kernel
theorem dL_law_594 : decode cL_law 594 = .ok (.iaload, 1) := by decide +kernel
theorem dL_law_595 : decode cL_law 595 = .ok (.aload_n 0, 1) := by decide +kernel
theorem dL_law_596 : decode cL_law 596 = .ok (.iload_n 3, 1) := by decide +kernel
theorem dL_law_597 : decode cL_law 597 = .ok (.iconst 2, 1) := by decide +kernel
theorem dL_law_598 : decode cL_law 598 = .ok (.iadd, 1) := by decide +kernel
theorem dL_law_599 : decode cL_law 599 = .ok (.iaload, 1) := by decide +kernel
theorem dL_law_600 : decode cL_law 600 = .ok (.invokevirtual 63, 3) := by decide +kernel
theorem dL_law_603 : decode cL_law 603 = .ok (.lcmp, 1) := by decide +kernel
theorem dL_law_604 : decode cL_law 604 = .ok (.ifCond .eq 707, 3) := by decide +kernel
theorem dL_law_607 : decode cL_law 607 = .ok (.iconst 0, 1) := by decide +kernel
theorem dL_law_608 : decode cL_law 608 = .ok (.ireturn, 1) := by decide +kernel
theorem dL_law_609 : decode cL_law 609 = .ok (.aload_n 1, 1) := by decide +kernel
theorem dL_law_610 : decode cL_law 610 = .ok (.aload_n 0, 1) := by decide +kernel
theorem dL_law_611 : decode cL_law 611 = .ok (.iload_n 3, 1) := by decide +kernel
theorem dL_law_612 : decode cL_law 612 = .ok (.iconst 1, 1) := by decide +kernel
theorem dL_law_613 : decode cL_law 613 = .ok (.iadd, 1) := by decide +kernel
theorem dL_law_614 : decode cL_law 614 = .ok (.iaload, 1) := by decide +kernel
theorem dL_law_615 : decode cL_law 615 = .ok (.aload_n 0, 1) := by decide +kernel
theorem dL_law_616 : decode cL_law 616 = .ok (.iload_n 3, 1) := by decide +kernel
theorem dL_law_617 : decode cL_law 617 = .ok (.iconst 2, 1) := by decide +kernel
theorem dL_law_618 : decode cL_law 618 = .ok (.iadd, 1) := by decide +kernel
theorem dL_law_619 : decode cL_law 619 = .ok (.iaload, 1) := by decide +kernel
theorem dL_law_620 : decode cL_law 620 = .ok (.invokevirtual 64, 3) := by decide +kernel
theorem dL_law_623 : decode cL_law 623 = .ok (.aload_n 2, 1) := by decide +kernel
theorem dL_law_624 : decode cL_law 624 = .ok (.aload_n 0, 1) := by decide +kernel
theorem dL_law_625 : decode cL_law 625 = .ok (.iload_n 3, 1) := by decide +kernel
theorem dL_law_626 : decode cL_law 626 = .ok (.iconst 1, 1) := by decide +kernel
theorem dL_law_627 : decode cL_law 627 = .ok (.iadd, 1) := by decide +kernel
theorem dL_law_628 : decode cL_law 628 = .ok (.iaload, 1) := by decide +kernel
theorem dL_law_629 : decode cL_law 629 = .ok (.aload_n 0, 1) := by decide +kernel
theorem dL_law_630 : decode cL_law 630 = .ok (.iload_n 3, 1) := by decide +kernel
theorem dL_law_631 : decode cL_law 631 = .ok (.iconst 2, 1) := by decide +kernel
theorem dL_law_632 : decode cL_law 632 = .ok (.iadd, 1) := by decide +kernel
theorem dL_law_633 : decode cL_law 633 = .ok (.iaload, 1) := by decide +kernel
theorem dL_law_634 : decode cL_law 634 = .ok (.invokevirtual 67, 3) := by decide +kernel
theorem dL_law_637 : decode cL_law 637 = .ok (.lcmp, 1) := by decide +kernel
theorem dL_law_638 : decode cL_law 638 = .ok (.ifCond .eq 673, 3) := by decide +kernel
theorem dL_law_641 : decode cL_law 641 = .ok (.iconst 0, 1) := by decide +kernel
theorem dL_law_642 : decode cL_law 642 = .ok (.ireturn, 1) := by decide +kernel
theorem dL_law_643 : decode cL_law 643 = .ok (.aload_n 1, 1) := by decide +kernel
theorem dL_law_644 : decode cL_law 644 = .ok (.aload_n 0, 1) := by decide +kernel
theorem dL_law_645 : decode cL_law 645 = .ok (.iload_n 3, 1) := by decide +kernel
theorem dL_law_646 : decode cL_law 646 = .ok (.iconst 1, 1) := by decide +kernel
theorem dL_law_647 : decode cL_law 647 = .ok (.iadd, 1) := by decide +kernel
theorem dL_law_648 : decode cL_law 648 = .ok (.iaload, 1) := by decide +kernel
theorem dL_law_649 : decode cL_law 649 = .ok (.aload_n 0, 1) := by decide +kernel
theorem dL_law_650 : decode cL_law 650 = .ok (.iload_n 3, 1) := by decide +kernel
theorem dL_law_651 : decode cL_law 651 = .ok (.iconst 2, 1) := by decide +kernel
theorem dL_law_652 : decode cL_law 652 = .ok (.iadd, 1) := by decide +kernel
theorem dL_law_653 : decode cL_law 653 = .ok (.iaload, 1) := by decide +kernel
theorem dL_law_654 : decode cL_law 654 = .ok (.invokevirtual 68, 3) := by decide +kernel
theorem dL_law_657 : decode cL_law 657 = .ok (.aload_n 2, 1) := by decide +kernel
theorem dL_law_658 : decode cL_law 658 = .ok (.aload_n 0, 1) := by decide +kernel
theorem dL_law_659 : decode cL_law 659 = .ok (.iload_n 3, 1) := by decide +kernel
theorem dL_law_660 : decode cL_law 660 = .ok (.iconst 1, 1) := by decide +kernel
theorem dL_law_661 : decode cL_law 661 = .ok (.iadd, 1) := by decide +kernel
theorem dL_law_662 : decode cL_law 662 = .ok (.iaload, 1) := by decide +kernel
theorem dL_law_663 : decode cL_law 663 = .ok (.aload_n 0, 1) := by decide +kernel
theorem dL_law_664 : decode cL_law 664 = .ok (.iload_n 3, 1) := by decide +kernel
theorem dL_law_665 : decode cL_law 665 = .ok (.iconst 2, 1) := by decide +kernel
theorem dL_law_666 : decode cL_law 666 = .ok (.iadd, 1) := by decide +kernel
theorem dL_law_667 : decode cL_law 667 = .ok (.iaload, 1) := by decide +kernel
theorem dL_law_668 : decode cL_law 668 = .ok (.invokevirtual 71, 3) := by decide +kernel
theorem dL_law_671 : decode cL_law 671 = .ok (.lcmp, 1) := by decide +kernel
theorem dL_law_672 : decode cL_law 672 = .ok (.ifCond .eq 639, 3) := by decide +kernel
theorem dL_law_675 : decode cL_law 675 = .ok (.iconst 0, 1) := by decide +kernel
theorem dL_law_676 : decode cL_law 676 = .ok (.ireturn, 1) := by decide +kernel
theorem dL_law_677 : decode cL_law 677 = .ok (.aload_n 1, 1) := by decide +kernel
theorem dL_law_678 : decode cL_law 678 = .ok (.aload_n 0, 1) := by decide +kernel
theorem dL_law_679 : decode cL_law 679 = .ok (.iload_n 3, 1) := by decide +kernel
theorem dL_law_680 : decode cL_law 680 = .ok (.iconst 1, 1) := by decide +kernel
theorem dL_law_681 : decode cL_law 681 = .ok (.iadd, 1) := by decide +kernel
theorem dL_law_682 : decode cL_law 682 = .ok (.iaload, 1) := by decide +kernel
theorem dL_law_683 : decode cL_law 683 = .ok (.aload_n 0, 1) := by decide +kernel
theorem dL_law_684 : decode cL_law 684 = .ok (.iload_n 3, 1) := by decide +kernel
theorem dL_law_685 : decode cL_law 685 = .ok (.iconst 2, 1) := by decide +kernel
theorem dL_law_686 : decode cL_law 686 = .ok (.iadd, 1) := by decide +kernel
theorem dL_law_687 : decode cL_law 687 = .ok (.iaload, 1) := by decide +kernel
theorem dL_law_688 : decode cL_law 688 = .ok (.invokevirtual 72, 3) := by decide +kernel
theorem dL_law_691 : decode cL_law 691 = .ok (.aload_n 2, 1) := by decide +kernel
theorem dL_law_692 : decode cL_law 692 = .ok (.aload_n 0, 1) := by decide +kernel
theorem dL_law_693 : decode cL_law 693 = .ok (.iload_n 3, 1) := by decide +kernel
theorem dL_law_694 : decode cL_law 694 = .ok (.iconst 1, 1) := by decide +kernel
theorem dL_law_695 : decode cL_law 695 = .ok (.iadd, 1) := by decide +kernel
theorem dL_law_696 : decode cL_law 696 = .ok (.iaload, 1) := by decide +kernel
theorem dL_law_697 : decode cL_law 697 = .ok (.aload_n 0, 1) := by decide +kernel
theorem dL_law_698 : decode cL_law 698 = .ok (.iload_n 3, 1) := by decide +kernel
theorem dL_law_699 : decode cL_law 699 = .ok (.iconst 2, 1) := by decide +kernel
theorem dL_law_700 : decode cL_law 700 = .ok (.iadd, 1) := by decide +kernel
theorem dL_law_701 : decode cL_law 701 = .ok (.iaload, 1) := by decide +kernel
theorem dL_law_702 : decode cL_law 702 = .ok (.invokevirtual 75, 3) := by decide +kernel
theorem dL_law_705 : decode cL_law 705 = .ok (.lcmp, 1) := by decide +kernel
theorem dL_law_706 : decode cL_law 706 = .ok (.ifCond .eq 605, 3) := by decide +kernel
theorem dL_law_709 : decode cL_law 709 = .ok (.iconst 0, 1) := by decide +kernel
theorem dL_law_710 : decode cL_law 710 = .ok (.ireturn, 1) := by decide +kernel
theorem dL_law_711 : decode cL_law 711 = .ok (.aload_n 1, 1) := by decide +kernel
theorem dL_law_712 : decode cL_law 712 = .ok (.invokevirtual 76, 3) := by decide +kernel
theorem dL_law_715 : decode cL_law 715 = .ok (.aload_n 2, 1) := by decide +kernel
theorem dL_law_716 : decode cL_law 716 = .ok (.invokevirtual 79, 3) := by decide +kernel
theorem dL_law_719 : decode cL_law 719 = .ok (.if_icmp .eq 592, 3) := by decide +kernel
theorem dL_law_722 : decode cL_law 722 = .ok (.iconst 0, 1) := by decide +kernel
theorem dL_law_723 : decode cL_law 723 = .ok (.ireturn, 1) := by decide +kernel
theorem dL_law_724 : decode cL_law 724 = .ok (.aload_n 1, 1) := by decide +kernel
theorem dL_law_725 : decode cL_law 725 = .ok (.aload_n 0, 1) := by decide +kernel
theorem dL_law_726 : decode cL_law 726 = .ok (.iload_n 3, 1) := by decide +kernel
theorem dL_law_727 : decode cL_law 727 = .ok (.iconst 1, 1) := by decide +kernel
theorem dL_law_728 : decode cL_law 728 = .ok (.iadd, 1) := by decide +kernel
theorem dL_law_729 : decode cL_law 729 = .ok (.iaload, 1) := by decide +kernel
theorem dL_law_730 : decode cL_law 730 = .ok (.invokevirtual 80, 3) := by decide +kernel
theorem dL_law_733 : decode cL_law 733 = .ok (.aload_n 2, 1) := by decide +kernel
theorem dL_law_734 : decode cL_law 734 = .ok (.aload_n 0, 1) := by decide +kernel
theorem dL_law_735 : decode cL_law 735 = .ok (.iload_n 3, 1) := by decide +kernel
theorem dL_law_736 : decode cL_law 736 = .ok (.iconst 1, 1) := by decide +kernel
theorem dL_law_737 : decode cL_law 737 = .ok (.iadd, 1) := by decide +kernel
theorem dL_law_738 : decode cL_law 738 = .ok (.iaload, 1) := by decide +kernel
theorem dL_law_739 : decode cL_law 739 = .ok (.invokevirtual 83, 3) := by decide +kernel
theorem dL_law_742 : decode cL_law 742 = .ok (.if_icmp .eq 569, 3) := by decide +kernel
theorem dL_law_745 : decode cL_law 745 = .ok (.iconst 0, 1) := by decide +kernel
theorem dL_law_746 : decode cL_law 746 = .ok (.ireturn, 1) := by decide +kernel
theorem dL_law_747 : decode cL_law 747 = .ok (.aload_n 1, 1) := by decide +kernel
theorem dL_law_748 : decode cL_law 748 = .ok (.invokevirtual 84, 3) := by decide +kernel
theorem dL_law_751 : decode cL_law 751 = .ok (.aload_n 2, 1) := by decide +kernel
theorem dL_law_752 : decode cL_law 752 = .ok (.invokevirtual 87, 3) := by decide +kernel
theorem dL_law_755 : decode cL_law 755 = .ok (.if_icmp .eq 556, 3) := by decide +kernel
theorem dL_law_758 : decode cL_law 758 = .ok (.iconst 0, 1) := by decide +kernel
theorem dL_law_759 : decode cL_law 759 = .ok (.ireturn, 1) := by decide +kernel
theorem dL_law_760 : decode cL_law 760 = .ok (.aload_n 1, 1) := by decide +kernel
theorem dL_law_761 : decode cL_law 761 = .ok (.invokevirtual 88, 3) := by decide +kernel
theorem dL_law_764 : decode cL_law 764 = .ok (.aload_n 2, 1) := by decide +kernel
theorem dL_law_765 : decode cL_law 765 = .ok (.invokevirtual 91, 3) := by decide +kernel
theorem dL_law_768 : decode cL_law 768 = .ok (.if_icmp .eq 543, 3) := by decide +kernel
theorem dL_law_771 : decode cL_law 771 = .ok (.iconst 0, 1) := by decide +kernel
theorem dL_law_772 : decode cL_law 772 = .ok (.ireturn, 1) := by decide +kernel
theorem dL_law_773 : decode cL_law 773 = .ok (.aload_n 1, 1) := by decide +kernel
theorem dL_law_774 : decode cL_law 774 = .ok (.aload_n 0, 1) := by decide +kernel
theorem dL_law_775 : decode cL_law 775 = .ok (.iload_n 3, 1) := by decide +kernel
theorem dL_law_776 : decode cL_law 776 = .ok (.iconst 1, 1) := by decide +kernel
theorem dL_law_777 : decode cL_law 777 = .ok (.iadd, 1) := by decide +kernel
theorem dL_law_778 : decode cL_law 778 = .ok (.iaload, 1) := by decide +kernel
theorem dL_law_779 : decode cL_law 779 = .ok (.invokevirtual 92, 3) := by decide +kernel
theorem dL_law_782 : decode cL_law 782 = .ok (.aload_n 2, 1) := by decide +kernel
theorem dL_law_783 : decode cL_law 783 = .ok (.aload_n 0, 1) := by decide +kernel
theorem dL_law_784 : decode cL_law 784 = .ok (.iload_n 3, 1) := by decide +kernel
theorem dL_law_785 : decode cL_law 785 = .ok (.iconst 1, 1) := by decide +kernel
theorem dL_law_786 : decode cL_law 786 = .ok (.iadd, 1) := by decide +kernel
theorem dL_law_787 : decode cL_law 787 = .ok (.iaload, 1) := by decide +kernel
theorem dL_law_788 : decode cL_law 788 = .ok (.invokevirtual 95, 3) := by decide +kernel
theorem dL_law_791 : decode cL_law 791 = .ok (.if_icmp .eq 520, 3) := by decide +kernel
theorem dL_law_794 : decode cL_law 794 = .ok (.iconst 0, 1) := by decide +kernel
theorem dL_law_795 : decode cL_law 795 = .ok (.ireturn, 1) := by decide +kernel
theorem dL_law_796 : decode cL_law 796 = .ok (.aload_n 1, 1) := by decide +kernel
theorem dL_law_797 : decode cL_law 797 = .ok (.aload_n 0, 1) := by decide +kernel
theorem dL_law_798 : decode cL_law 798 = .ok (.iload_n 3, 1) := by decide +kernel
theorem dL_law_799 : decode cL_law 799 = .ok (.iconst 1, 1) := by decide +kernel
theorem dL_law_800 : decode cL_law 800 = .ok (.iadd, 1) := by decide +kernel
theorem dL_law_801 : decode cL_law 801 = .ok (.iaload, 1) := by decide +kernel
theorem dL_law_802 : decode cL_law 802 = .ok (.invokevirtual 96, 3) := by decide +kernel
theorem dL_law_805 : decode cL_law 805 = .ok (.aload_n 2, 1) := by decide +kernel
theorem dL_law_806 : decode cL_law 806 = .ok (.aload_n 0, 1) := by decide +kernel
theorem dL_law_807 : decode cL_law 807 = .ok (.iload_n 3, 1) := by decide +kernel
theorem dL_law_808 : decode cL_law 808 = .ok (.iconst 1, 1) := by decide +kernel
theorem dL_law_809 : decode cL_law 809 = .ok (.iadd, 1) := by decide +kernel
theorem dL_law_810 : decode cL_law 810 = .ok (.iaload, 1) := by decide +kernel
theorem dL_law_811 : decode cL_law 811 = .ok (.invokevirtual 99, 3) := by decide +kernel
theorem dL_law_814 : decode cL_law 814 = .ok (.if_icmp .eq 497, 3) := by decide +kernel
theorem dL_law_817 : decode cL_law 817 = .ok (.iconst 0, 1) := by decide +kernel
theorem dL_law_818 : decode cL_law 818 = .ok (.ireturn, 1) := by decide +kernel
theorem dL_law_819 : decode cL_law 819 = .ok (.aload_n 1, 1) := by decide +kernel
theorem dL_law_820 : decode cL_law 820 = .ok (.aload_n 0, 1) := by decide +kernel
theorem dL_law_821 : decode cL_law 821 = .ok (.iload_n 3, 1) := by decide +kernel
theorem dL_law_822 : decode cL_law 822 = .ok (.iconst 1, 1) := by decide +kernel
theorem dL_law_823 : decode cL_law 823 = .ok (.iadd, 1) := by decide +kernel
theorem dL_law_824 : decode cL_law 824 = .ok (.iaload, 1) := by decide +kernel
theorem dL_law_825 : decode cL_law 825 = .ok (.aload_n 0, 1) := by decide +kernel
theorem dL_law_826 : decode cL_law 826 = .ok (.iload_n 3, 1) := by decide +kernel
theorem dL_law_827 : decode cL_law 827 = .ok (.iconst 2, 1) := by decide +kernel
theorem dL_law_828 : decode cL_law 828 = .ok (.iadd, 1) := by decide +kernel
theorem dL_law_829 : decode cL_law 829 = .ok (.iaload, 1) := by decide +kernel
theorem dL_law_830 : decode cL_law 830 = .ok (.invokevirtual 100, 3) := by decide +kernel
theorem dL_law_833 : decode cL_law 833 = .ok (.aload_n 2, 1) := by decide +kernel
theorem dL_law_834 : decode cL_law 834 = .ok (.aload_n 0, 1) := by decide +kernel
theorem dL_law_835 : decode cL_law 835 = .ok (.iload_n 3, 1) := by decide +kernel
theorem dL_law_836 : decode cL_law 836 = .ok (.iconst 1, 1) := by decide +kernel
theorem dL_law_837 : decode cL_law 837 = .ok (.iadd, 1) := by decide +kernel
theorem dL_law_838 : decode cL_law 838 = .ok (.iaload, 1) := by decide +kernel
theorem dL_law_839 : decode cL_law 839 = .ok (.aload_n 0, 1) := by decide +kernel
theorem dL_law_840 : decode cL_law 840 = .ok (.iload_n 3, 1) := by decide +kernel
theorem dL_law_841 : decode cL_law 841 = .ok (.iconst 2, 1) := by decide +kernel
theorem dL_law_842 : decode cL_law 842 = .ok (.iadd, 1) := by decide +kernel
theorem dL_law_843 : decode cL_law 843 = .ok (.iaload, 1) := by decide +kernel
theorem dL_law_844 : decode cL_law 844 = .ok (.invokevirtual 103, 3) := by decide +kernel
theorem dL_law_847 : decode cL_law 847 = .ok (.if_icmp .eq 464, 3) := by decide +kernel
theorem dL_law_850 : decode cL_law 850 = .ok (.iconst 0, 1) := by decide +kernel
theorem dL_law_851 : decode cL_law 851 = .ok (.ireturn, 1) := by decide +kernel
theorem dL_law_852 : decode cL_law 852 = .ok (.aload_n 1, 1) := by decide +kernel
theorem dL_law_853 : decode cL_law 853 = .ok (.aload_n 0, 1) := by decide +kernel
theorem dL_law_854 : decode cL_law 854 = .ok (.iload_n 3, 1) := by decide +kernel
theorem dL_law_855 : decode cL_law 855 = .ok (.iconst 1, 1) := by decide +kernel
theorem dL_law_856 : decode cL_law 856 = .ok (.iadd, 1) := by decide +kernel
theorem dL_law_857 : decode cL_law 857 = .ok (.iaload, 1) := by decide +kernel
theorem dL_law_858 : decode cL_law 858 = .ok (.invokevirtual 104, 3) := by decide +kernel
theorem dL_law_861 : decode cL_law 861 = .ok (.aload_n 2, 1) := by decide +kernel
theorem dL_law_862 : decode cL_law 862 = .ok (.aload_n 0, 1) := by decide +kernel
theorem dL_law_863 : decode cL_law 863 = .ok (.iload_n 3, 1) := by decide +kernel
theorem dL_law_864 : decode cL_law 864 = .ok (.iconst 1, 1) := by decide +kernel
theorem dL_law_865 : decode cL_law 865 = .ok (.iadd, 1) := by decide +kernel
theorem dL_law_866 : decode cL_law 866 = .ok (.iaload, 1) := by decide +kernel
theorem dL_law_867 : decode cL_law 867 = .ok (.invokevirtual 107, 3) := by decide +kernel
theorem dL_law_870 : decode cL_law 870 = .ok (.if_icmp .eq 441, 3) := by decide +kernel
theorem dL_law_873 : decode cL_law 873 = .ok (.iconst 0, 1) := by decide +kernel
theorem dL_law_874 : decode cL_law 874 = .ok (.ireturn, 1) := by decide +kernel
theorem dL_law_875 : decode cL_law 875 = .ok (.aload_n 1, 1) := by decide +kernel
theorem dL_law_876 : decode cL_law 876 = .ok (.aload_n 0, 1) := by decide +kernel
theorem dL_law_877 : decode cL_law 877 = .ok (.iload_n 3, 1) := by decide +kernel
theorem dL_law_878 : decode cL_law 878 = .ok (.iconst 1, 1) := by decide +kernel
theorem dL_law_879 : decode cL_law 879 = .ok (.iadd, 1) := by decide +kernel
theorem dL_law_880 : decode cL_law 880 = .ok (.iaload, 1) := by decide +kernel
theorem dL_law_881 : decode cL_law 881 = .ok (.invokevirtual 108, 3) := by decide +kernel
theorem dL_law_884 : decode cL_law 884 = .ok (.aload_n 2, 1) := by decide +kernel
theorem dL_law_885 : decode cL_law 885 = .ok (.aload_n 0, 1) := by decide +kernel
theorem dL_law_886 : decode cL_law 886 = .ok (.iload_n 3, 1) := by decide +kernel
theorem dL_law_887 : decode cL_law 887 = .ok (.iconst 1, 1) := by decide +kernel
theorem dL_law_888 : decode cL_law 888 = .ok (.iadd, 1) := by decide +kernel
theorem dL_law_889 : decode cL_law 889 = .ok (.iaload, 1) := by decide +kernel
theorem dL_law_890 : decode cL_law 890 = .ok (.invokevirtual 111, 3) := by decide +kernel
theorem dL_law_893 : decode cL_law 893 = .ok (.if_icmp .eq 418, 3) := by decide +kernel
theorem dL_law_896 : decode cL_law 896 = .ok (.iconst 0, 1) := by decide +kernel
theorem dL_law_897 : decode cL_law 897 = .ok (.ireturn, 1) := by decide +kernel
theorem dL_law_898 : decode cL_law 898 = .ok (.aload_n 1, 1) := by decide +kernel
theorem dL_law_899 : decode cL_law 899 = .ok (.invokevirtual 112, 3) := by decide +kernel
theorem dL_law_902 : decode cL_law 902 = .ok (.aload_n 2, 1) := by decide +kernel
theorem dL_law_903 : decode cL_law 903 = .ok (.invokevirtual 115, 3) := by decide +kernel
theorem dL_law_906 : decode cL_law 906 = .ok (.if_icmp .eq 405, 3) := by decide +kernel
theorem dL_law_909 : decode cL_law 909 = .ok (.iconst 0, 1) := by decide +kernel
theorem dL_law_910 : decode cL_law 910 = .ok (.ireturn, 1) := by decide +kernel
theorem dL_law_911 : decode cL_law 911 = .ok (.aload_n 1, 1) := by decide +kernel
theorem dL_law_912 : decode cL_law 912 = .ok (.invokevirtual 116, 3) := by decide +kernel
theorem dL_law_915 : decode cL_law 915 = .ok (.aload_n 2, 1) := by decide +kernel
theorem dL_law_916 : decode cL_law 916 = .ok (.invokevirtual 119, 3) := by decide +kernel
theorem dL_law_919 : decode cL_law 919 = .ok (.if_icmp .eq 392, 3) := by decide +kernel
theorem dL_law_922 : decode cL_law 922 = .ok (.iconst 0, 1) := by decide +kernel
theorem dL_law_923 : decode cL_law 923 = .ok (.ireturn, 1) := by decide +kernel
theorem dL_law_924 : decode cL_law 924 = .ok (.aload_n 1, 1) := by decide +kernel
theorem dL_law_925 : decode cL_law 925 = .ok (.aload_n 0, 1) := by decide +kernel
theorem dL_law_926 : decode cL_law 926 = .ok (.iload_n 3, 1) := by decide +kernel
theorem dL_law_927 : decode cL_law 927 = .ok (.iconst 1, 1) := by decide +kernel
theorem dL_law_928 : decode cL_law 928 = .ok (.iadd, 1) := by decide +kernel
theorem dL_law_929 : decode cL_law 929 = .ok (.iaload, 1) := by decide +kernel
theorem dL_law_930 : decode cL_law 930 = .ok (.invokevirtual 120, 3) := by decide +kernel
theorem dL_law_933 : decode cL_law 933 = .ok (.aload_n 2, 1) := by decide +kernel
theorem dL_law_934 : decode cL_law 934 = .ok (.aload_n 0, 1) := by decide +kernel
theorem dL_law_935 : decode cL_law 935 = .ok (.iload_n 3, 1) := by decide +kernel
theorem dL_law_936 : decode cL_law 936 = .ok (.iconst 1, 1) := by decide +kernel
theorem dL_law_937 : decode cL_law 937 = .ok (.iadd, 1) := by decide +kernel
theorem dL_law_938 : decode cL_law 938 = .ok (.iaload, 1) := by decide +kernel
theorem dL_law_939 : decode cL_law 939 = .ok (.invokevirtual 123, 3) := by decide +kernel
theorem dL_law_942 : decode cL_law 942 = .ok (.if_icmp .eq 369, 3) := by decide +kernel
theorem dL_law_945 : decode cL_law 945 = .ok (.iconst 0, 1) := by decide +kernel
theorem dL_law_946 : decode cL_law 946 = .ok (.ireturn, 1) := by decide +kernel
theorem dL_law_947 : decode cL_law 947 = .ok (.aload_n 1, 1) := by decide +kernel
theorem dL_law_948 : decode cL_law 948 = .ok (.invokevirtual 124, 3) := by decide +kernel
theorem dL_law_951 : decode cL_law 951 = .ok (.aload_n 2, 1) := by decide +kernel
theorem dL_law_952 : decode cL_law 952 = .ok (.invokevirtual 128, 3) := by decide +kernel
theorem dL_law_955 : decode cL_law 955 = .ok (.lcmp, 1) := by decide +kernel
theorem dL_law_956 : decode cL_law 956 = .ok (.ifCond .eq 355, 3) := by decide +kernel
theorem dL_law_959 : decode cL_law 959 = .ok (.iconst 0, 1) := by decide +kernel
theorem dL_law_960 : decode cL_law 960 = .ok (.ireturn, 1) := by decide +kernel
theorem dL_law_961 : decode cL_law 961 = .ok (.aload_n 1, 1) := by decide +kernel
theorem dL_law_962 : decode cL_law 962 = .ok (.invokevirtual 129, 3) := by decide +kernel
theorem dL_law_965 : decode cL_law 965 = .ok (.aload_n 2, 1) := by decide +kernel
theorem dL_law_966 : decode cL_law 966 = .ok (.invokevirtual 132, 3) := by decide +kernel
theorem dL_law_969 : decode cL_law 969 = .ok (.if_icmp .eq 342, 3) := by decide +kernel
theorem dL_law_972 : decode cL_law 972 = .ok (.iconst 0, 1) := by decide +kernel
theorem dL_law_973 : decode cL_law 973 = .ok (.ireturn, 1) := by decide +kernel
theorem dL_law_974 : decode cL_law 974 = .ok (.aload_n 1, 1) := by decide +kernel
theorem dL_law_975 : decode cL_law 975 = .ok (.invokevirtual 133, 3) := by decide +kernel
theorem dL_law_978 : decode cL_law 978 = .ok (.aload_n 2, 1) := by decide +kernel
theorem dL_law_979 : decode cL_law 979 = .ok (.invokevirtual 136, 3) := by decide +kernel
theorem dL_law_982 : decode cL_law 982 = .ok (.if_icmp .eq 329, 3) := by decide +kernel
theorem dL_law_985 : decode cL_law 985 = .ok (.iconst 0, 1) := by decide +kernel
theorem dL_law_986 : decode cL_law 986 = .ok (.ireturn, 1) := by decide +kernel
theorem dL_law_987 : decode cL_law 987 = .ok (.aload_n 1, 1) := by decide +kernel
theorem dL_law_988 : decode cL_law 988 = .ok (.aload_n 0, 1) := by decide +kernel
theorem dL_law_989 : decode cL_law 989 = .ok (.iload_n 3, 1) := by decide +kernel
theorem dL_law_990 : decode cL_law 990 = .ok (.iconst 1, 1) := by decide +kernel
theorem dL_law_991 : decode cL_law 991 = .ok (.iadd, 1) := by decide +kernel
theorem dL_law_992 : decode cL_law 992 = .ok (.iaload, 1) := by decide +kernel
theorem dL_law_993 : decode cL_law 993 = .ok (.aload_n 0, 1) := by decide +kernel
theorem dL_law_994 : decode cL_law 994 = .ok (.iload_n 3, 1) := by decide +kernel
theorem dL_law_995 : decode cL_law 995 = .ok (.iconst 2, 1) := by decide +kernel
theorem dL_law_996 : decode cL_law 996 = .ok (.iadd, 1) := by decide +kernel
theorem dL_law_997 : decode cL_law 997 = .ok (.iaload, 1) := by decide +kernel
theorem dL_law_998 : decode cL_law 998 = .ok (.aload_n 0, 1) := by decide +kernel
theorem dL_law_999 : decode cL_law 999 = .ok (.iload_n 3, 1) := by decide +kernel
theorem dL_law_1000 : decode cL_law 1000 = .ok (.iconst 3, 1) := by decide +kernel
theorem dL_law_1001 : decode cL_law 1001 = .ok (.iadd, 1) := by decide +kernel
theorem dL_law_1002 : decode cL_law 1002 = .ok (.iaload, 1) := by decide +kernel
theorem dL_law_1003 : decode cL_law 1003 = .ok (.invokevirtual 137, 3) := by decide +kernel
theorem dL_law_1006 : decode cL_law 1006 = .ok (.aload_n 2, 1) := by decide +kernel
theorem dL_law_1007 : decode cL_law 1007 = .ok (.aload_n 0, 1) := by decide +kernel
theorem dL_law_1008 : decode cL_law 1008 = .ok (.iload_n 3, 1) := by decide +kernel
theorem dL_law_1009 : decode cL_law 1009 = .ok (.iconst 1, 1) := by decide +kernel
theorem dL_law_1010 : decode cL_law 1010 = .ok (.iadd, 1) := by decide +kernel
theorem dL_law_1011 : decode cL_law 1011 = .ok (.iaload, 1) := by decide +kernel
theorem dL_law_1012 : decode cL_law 1012 = .ok (.aload_n 0, 1) := by decide +kernel
theorem dL_law_1013 : decode cL_law 1013 = .ok (.iload_n 3, 1) := by decide +kernel
theorem dL_law_1014 : decode cL_law 1014 = .ok (.iconst 2, 1) := by decide +kernel
theorem dL_law_1015 : decode cL_law 1015 = .ok (.iadd, 1) := by decide +kernel
theorem dL_law_1016 : decode cL_law 1016 = .ok (.iaload, 1) := by decide +kernel
theorem dL_law_1017 : decode cL_law 1017 = .ok (.aload_n 0, 1) := by decide +kernel
theorem dL_law_1018 : decode cL_law 1018 = .ok (.iload_n 3, 1) := by decide +kernel
theorem dL_law_1019 : decode cL_law 1019 = .ok (.iconst 3, 1) := by decide +kernel
theorem dL_law_1020 : decode cL_law 1020 = .ok (.iadd, 1) := by decide +kernel
theorem dL_law_1021 : decode cL_law 1021 = .ok (.iaload, 1) := by decide +kernel
theorem dL_law_1022 : decode cL_law 1022 = .ok (.invokevirtual 140, 3) := by decide +kernel
theorem dL_law_1025 : decode cL_law 1025 = .ok (.if_icmp .eq 286, 3) := by decide +kernel
theorem dL_law_1028 : decode cL_law 1028 = .ok (.iconst 0, 1) := by decide +kernel
theorem dL_law_1029 : decode cL_law 1029 = .ok (.ireturn, 1) := by decide +kernel
theorem dL_law_1030 : decode cL_law 1030 = .ok (.aload_n 1, 1) := by decide +kernel
theorem dL_law_1031 : decode cL_law 1031 = .ok (.aload_n 0, 1) := by decide +kernel
theorem dL_law_1032 : decode cL_law 1032 = .ok (.iload_n 3, 1) := by decide +kernel
theorem dL_law_1033 : decode cL_law 1033 = .ok (.iconst 1, 1) := by decide +kernel
theorem dL_law_1034 : decode cL_law 1034 = .ok (.iadd, 1) := by decide +kernel
theorem dL_law_1035 : decode cL_law 1035 = .ok (.iaload, 1) := by decide +kernel
theorem dL_law_1036 : decode cL_law 1036 = .ok (.aload_n 0, 1) := by decide +kernel
theorem dL_law_1037 : decode cL_law 1037 = .ok (.iload_n 3, 1) := by decide +kernel
theorem dL_law_1038 : decode cL_law 1038 = .ok (.iconst 2, 1) := by decide +kernel
theorem dL_law_1039 : decode cL_law 1039 = .ok (.iadd, 1) := by decide +kernel
theorem dL_law_1040 : decode cL_law 1040 = .ok (.iaload, 1) := by decide +kernel
theorem dL_law_1041 : decode cL_law 1041 = .ok (.invokevirtual 141, 3) := by decide +kernel
theorem dL_law_1044 : decode cL_law 1044 = .ok (.aload_n 2, 1) := by decide +kernel
theorem dL_law_1045 : decode cL_law 1045 = .ok (.aload_n 0, 1) := by decide +kernel
theorem dL_law_1046 : decode cL_law 1046 = .ok (.iload_n 3, 1) := by decide +kernel
theorem dL_law_1047 : decode cL_law 1047 = .ok (.iconst 1, 1) := by decide +kernel
theorem dL_law_1048 : decode cL_law 1048 = .ok (.iadd, 1) := by decide +kernel
theorem dL_law_1049 : decode cL_law 1049 = .ok (.iaload, 1) := by decide +kernel
theorem dL_law_1050 : decode cL_law 1050 = .ok (.aload_n 0, 1) := by decide +kernel
theorem dL_law_1051 : decode cL_law 1051 = .ok (.iload_n 3, 1) := by decide +kernel
theorem dL_law_1052 : decode cL_law 1052 = .ok (.iconst 2, 1) := by decide +kernel
theorem dL_law_1053 : decode cL_law 1053 = .ok (.iadd, 1) := by decide +kernel
theorem dL_law_1054 : decode cL_law 1054 = .ok (.iaload, 1) := by decide +kernel
theorem dL_law_1055 : decode cL_law 1055 = .ok (.invokevirtual 144, 3) := by decide +kernel
theorem dL_law_1058 : decode cL_law 1058 = .ok (.if_icmp .eq 253, 3) := by decide +kernel
theorem dL_law_1061 : decode cL_law 1061 = .ok (.iconst 0, 1) := by decide +kernel
theorem dL_law_1062 : decode cL_law 1062 = .ok (.ireturn, 1) := by decide +kernel
theorem dL_law_1063 : decode cL_law 1063 = .ok (.aload_n 1, 1) := by decide +kernel
theorem dL_law_1064 : decode cL_law 1064 = .ok (.invokevirtual 145, 3) := by decide +kernel
theorem dL_law_1067 : decode cL_law 1067 = .ok (.aload_n 2, 1) := by decide +kernel
theorem dL_law_1068 : decode cL_law 1068 = .ok (.invokevirtual 148, 3) := by decide +kernel
theorem dL_law_1071 : decode cL_law 1071 = .ok (.if_icmp .eq 240, 3) := by decide +kernel
theorem dL_law_1074 : decode cL_law 1074 = .ok (.iconst 0, 1) := by decide +kernel
theorem dL_law_1075 : decode cL_law 1075 = .ok (.ireturn, 1) := by decide +kernel
theorem dL_law_1076 : decode cL_law 1076 = .ok (.aload_n 1, 1) := by decide +kernel
theorem dL_law_1077 : decode cL_law 1077 = .ok (.aload_n 0, 1) := by decide +kernel
theorem dL_law_1078 : decode cL_law 1078 = .ok (.iload_n 3, 1) := by decide +kernel
theorem dL_law_1079 : decode cL_law 1079 = .ok (.iconst 1, 1) := by decide +kernel
theorem dL_law_1080 : decode cL_law 1080 = .ok (.iadd, 1) := by decide +kernel
theorem dL_law_1081 : decode cL_law 1081 = .ok (.iaload, 1) := by decide +kernel
theorem dL_law_1082 : decode cL_law 1082 = .ok (.aload_n 0, 1) := by decide +kernel
theorem dL_law_1083 : decode cL_law 1083 = .ok (.iload_n 3, 1) := by decide +kernel
theorem dL_law_1084 : decode cL_law 1084 = .ok (.iconst 2, 1) := by decide +kernel
theorem dL_law_1085 : decode cL_law 1085 = .ok (.iadd, 1) := by decide +kernel
theorem dL_law_1086 : decode cL_law 1086 = .ok (.iaload, 1) := by decide +kernel
theorem dL_law_1087 : decode cL_law 1087 = .ok (.invokevirtual 149, 3) := by decide +kernel
theorem dL_law_1090 : decode cL_law 1090 = .ok (.aload_n 2, 1) := by decide +kernel
theorem dL_law_1091 : decode cL_law 1091 = .ok (.aload_n 0, 1) := by decide +kernel
theorem dL_law_1092 : decode cL_law 1092 = .ok (.iload_n 3, 1) := by decide +kernel
theorem dL_law_1093 : decode cL_law 1093 = .ok (.iconst 1, 1) := by decide +kernel
theorem dL_law_1094 : decode cL_law 1094 = .ok (.iadd, 1) := by decide +kernel
theorem dL_law_1095 : decode cL_law 1095 = .ok (.iaload, 1) := by decide +kernel
theorem dL_law_1096 : decode cL_law 1096 = .ok (.aload_n 0, 1) := by decide +kernel
theorem dL_law_1097 : decode cL_law 1097 = .ok (.iload_n 3, 1) := by decide +kernel
theorem dL_law_1098 : decode cL_law 1098 = .ok (.iconst 2, 1) := by decide +kernel
theorem dL_law_1099 : decode cL_law 1099 = .ok (.iadd, 1) := by decide +kernel
theorem dL_law_1100 : decode cL_law 1100 = .ok (.iaload, 1) := by decide +kernel
theorem dL_law_1101 : decode cL_law 1101 = .ok (.invokevirtual 152, 3) := by decide +kernel
theorem dL_law_1104 : decode cL_law 1104 = .ok (.if_icmp .eq 207, 3) := by decide +kernel
theorem dL_law_1107 : decode cL_law 1107 = .ok (.iconst 0, 1) := by decide +kernel
theorem dL_law_1108 : decode cL_law 1108 = .ok (.ireturn, 1) := by decide +kernel
theorem dL_law_1109 : decode cL_law 1109 = .ok (.aload_n 1, 1) := by decide +kernel
theorem dL_law_1110 : decode cL_law 1110 = .ok (.invokevirtual 153, 3) := by decide +kernel
theorem dL_law_1113 : decode cL_law 1113 = .ok (.aload_n 2, 1) := by decide +kernel
theorem dL_law_1114 : decode cL_law 1114 = .ok (.invokevirtual 156, 3) := by decide +kernel
theorem dL_law_1117 : decode cL_law 1117 = .ok (.if_icmp .eq 194, 3) := by decide +kernel
theorem dL_law_1120 : decode cL_law 1120 = .ok (.iconst 0, 1) := by decide +kernel
theorem dL_law_1121 : decode cL_law 1121 = .ok (.ireturn, 1) := by decide +kernel
theorem dL_law_1122 : decode cL_law 1122 = .ok (.aload_n 1, 1) := by decide +kernel
theorem dL_law_1123 : decode cL_law 1123 = .ok (.aload_n 0, 1) := by decide +kernel
theorem dL_law_1124 : decode cL_law 1124 = .ok (.iload_n 3, 1) := by decide +kernel
theorem dL_law_1125 : decode cL_law 1125 = .ok (.iconst 1, 1) := by decide +kernel
theorem dL_law_1126 : decode cL_law 1126 = .ok (.iadd, 1) := by decide +kernel
theorem dL_law_1127 : decode cL_law 1127 = .ok (.iaload, 1) := by decide +kernel
theorem dL_law_1128 : decode cL_law 1128 = .ok (.aload_n 0, 1) := by decide +kernel
theorem dL_law_1129 : decode cL_law 1129 = .ok (.iload_n 3, 1) := by decide +kernel
theorem dL_law_1130 : decode cL_law 1130 = .ok (.iconst 2, 1) := by decide +kernel
theorem dL_law_1131 : decode cL_law 1131 = .ok (.iadd, 1) := by decide +kernel
theorem dL_law_1132 : decode cL_law 1132 = .ok (.iaload, 1) := by decide +kernel
theorem dL_law_1133 : decode cL_law 1133 = .ok (.invokevirtual 157, 3) := by decide +kernel
theorem dL_law_1136 : decode cL_law 1136 = .ok (.aload_n 2, 1) := by decide +kernel
theorem dL_law_1137 : decode cL_law 1137 = .ok (.aload_n 0, 1) := by decide +kernel
theorem dL_law_1138 : decode cL_law 1138 = .ok (.iload_n 3, 1) := by decide +kernel
theorem dL_law_1139 : decode cL_law 1139 = .ok (.iconst 1, 1) := by decide +kernel
theorem dL_law_1140 : decode cL_law 1140 = .ok (.iadd, 1) := by decide +kernel
theorem dL_law_1141 : decode cL_law 1141 = .ok (.iaload, 1) := by decide +kernel
theorem dL_law_1142 : decode cL_law 1142 = .ok (.aload_n 0, 1) := by decide +kernel
theorem dL_law_1143 : decode cL_law 1143 = .ok (.iload_n 3, 1) := by decide +kernel
theorem dL_law_1144 : decode cL_law 1144 = .ok (.iconst 2, 1) := by decide +kernel
theorem dL_law_1145 : decode cL_law 1145 = .ok (.iadd, 1) := by decide +kernel
theorem dL_law_1146 : decode cL_law 1146 = .ok (.iaload, 1) := by decide +kernel
theorem dL_law_1147 : decode cL_law 1147 = .ok (.invokevirtual 160, 3) := by decide +kernel
theorem dL_law_1150 : decode cL_law 1150 = .ok (.if_icmp .eq 161, 3) := by decide +kernel
theorem dL_law_1153 : decode cL_law 1153 = .ok (.iconst 0, 1) := by decide +kernel
theorem dL_law_1154 : decode cL_law 1154 = .ok (.ireturn, 1) := by decide +kernel
theorem dL_law_1155 : decode cL_law 1155 = .ok (.aload_n 1, 1) := by decide +kernel
theorem dL_law_1156 : decode cL_law 1156 = .ok (.aload_n 0, 1) := by decide +kernel
theorem dL_law_1157 : decode cL_law 1157 = .ok (.iload_n 3, 1) := by decide +kernel
theorem dL_law_1158 : decode cL_law 1158 = .ok (.iconst 1, 1) := by decide +kernel
theorem dL_law_1159 : decode cL_law 1159 = .ok (.iadd, 1) := by decide +kernel
theorem dL_law_1160 : decode cL_law 1160 = .ok (.iaload, 1) := by decide +kernel
theorem dL_law_1161 : decode cL_law 1161 = .ok (.aload_n 0, 1) := by decide +kernel
theorem dL_law_1162 : decode cL_law 1162 = .ok (.iload_n 3, 1) := by decide +kernel
theorem dL_law_1163 : decode cL_law 1163 = .ok (.iconst 2, 1) := by decide +kernel
theorem dL_law_1164 : decode cL_law 1164 = .ok (.iadd, 1) := by decide +kernel
theorem dL_law_1165 : decode cL_law 1165 = .ok (.iaload, 1) := by decide +kernel
theorem dL_law_1166 : decode cL_law 1166 = .ok (.aload_n 0, 1) := by decide +kernel
theorem dL_law_1167 : decode cL_law 1167 = .ok (.iload_n 3, 1) := by decide +kernel
theorem dL_law_1168 : decode cL_law 1168 = .ok (.iconst 3, 1) := by decide +kernel
theorem dL_law_1169 : decode cL_law 1169 = .ok (.iadd, 1) := by decide +kernel
theorem dL_law_1170 : decode cL_law 1170 = .ok (.iaload, 1) := by decide +kernel
theorem dL_law_1171 : decode cL_law 1171 = .ok (.i2l, 1) := by decide +kernel
theorem dL_law_1172 : decode cL_law 1172 = .ok (.bipush 32, 2) := by decide +kernel
theorem dL_law_1174 : decode cL_law 1174 = .ok (.lshl, 1) := by decide +kernel
theorem dL_law_1175 : decode cL_law 1175 = .ok (.aload_n 0, 1) := by decide +kernel
theorem dL_law_1176 : decode cL_law 1176 = .ok (.iload_n 3, 1) := by decide +kernel
theorem dL_law_1177 : decode cL_law 1177 = .ok (.iconst 4, 1) := by decide +kernel
theorem dL_law_1178 : decode cL_law 1178 = .ok (.iadd, 1) := by decide +kernel
theorem dL_law_1179 : decode cL_law 1179 = .ok (.iaload, 1) := by decide +kernel
theorem dL_law_1180 : decode cL_law 1180 = .ok (.i2l, 1) := by decide +kernel
theorem dL_law_1181 : decode cL_law 1181 = .ok (.ldc2_w 161, 3) := by decide +kernel
theorem dL_law_1184 : decode cL_law 1184 = .ok (.land, 1) := by decide +kernel
theorem dL_law_1185 : decode cL_law 1185 = .ok (.lor, 1) := by decide +kernel
theorem dL_law_1186 : decode cL_law 1186 = .ok (.invokevirtual 163, 3) := by decide +kernel
theorem dL_law_1189 : decode cL_law 1189 = .ok (.aload_n 2, 1) := by decide +kernel
theorem dL_law_1190 : decode cL_law 1190 = .ok (.aload_n 0, 1) := by decide +kernel
theorem dL_law_1191 : decode cL_law 1191 = .ok (.iload_n 3, 1) := by decide +kernel
theorem dL_law_1192 : decode cL_law 1192 = .ok (.iconst 1, 1) := by decide +kernel
theorem dL_law_1193 : decode cL_law 1193 = .ok (.iadd, 1) := by decide +kernel
theorem dL_law_1194 : decode cL_law 1194 = .ok (.iaload, 1) := by decide +kernel
theorem dL_law_1195 : decode cL_law 1195 = .ok (.aload_n 0, 1) := by decide +kernel
theorem dL_law_1196 : decode cL_law 1196 = .ok (.iload_n 3, 1) := by decide +kernel
theorem dL_law_1197 : decode cL_law 1197 = .ok (.iconst 2, 1) := by decide +kernel
theorem dL_law_1198 : decode cL_law 1198 = .ok (.iadd, 1) := by decide +kernel
theorem dL_law_1199 : decode cL_law 1199 = .ok (.iaload, 1) := by decide +kernel
theorem dL_law_1200 : decode cL_law 1200 = .ok (.aload_n 0, 1) := by decide +kernel
theorem dL_law_1201 : decode cL_law 1201 = .ok (.iload_n 3, 1) := by decide +kernel
theorem dL_law_1202 : decode cL_law 1202 = .ok (.iconst 3, 1) := by decide +kernel
theorem dL_law_1203 : decode cL_law 1203 = .ok (.iadd, 1) := by decide +kernel
theorem dL_law_1204 : decode cL_law 1204 = .ok (.iaload, 1) := by decide +kernel
theorem dL_law_1205 : decode cL_law 1205 = .ok (.i2l, 1) := by decide +kernel
theorem dL_law_1206 : decode cL_law 1206 = .ok (.bipush 32, 2) := by decide +kernel
theorem dL_law_1208 : decode cL_law 1208 = .ok (.lshl, 1) := by decide +kernel
theorem dL_law_1209 : decode cL_law 1209 = .ok (.aload_n 0, 1) := by decide +kernel
theorem dL_law_1210 : decode cL_law 1210 = .ok (.iload_n 3, 1) := by decide +kernel
theorem dL_law_1211 : decode cL_law 1211 = .ok (.iconst 4, 1) := by decide +kernel
theorem dL_law_1212 : decode cL_law 1212 = .ok (.iadd, 1) := by decide +kernel
theorem dL_law_1213 : decode cL_law 1213 = .ok (.iaload, 1) := by decide +kernel
theorem dL_law_1214 : decode cL_law 1214 = .ok (.i2l, 1) := by decide +kernel
theorem dL_law_1215 : decode cL_law 1215 = .ok (.ldc2_w 161, 3) := by decide +kernel
theorem dL_law_1218 : decode cL_law 1218 = .ok (.land, 1) := by decide +kernel
theorem dL_law_1219 : decode cL_law 1219 = .ok (.lor, 1) := by decide +kernel
theorem dL_law_1220 : decode cL_law 1220 = .ok (.invokevirtual 167, 3) := by decide +kernel
theorem dL_law_1223 : decode cL_law 1223 = .ok (.if_icmp .eq 88, 3) := by decide +kernel
theorem dL_law_1226 : decode cL_law 1226 = .ok (.iconst 0, 1) := by decide +kernel
theorem dL_law_1227 : decode cL_law 1227 = .ok (.ireturn, 1) := by decide +kernel
theorem dL_law_1228 : decode cL_law 1228 = .ok (.aload_n 1, 1) := by decide +kernel
theorem dL_law_1229 : decode cL_law 1229 = .ok (.aload_n 0, 1) := by decide +kernel
theorem dL_law_1230 : decode cL_law 1230 = .ok (.iload_n 3, 1) := by decide +kernel
theorem dL_law_1231 : decode cL_law 1231 = .ok (.iconst 1, 1) := by decide +kernel
theorem dL_law_1232 : decode cL_law 1232 = .ok (.iadd, 1) := by decide +kernel
theorem dL_law_1233 : decode cL_law 1233 = .ok (.iaload, 1) := by decide +kernel
theorem dL_law_1234 : decode cL_law 1234 = .ok (.aload_n 0, 1) := by decide +kernel
theorem dL_law_1235 : decode cL_law 1235 = .ok (.iload_n 3, 1) := by decide +kernel
theorem dL_law_1236 : decode cL_law 1236 = .ok (.iconst 2, 1) := by decide +kernel
theorem dL_law_1237 : decode cL_law 1237 = .ok (.iadd, 1) := by decide +kernel
theorem dL_law_1238 : decode cL_law 1238 = .ok (.iaload, 1) := by decide +kernel
theorem dL_law_1239 : decode cL_law 1239 = .ok (.invokevirtual 168, 3) := by decide +kernel
theorem dL_law_1242 : decode cL_law 1242 = .ok (.aload_n 2, 1) := by decide +kernel
theorem dL_law_1243 : decode cL_law 1243 = .ok (.aload_n 0, 1) := by decide +kernel
theorem dL_law_1244 : decode cL_law 1244 = .ok (.iload_n 3, 1) := by decide +kernel
theorem dL_law_1245 : decode cL_law 1245 = .ok (.iconst 1, 1) := by decide +kernel
theorem dL_law_1246 : decode cL_law 1246 = .ok (.iadd, 1) := by decide +kernel
theorem dL_law_1247 : decode cL_law 1247 = .ok (.iaload, 1) := by decide +kernel
theorem dL_law_1248 : decode cL_law 1248 = .ok (.aload_n 0, 1) := by decide +kernel
theorem dL_law_1249 : decode cL_law 1249 = .ok (.iload_n 3, 1) := by decide +kernel
theorem dL_law_1250 : decode cL_law 1250 = .ok (.iconst 2, 1) := by decide +kernel
theorem dL_law_1251 : decode cL_law 1251 = .ok (.iadd, 1) := by decide +kernel
theorem dL_law_1252 : decode cL_law 1252 = .ok (.iaload, 1) := by decide +kernel
theorem dL_law_1253 : decode cL_law 1253 = .ok (.invokevirtual 171, 3) := by decide +kernel
theorem dL_law_1256 : decode cL_law 1256 = .ok (.lcmp, 1) := by decide +kernel
theorem dL_law_1257 : decode cL_law 1257 = .ok (.ifCond .eq 54, 3) := by decide +kernel
theorem dL_law_1260 : decode cL_law 1260 = .ok (.iconst 0, 1) := by decide +kernel
theorem dL_law_1261 : decode cL_law 1261 = .ok (.ireturn, 1) := by decide +kernel
theorem dL_law_1262 : decode cL_law 1262 = .ok (.aload_n 1, 1) := by decide +kernel
theorem dL_law_1263 : decode cL_law 1263 = .ok (.aload_n 0, 1) := by decide +kernel
theorem dL_law_1264 : decode cL_law 1264 = .ok (.iload_n 3, 1) := by decide +kernel
theorem dL_law_1265 : decode cL_law 1265 = .ok (.iconst 1, 1) := by decide +kernel
theorem dL_law_1266 : decode cL_law 1266 = .ok (.iadd, 1) := by decide +kernel
theorem dL_law_1267 : decode cL_law 1267 = .ok (.iaload, 1) := by decide +kernel
theorem dL_law_1268 : decode cL_law 1268 = .ok (.invokevirtual 172, 3) := by decide +kernel
theorem dL_law_1271 : decode cL_law 1271 = .ok (.aload_n 2, 1) := by decide +kernel
theorem dL_law_1272 : decode cL_law 1272 = .ok (.aload_n 0, 1) := by decide +kernel
theorem dL_law_1273 : decode cL_law 1273 = .ok (.iload_n 3, 1) := by decide +kernel
theorem dL_law_1274 : decode cL_law 1274 = .ok (.iconst 1, 1) := by decide +kernel
theorem dL_law_1275 : decode cL_law 1275 = .ok (.iadd, 1) := by decide +kernel
theorem dL_law_1276 : decode cL_law 1276 = .ok (.iaload, 1) := by decide +kernel
theorem dL_law_1277 : decode cL_law 1277 = .ok (.invokevirtual 175, 3) := by decide +kernel
theorem dL_law_1280 : decode cL_law 1280 = .ok (.if_icmp .eq 31, 3) := by decide +kernel
theorem dL_law_1283 : decode cL_law 1283 = .ok (.iconst 0, 1) := by decide +kernel
theorem dL_law_1284 : decode cL_law 1284 = .ok (.ireturn, 1) := by decide +kernel
theorem dL_law_1285 : decode cL_law 1285 = .ok (.aload_n 1, 1) := by decide +kernel
theorem dL_law_1286 : decode cL_law 1286 = .ok (.invokevirtual 176, 3) := by decide +kernel
theorem dL_law_1289 : decode cL_law 1289 = .ok (.aload_n 2, 1) := by decide +kernel
theorem dL_law_1290 : decode cL_law 1290 = .ok (.invokevirtual 179, 3) := by decide +kernel
theorem dL_law_1293 : decode cL_law 1293 = .ok (.if_icmp .eq 18, 3) := by decide +kernel
theorem dL_law_1296 : decode cL_law 1296 = .ok (.iconst 0, 1) := by decide +kernel
theorem dL_law_1297 : decode cL_law 1297 = .ok (.ireturn, 1) := by decide +kernel
theorem dL_law_1298 : decode cL_law 1298 = .ok (.aload_n 1, 1) := by decide +kernel
theorem dL_law_1299 : decode cL_law 1299 = .ok (.invokevirtual 180, 3) := by decide +kernel
theorem dL_law_1302 : decode cL_law 1302 = .ok (.aload_n 2, 1) := by decide +kernel
theorem dL_law_1303 : decode cL_law 1303 = .ok (.invokevirtual 183, 3) := by decide +kernel
theorem dL_law_1306 : decode cL_law 1306 = .ok (.if_icmp .eq 5, 3) := by decide +kernel
theorem dL_law_1309 : decode cL_law 1309 = .ok (.iconst 0, 1) := by decide +kernel
theorem dL_law_1310 : decode cL_law 1310 = .ok (.ireturn, 1) := by decide +kernel
theorem dL_law_1311 : decode cL_law 1311 = .ok (.iinc 3 5, 3) := by decide +kernel
theorem dL_law_1314 : decode cL_law 1314 = .ok (.goto (-1296), 3) := by decide +kernel
theorem dL_law_1317 : decode cL_law 1317 = .ok (.iconst 1, 1) := by decide +kernel
theorem dL_law_1318 : decode cL_law 1318 = .ok (.ireturn, 1) := by decide +kernel
