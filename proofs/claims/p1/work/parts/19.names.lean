theorem k1_0 : tables_1_1[0]? = some (Jvm.Cond.initialized "RingGuardLaw") := by decide +kernel
theorem k2_35 : tables_1_2[35]? = some (Jvm.Cond.methodLink "RingGuardLaw" (120 : Nat) ({ cls := "RingGuard", name := "visits", desc := "()I" } : Jvm.MethodName)) := by decide +kernel
theorem k2_36 : tables_1_2[36]? = some (Jvm.Cond.instanceMethod ({ cls := "RingGuard", name := "visits", desc := "()I" } : Jvm.MethodName)) := by decide +kernel
theorem k2_37 : tables_1_2[37]? = some (Jvm.Cond.selects "RingGuard" ({ cls := "RingGuard", name := "visits", desc := "()I" } : Jvm.MethodName) ({ cls := "RingGuard", name := "visits", desc := "()I" } : Jvm.MethodName)) := by decide +kernel
theorem k2_38 : tables_1_2[38]? = some (Jvm.Cond.code ({ cls := "RingGuard", name := "visits", desc := "()I" } : Jvm.MethodName) prog_1_method_14_code (1 : Nat) (Option.some Jvm.ClassFile.FieldType.int)) := rfl
theorem k2_39 : tables_1_2[39]? = some (Jvm.Cond.methodLink "RingGuardLaw" (136 : Nat) ({ cls := "RingGuard", name := "casts", desc := "()I" } : Jvm.MethodName)) := by decide +kernel
theorem k2_40 : tables_1_2[40]? = some (Jvm.Cond.instanceMethod ({ cls := "RingGuard", name := "casts", desc := "()I" } : Jvm.MethodName)) := by decide +kernel
theorem k2_41 : tables_1_2[41]? = some (Jvm.Cond.selects "RingGuard" ({ cls := "RingGuard", name := "casts", desc := "()I" } : Jvm.MethodName) ({ cls := "RingGuard", name := "casts", desc := "()I" } : Jvm.MethodName)) := by decide +kernel
theorem k2_42 : tables_1_2[42]? = some (Jvm.Cond.code ({ cls := "RingGuard", name := "casts", desc := "()I" } : Jvm.MethodName) prog_1_method_19_code (1 : Nat) (Option.some Jvm.ClassFile.FieldType.int)) := rfl
theorem k2_47 : tables_1_2[47]? = some (Jvm.Cond.methodLink "RingGuardLaw" (140 : Nat) ({ cls := "RingGuard", name := "lost", desc := "()I" } : Jvm.MethodName)) := by decide +kernel
theorem k2_48 : tables_1_2[48]? = some (Jvm.Cond.instanceMethod ({ cls := "RingGuard", name := "lost", desc := "()I" } : Jvm.MethodName)) := by decide +kernel
theorem k2_49 : tables_1_2[49]? = some (Jvm.Cond.selects "RingGuard" ({ cls := "RingGuard", name := "lost", desc := "()I" } : Jvm.MethodName) ({ cls := "RingGuard", name := "lost", desc := "()I" } : Jvm.MethodName)) := by decide +kernel
theorem k2_50 : tables_1_2[50]? = some (Jvm.Cond.code ({ cls := "RingGuard", name := "lost", desc := "()I" } : Jvm.MethodName) prog_1_method_20_code (1 : Nat) (Option.some Jvm.ClassFile.FieldType.int)) := rfl
theorem k2_51 : tables_1_2[51]? = some (Jvm.Cond.methodLink "RingGuardLaw" (144 : Nat) ({ cls := "RingGuard", name := "circles", desc := "()I" } : Jvm.MethodName)) := by decide +kernel
theorem k2_52 : tables_1_2[52]? = some (Jvm.Cond.instanceMethod ({ cls := "RingGuard", name := "circles", desc := "()I" } : Jvm.MethodName)) := by decide +kernel
theorem k2_53 : tables_1_2[53]? = some (Jvm.Cond.selects "RingGuard" ({ cls := "RingGuard", name := "circles", desc := "()I" } : Jvm.MethodName) ({ cls := "RingGuard", name := "circles", desc := "()I" } : Jvm.MethodName)) := by decide +kernel
theorem k2_54 : tables_1_2[54]? = some (Jvm.Cond.code ({ cls := "RingGuard", name := "circles", desc := "()I" } : Jvm.MethodName) prog_1_method_21_code (1 : Nat) (Option.some Jvm.ClassFile.FieldType.int)) := rfl
theorem k2_55 : tables_1_2[55]? = some (Jvm.Cond.methodLink "RingGuardLaw" (148 : Nat) ({ cls := "RingGuard", name := "apart", desc := "()I" } : Jvm.MethodName)) := by decide +kernel
theorem k2_56 : tables_1_2[56]? = some (Jvm.Cond.instanceMethod ({ cls := "RingGuard", name := "apart", desc := "()I" } : Jvm.MethodName)) := by decide +kernel
theorem k2_57 : tables_1_2[57]? = some (Jvm.Cond.selects "RingGuard" ({ cls := "RingGuard", name := "apart", desc := "()I" } : Jvm.MethodName) ({ cls := "RingGuard", name := "apart", desc := "()I" } : Jvm.MethodName)) := by decide +kernel
theorem k2_58 : tables_1_2[58]? = some (Jvm.Cond.code ({ cls := "RingGuard", name := "apart", desc := "()I" } : Jvm.MethodName) prog_1_method_22_code (1 : Nat) (Option.some Jvm.ClassFile.FieldType.int)) := rfl
theorem k2_59 : tables_1_2[59]? = some (Jvm.Cond.methodLink "RingGuardLaw" (73 : Nat) ({ cls := "RingGuardLaw", name := "bridge", desc := "(LRingGuard;[J)I" } : Jvm.MethodName)) := by decide +kernel
theorem k2_60 : tables_1_2[60]? = some (Jvm.Cond.static ({ cls := "RingGuardLaw", name := "bridge", desc := "(LRingGuard;[J)I" } : Jvm.MethodName)) := by decide +kernel
theorem k2_61 : tables_1_2[61]? = some (Jvm.Cond.codeWith ({ cls := "RingGuardLaw", name := "bridge", desc := "(LRingGuard;[J)I" } : Jvm.MethodName) method_3_code (3 : Nat) (Option.some Jvm.ClassFile.FieldType.int) [((0 : Nat), (8 : Nat), (11 : Nat), (13 : Nat))]) := rfl
theorem k2_139 : tables_1_2[139]? = some (Jvm.Cond.methodLink "RingGuardLaw" (82 : Nat) ({ cls := "RingGuardLaw", name := "link", desc := "(LRingGuard;III[J)I" } : Jvm.MethodName)) := by decide +kernel
theorem k2_140 : tables_1_2[140]? = some (Jvm.Cond.static ({ cls := "RingGuardLaw", name := "link", desc := "(LRingGuard;III[J)I" } : Jvm.MethodName)) := by decide +kernel
theorem k2_141 : tables_1_2[141]? = some (Jvm.Cond.codeWith ({ cls := "RingGuardLaw", name := "link", desc := "(LRingGuard;III[J)I" } : Jvm.MethodName) method_4_code (6 : Nat) (Option.some Jvm.ClassFile.FieldType.int) [((0 : Nat), (12 : Nat), (15 : Nat), (19 : Nat)), ((0 : Nat), (12 : Nat), (19 : Nat), (13 : Nat))]) := rfl
theorem k2_178 : tables_1_2[178]? = some (Jvm.Cond.methodLink "RingGuardLaw" (86 : Nat) ({ cls := "RingGuardLaw", name := "owner", desc := "(LRingGuard;III)I" } : Jvm.MethodName)) := by decide +kernel
theorem k2_179 : tables_1_2[179]? = some (Jvm.Cond.static ({ cls := "RingGuardLaw", name := "owner", desc := "(LRingGuard;III)I" } : Jvm.MethodName)) := by decide +kernel
theorem k2_180 : tables_1_2[180]? = some (Jvm.Cond.codeWith ({ cls := "RingGuardLaw", name := "owner", desc := "(LRingGuard;III)I" } : Jvm.MethodName) method_5_code (5 : Nat) (Option.some Jvm.ClassFile.FieldType.int) [((0 : Nat), (7 : Nat), (10 : Nat), (19 : Nat)), ((0 : Nat), (7 : Nat), (14 : Nat), (13 : Nat))]) := rfl
theorem k2_190 : tables_1_2[190]? = some (Jvm.Cond.methodLink "RingGuardLaw" (90 : Nat) ({ cls := "RingGuardLaw", name := "start", desc := "(LRingGuard;[J)I" } : Jvm.MethodName)) := by decide +kernel
theorem k2_191 : tables_1_2[191]? = some (Jvm.Cond.static ({ cls := "RingGuardLaw", name := "start", desc := "(LRingGuard;[J)I" } : Jvm.MethodName)) := by decide +kernel
theorem k2_192 : tables_1_2[192]? = some (Jvm.Cond.codeWith ({ cls := "RingGuardLaw", name := "start", desc := "(LRingGuard;[J)I" } : Jvm.MethodName) method_6_code (3 : Nat) (Option.some Jvm.ClassFile.FieldType.int) [((0 : Nat), (8 : Nat), (11 : Nat), (13 : Nat))]) := rfl
theorem k3_48 : tables_1_3[48]? = some (Jvm.Cond.methodLink "RingGuardLaw" (93 : Nat) ({ cls := "RingGuardLaw", name := "fail", desc := "(LRingGuard;I[J)I" } : Jvm.MethodName)) := by decide +kernel
theorem k3_49 : tables_1_3[49]? = some (Jvm.Cond.static ({ cls := "RingGuardLaw", name := "fail", desc := "(LRingGuard;I[J)I" } : Jvm.MethodName)) := by decide +kernel
theorem k3_50 : tables_1_3[50]? = some (Jvm.Cond.codeWith ({ cls := "RingGuardLaw", name := "fail", desc := "(LRingGuard;I[J)I" } : Jvm.MethodName) method_7_code (4 : Nat) (Option.some Jvm.ClassFile.FieldType.int) [((0 : Nat), (16 : Nat), (19 : Nat), (19 : Nat)), ((0 : Nat), (16 : Nat), (22 : Nat), (13 : Nat))]) := rfl
theorem k3_94 : tables_1_3[94]? = some (Jvm.Cond.methodLink "RingGuardLaw" (97 : Nat) ({ cls := "RingGuardLaw", name := "heal", desc := "(LRingGuard;I[J)I" } : Jvm.MethodName)) := by decide +kernel
theorem k3_95 : tables_1_3[95]? = some (Jvm.Cond.static ({ cls := "RingGuardLaw", name := "heal", desc := "(LRingGuard;I[J)I" } : Jvm.MethodName)) := by decide +kernel
theorem k3_96 : tables_1_3[96]? = some (Jvm.Cond.codeWith ({ cls := "RingGuardLaw", name := "heal", desc := "(LRingGuard;I[J)I" } : Jvm.MethodName) method_8_code (4 : Nat) (Option.some Jvm.ClassFile.FieldType.int) [((0 : Nat), (16 : Nat), (19 : Nat), (19 : Nat)), ((0 : Nat), (16 : Nat), (22 : Nat), (13 : Nat))]) := rfl
theorem k3_109 : tables_1_3[109]? = some (Jvm.Cond.methodLink "RingGuardLaw" (100 : Nat) ({ cls := "RingGuardLaw", name := "lose", desc := "(LRingGuard;II[J)I" } : Jvm.MethodName)) := by decide +kernel
theorem k3_110 : tables_1_3[110]? = some (Jvm.Cond.static ({ cls := "RingGuardLaw", name := "lose", desc := "(LRingGuard;II[J)I" } : Jvm.MethodName)) := by decide +kernel
theorem k3_111 : tables_1_3[111]? = some (Jvm.Cond.codeWith ({ cls := "RingGuardLaw", name := "lose", desc := "(LRingGuard;II[J)I" } : Jvm.MethodName) method_9_code (5 : Nat) (Option.some Jvm.ClassFile.FieldType.int) [((0 : Nat), (10 : Nat), (13 : Nat), (19 : Nat)), ((0 : Nat), (10 : Nat), (17 : Nat), (13 : Nat))]) := rfl
theorem k3_117 : tables_1_3[117]? = some (Jvm.Cond.methodLink "RingGuardLaw" (104 : Nat) ({ cls := "RingGuardLaw", name := "order", desc := "(LRingGuard;IIZ[J)I" } : Jvm.MethodName)) := by decide +kernel
theorem k3_118 : tables_1_3[118]? = some (Jvm.Cond.static ({ cls := "RingGuardLaw", name := "order", desc := "(LRingGuard;IIZ[J)I" } : Jvm.MethodName)) := by decide +kernel
theorem k3_119 : tables_1_3[119]? = some (Jvm.Cond.codeWith ({ cls := "RingGuardLaw", name := "order", desc := "(LRingGuard;IIZ[J)I" } : Jvm.MethodName) method_10_code (6 : Nat) (Option.some Jvm.ClassFile.FieldType.int) [((0 : Nat), (19 : Nat), (22 : Nat), (19 : Nat)), ((0 : Nat), (19 : Nat), (26 : Nat), (13 : Nat))]) := rfl
theorem k3_142 : tables_1_3[142]? = some (Jvm.Cond.methodLink "RingGuardLaw" (108 : Nat) ({ cls := "RingGuardLaw", name := "clear", desc := "(LRingGuard;II[J)I" } : Jvm.MethodName)) := by decide +kernel
theorem k3_143 : tables_1_3[143]? = some (Jvm.Cond.static ({ cls := "RingGuardLaw", name := "clear", desc := "(LRingGuard;II[J)I" } : Jvm.MethodName)) := by decide +kernel
theorem k3_144 : tables_1_3[144]? = some (Jvm.Cond.codeWith ({ cls := "RingGuardLaw", name := "clear", desc := "(LRingGuard;II[J)I" } : Jvm.MethodName) method_11_code (5 : Nat) (Option.some Jvm.ClassFile.FieldType.int) [((0 : Nat), (17 : Nat), (20 : Nat), (19 : Nat)), ((0 : Nat), (17 : Nat), (24 : Nat), (13 : Nat))]) := rfl
theorem k3_150 : tables_1_3[150]? = some (Jvm.Cond.methodLink "RingGuardLaw" (111 : Nat) ({ cls := "RingGuardLaw", name := "ticks", desc := "(LRingGuard;I[J)I" } : Jvm.MethodName)) := by decide +kernel
theorem k3_151 : tables_1_3[151]? = some (Jvm.Cond.static ({ cls := "RingGuardLaw", name := "ticks", desc := "(LRingGuard;I[J)I" } : Jvm.MethodName)) := by decide +kernel
theorem k3_152 : tables_1_3[152]? = some (Jvm.Cond.codeWith ({ cls := "RingGuardLaw", name := "ticks", desc := "(LRingGuard;I[J)I" } : Jvm.MethodName) method_12_code (4 : Nat) (Option.some Jvm.ClassFile.FieldType.int) [((0 : Nat), (9 : Nat), (12 : Nat), (19 : Nat)), ((0 : Nat), (9 : Nat), (15 : Nat), (13 : Nat))]) := rfl
theorem k4_20 : tables_1_4[20]? = some (Jvm.Cond.methodLink "RingGuardLaw" (114 : Nat) ({ cls := "RingGuardLaw", name := "host", desc := "(LRingGuard;II[J)I" } : Jvm.MethodName)) := by decide +kernel
theorem k4_21 : tables_1_4[21]? = some (Jvm.Cond.static ({ cls := "RingGuardLaw", name := "host", desc := "(LRingGuard;II[J)I" } : Jvm.MethodName)) := by decide +kernel
theorem k4_22 : tables_1_4[22]? = some (Jvm.Cond.codeWith ({ cls := "RingGuardLaw", name := "host", desc := "(LRingGuard;II[J)I" } : Jvm.MethodName) method_13_code (5 : Nat) (Option.some Jvm.ClassFile.FieldType.int) [((0 : Nat), (10 : Nat), (13 : Nat), (19 : Nat)), ((0 : Nat), (10 : Nat), (17 : Nat), (13 : Nat))]) := rfl
theorem k4_36 : tables_1_4[36]? = some (Jvm.Cond.methodLink "RingGuardLaw" (117 : Nat) ({ cls := "RingGuardLaw", name := "send", desc := "(LRingGuard;III[J)I" } : Jvm.MethodName)) := by decide +kernel
theorem k4_37 : tables_1_4[37]? = some (Jvm.Cond.static ({ cls := "RingGuardLaw", name := "send", desc := "(LRingGuard;III[J)I" } : Jvm.MethodName)) := by decide +kernel
theorem k4_38 : tables_1_4[38]? = some (Jvm.Cond.codeWith ({ cls := "RingGuardLaw", name := "send", desc := "(LRingGuard;III[J)I" } : Jvm.MethodName) method_14_code (6 : Nat) (Option.some Jvm.ClassFile.FieldType.int) [((0 : Nat), (12 : Nat), (15 : Nat), (19 : Nat)), ((0 : Nat), (12 : Nat), (19 : Nat), (13 : Nat))]) := rfl
theorem k4_78 : tables_1_4[78]? = some (Jvm.Cond.methodLink "RingGuardLaw" (124 : Nat) ({ cls := "RingGuardLaw", name := "holds", desc := "(LRingGuard;II[J)I" } : Jvm.MethodName)) := by decide +kernel
theorem k4_79 : tables_1_4[79]? = some (Jvm.Cond.static ({ cls := "RingGuardLaw", name := "holds", desc := "(LRingGuard;II[J)I" } : Jvm.MethodName)) := by decide +kernel
theorem k4_80 : tables_1_4[80]? = some (Jvm.Cond.codeWith ({ cls := "RingGuardLaw", name := "holds", desc := "(LRingGuard;II[J)I" } : Jvm.MethodName) method_15_code (5 : Nat) (Option.some Jvm.ClassFile.FieldType.int) [((0 : Nat), (10 : Nat), (13 : Nat), (19 : Nat))]) := rfl
theorem k4_85 : tables_1_4[85]? = some (Jvm.Cond.methodLink "RingGuardLaw" (127 : Nat) ({ cls := "RingGuardLaw", name := "told", desc := "(LRingGuard;III[J)I" } : Jvm.MethodName)) := by decide +kernel
theorem k4_86 : tables_1_4[86]? = some (Jvm.Cond.static ({ cls := "RingGuardLaw", name := "told", desc := "(LRingGuard;III[J)I" } : Jvm.MethodName)) := by decide +kernel
theorem k4_87 : tables_1_4[87]? = some (Jvm.Cond.codeWith ({ cls := "RingGuardLaw", name := "told", desc := "(LRingGuard;III[J)I" } : Jvm.MethodName) method_16_code (6 : Nat) (Option.some Jvm.ClassFile.FieldType.int) [((0 : Nat), (12 : Nat), (15 : Nat), (19 : Nat))]) := rfl
theorem k4_93 : tables_1_4[93]? = some (Jvm.Cond.methodLink "RingGuardLaw" (130 : Nat) ({ cls := "RingGuardLaw", name := "learned", desc := "(LRingGuard;III[J)I" } : Jvm.MethodName)) := by decide +kernel
theorem k4_94 : tables_1_4[94]? = some (Jvm.Cond.static ({ cls := "RingGuardLaw", name := "learned", desc := "(LRingGuard;III[J)I" } : Jvm.MethodName)) := by decide +kernel
theorem k4_95 : tables_1_4[95]? = some (Jvm.Cond.codeWith ({ cls := "RingGuardLaw", name := "learned", desc := "(LRingGuard;III[J)I" } : Jvm.MethodName) method_17_code (6 : Nat) (Option.some Jvm.ClassFile.FieldType.int) [((0 : Nat), (12 : Nat), (15 : Nat), (19 : Nat))]) := rfl
theorem k4_101 : tables_1_4[101]? = some (Jvm.Cond.methodLink "RingGuardLaw" (133 : Nat) ({ cls := "RingGuardLaw", name := "joined", desc := "(LRingGuard;II[J)I" } : Jvm.MethodName)) := by decide +kernel
theorem k4_102 : tables_1_4[102]? = some (Jvm.Cond.static ({ cls := "RingGuardLaw", name := "joined", desc := "(LRingGuard;II[J)I" } : Jvm.MethodName)) := by decide +kernel
theorem k4_103 : tables_1_4[103]? = some (Jvm.Cond.codeWith ({ cls := "RingGuardLaw", name := "joined", desc := "(LRingGuard;II[J)I" } : Jvm.MethodName) method_18_code (5 : Nat) (Option.some Jvm.ClassFile.FieldType.int) [((0 : Nat), (17 : Nat), (20 : Nat), (19 : Nat))]) := rfl
theorem k5_34 : tables_1_5[34]? = some (Jvm.Cond.methodLink "RingGuardLaw" (79 : Nat) ({ cls := "RingGuardModel", name := "thrown", desc := "()I" } : Jvm.MethodName)) := by decide +kernel
theorem k5_35 : tables_1_5[35]? = some (Jvm.Cond.instanceMethod ({ cls := "RingGuardModel", name := "thrown", desc := "()I" } : Jvm.MethodName)) := by decide +kernel
theorem k5_36 : tables_1_5[36]? = some (Jvm.Cond.selects "RingGuardModel" ({ cls := "RingGuardModel", name := "thrown", desc := "()I" } : Jvm.MethodName) ({ cls := "RingGuardModel", name := "thrown", desc := "()I" } : Jvm.MethodName)) := by decide +kernel
theorem k5_37 : tables_1_5[37]? = some (Jvm.Cond.code ({ cls := "RingGuardModel", name := "thrown", desc := "()I" } : Jvm.MethodName) prog_10_method_2_code (1 : Nat) (Option.some Jvm.ClassFile.FieldType.int)) := rfl
theorem k5_38 : tables_1_5[38]? = some (Jvm.Cond.methodLink "RingGuardLaw" (78 : Nat) ({ cls := "RingGuardModel", name := "bridge", desc := "()I" } : Jvm.MethodName)) := by decide +kernel
theorem k5_39 : tables_1_5[39]? = some (Jvm.Cond.instanceMethod ({ cls := "RingGuardModel", name := "bridge", desc := "()I" } : Jvm.MethodName)) := by decide +kernel
theorem k5_40 : tables_1_5[40]? = some (Jvm.Cond.selects "RingGuardModel" ({ cls := "RingGuardModel", name := "bridge", desc := "()I" } : Jvm.MethodName) ({ cls := "RingGuardModel", name := "bridge", desc := "()I" } : Jvm.MethodName)) := by decide +kernel
theorem k5_41 : tables_1_5[41]? = some (Jvm.Cond.code ({ cls := "RingGuardModel", name := "bridge", desc := "()I" } : Jvm.MethodName) prog_10_method_9_code (1 : Nat) (Option.some Jvm.ClassFile.FieldType.int)) := rfl
theorem k5_42 : tables_1_5[42]? = some (Jvm.Cond.methodLink "RingGuardLaw" (85 : Nat) ({ cls := "RingGuardModel", name := "link", desc := "(III)I" } : Jvm.MethodName)) := by decide +kernel
theorem k5_43 : tables_1_5[43]? = some (Jvm.Cond.instanceMethod ({ cls := "RingGuardModel", name := "link", desc := "(III)I" } : Jvm.MethodName)) := by decide +kernel
theorem k5_44 : tables_1_5[44]? = some (Jvm.Cond.selects "RingGuardModel" ({ cls := "RingGuardModel", name := "link", desc := "(III)I" } : Jvm.MethodName) ({ cls := "RingGuardModel", name := "link", desc := "(III)I" } : Jvm.MethodName)) := by decide +kernel
theorem k5_45 : tables_1_5[45]? = some (Jvm.Cond.code ({ cls := "RingGuardModel", name := "link", desc := "(III)I" } : Jvm.MethodName) prog_10_method_10_code (4 : Nat) (Option.some Jvm.ClassFile.FieldType.int)) := rfl
theorem k5_57 : tables_1_5[57]? = some (Jvm.Cond.methodLink "RingGuardLaw" (89 : Nat) ({ cls := "RingGuardModel", name := "owner", desc := "(III)V" } : Jvm.MethodName)) := by decide +kernel
theorem k5_58 : tables_1_5[58]? = some (Jvm.Cond.instanceMethod ({ cls := "RingGuardModel", name := "owner", desc := "(III)V" } : Jvm.MethodName)) := by decide +kernel
theorem k5_59 : tables_1_5[59]? = some (Jvm.Cond.selects "RingGuardModel" ({ cls := "RingGuardModel", name := "owner", desc := "(III)V" } : Jvm.MethodName) ({ cls := "RingGuardModel", name := "owner", desc := "(III)V" } : Jvm.MethodName)) := by decide +kernel
theorem k5_60 : tables_1_5[60]? = some (Jvm.Cond.code ({ cls := "RingGuardModel", name := "owner", desc := "(III)V" } : Jvm.MethodName) prog_10_method_11_code (4 : Nat) (Option.none : Option Jvm.ClassFile.FieldType)) := rfl
theorem k5_65 : tables_1_5[65]? = some (Jvm.Cond.methodLink "RingGuardLaw" (92 : Nat) ({ cls := "RingGuardModel", name := "start", desc := "()I" } : Jvm.MethodName)) := by decide +kernel
theorem k5_66 : tables_1_5[66]? = some (Jvm.Cond.instanceMethod ({ cls := "RingGuardModel", name := "start", desc := "()I" } : Jvm.MethodName)) := by decide +kernel
theorem k5_67 : tables_1_5[67]? = some (Jvm.Cond.selects "RingGuardModel" ({ cls := "RingGuardModel", name := "start", desc := "()I" } : Jvm.MethodName) ({ cls := "RingGuardModel", name := "start", desc := "()I" } : Jvm.MethodName)) := by decide +kernel
theorem k5_68 : tables_1_5[68]? = some (Jvm.Cond.code ({ cls := "RingGuardModel", name := "start", desc := "()I" } : Jvm.MethodName) prog_10_method_20_code (5 : Nat) (Option.some Jvm.ClassFile.FieldType.int)) := rfl
theorem k5_136 : tables_1_5[136]? = some (Jvm.Cond.methodLink "RingGuardLaw" (96 : Nat) ({ cls := "RingGuardModel", name := "fail", desc := "(I)Z" } : Jvm.MethodName)) := by decide +kernel
theorem k5_137 : tables_1_5[137]? = some (Jvm.Cond.instanceMethod ({ cls := "RingGuardModel", name := "fail", desc := "(I)Z" } : Jvm.MethodName)) := by decide +kernel
theorem k5_138 : tables_1_5[138]? = some (Jvm.Cond.selects "RingGuardModel" ({ cls := "RingGuardModel", name := "fail", desc := "(I)Z" } : Jvm.MethodName) ({ cls := "RingGuardModel", name := "fail", desc := "(I)Z" } : Jvm.MethodName)) := by decide +kernel
theorem k5_139 : tables_1_5[139]? = some (Jvm.Cond.code ({ cls := "RingGuardModel", name := "fail", desc := "(I)Z" } : Jvm.MethodName) prog_10_method_31_code (4 : Nat) (Option.some Jvm.ClassFile.FieldType.boolean)) := rfl
theorem k5_160 : tables_1_5[160]? = some (Jvm.Cond.methodLink "RingGuardLaw" (99 : Nat) ({ cls := "RingGuardModel", name := "heal", desc := "(I)Z" } : Jvm.MethodName)) := by decide +kernel
theorem k5_161 : tables_1_5[161]? = some (Jvm.Cond.instanceMethod ({ cls := "RingGuardModel", name := "heal", desc := "(I)Z" } : Jvm.MethodName)) := by decide +kernel
theorem k5_162 : tables_1_5[162]? = some (Jvm.Cond.selects "RingGuardModel" ({ cls := "RingGuardModel", name := "heal", desc := "(I)Z" } : Jvm.MethodName) ({ cls := "RingGuardModel", name := "heal", desc := "(I)Z" } : Jvm.MethodName)) := by decide +kernel
theorem k5_163 : tables_1_5[163]? = some (Jvm.Cond.code ({ cls := "RingGuardModel", name := "heal", desc := "(I)Z" } : Jvm.MethodName) prog_10_method_32_code (2 : Nat) (Option.some Jvm.ClassFile.FieldType.boolean)) := rfl
theorem k5_168 : tables_1_5[168]? = some (Jvm.Cond.methodLink "RingGuardLaw" (103 : Nat) ({ cls := "RingGuardModel", name := "lose", desc := "(II)I" } : Jvm.MethodName)) := by decide +kernel
theorem k5_169 : tables_1_5[169]? = some (Jvm.Cond.instanceMethod ({ cls := "RingGuardModel", name := "lose", desc := "(II)I" } : Jvm.MethodName)) := by decide +kernel
theorem k5_170 : tables_1_5[170]? = some (Jvm.Cond.selects "RingGuardModel" ({ cls := "RingGuardModel", name := "lose", desc := "(II)I" } : Jvm.MethodName) ({ cls := "RingGuardModel", name := "lose", desc := "(II)I" } : Jvm.MethodName)) := by decide +kernel
theorem k5_171 : tables_1_5[171]? = some (Jvm.Cond.code ({ cls := "RingGuardModel", name := "lose", desc := "(II)I" } : Jvm.MethodName) prog_10_method_33_code (4 : Nat) (Option.some Jvm.ClassFile.FieldType.int)) := rfl
theorem k5_172 : tables_1_5[172]? = some (Jvm.Cond.methodLink "RingGuardLaw" (107 : Nat) ({ cls := "RingGuardModel", name := "order", desc := "(IIZ)Z" } : Jvm.MethodName)) := by decide +kernel
theorem k5_173 : tables_1_5[173]? = some (Jvm.Cond.instanceMethod ({ cls := "RingGuardModel", name := "order", desc := "(IIZ)Z" } : Jvm.MethodName)) := by decide +kernel
theorem k5_174 : tables_1_5[174]? = some (Jvm.Cond.selects "RingGuardModel" ({ cls := "RingGuardModel", name := "order", desc := "(IIZ)Z" } : Jvm.MethodName) ({ cls := "RingGuardModel", name := "order", desc := "(IIZ)Z" } : Jvm.MethodName)) := by decide +kernel
theorem k5_175 : tables_1_5[175]? = some (Jvm.Cond.code ({ cls := "RingGuardModel", name := "order", desc := "(IIZ)Z" } : Jvm.MethodName) prog_10_method_34_code (8 : Nat) (Option.some Jvm.ClassFile.FieldType.boolean)) := rfl
theorem k5_180 : tables_1_5[180]? = some (Jvm.Cond.methodLink "RingGuardLaw" (110 : Nat) ({ cls := "RingGuardModel", name := "clear", desc := "(II)Z" } : Jvm.MethodName)) := by decide +kernel
theorem k5_181 : tables_1_5[181]? = some (Jvm.Cond.instanceMethod ({ cls := "RingGuardModel", name := "clear", desc := "(II)Z" } : Jvm.MethodName)) := by decide +kernel
theorem k5_182 : tables_1_5[182]? = some (Jvm.Cond.selects "RingGuardModel" ({ cls := "RingGuardModel", name := "clear", desc := "(II)Z" } : Jvm.MethodName) ({ cls := "RingGuardModel", name := "clear", desc := "(II)Z" } : Jvm.MethodName)) := by decide +kernel
theorem k5_183 : tables_1_5[183]? = some (Jvm.Cond.code ({ cls := "RingGuardModel", name := "clear", desc := "(II)Z" } : Jvm.MethodName) prog_10_method_35_code (4 : Nat) (Option.some Jvm.ClassFile.FieldType.boolean)) := rfl
theorem k5_184 : tables_1_5[184]? = some (Jvm.Cond.methodLink "RingGuardLaw" (113 : Nat) ({ cls := "RingGuardModel", name := "ticks", desc := "(I)I" } : Jvm.MethodName)) := by decide +kernel
theorem k5_185 : tables_1_5[185]? = some (Jvm.Cond.instanceMethod ({ cls := "RingGuardModel", name := "ticks", desc := "(I)I" } : Jvm.MethodName)) := by decide +kernel
theorem k5_186 : tables_1_5[186]? = some (Jvm.Cond.selects "RingGuardModel" ({ cls := "RingGuardModel", name := "ticks", desc := "(I)I" } : Jvm.MethodName) ({ cls := "RingGuardModel", name := "ticks", desc := "(I)I" } : Jvm.MethodName)) := by decide +kernel
theorem k5_187 : tables_1_5[187]? = some (Jvm.Cond.code ({ cls := "RingGuardModel", name := "ticks", desc := "(I)I" } : Jvm.MethodName) prog_10_method_46_code (3 : Nat) (Option.some Jvm.ClassFile.FieldType.int)) := rfl
theorem k5_224 : tables_1_5[224]? = some (Jvm.Cond.methodLink "RingGuardLaw" (116 : Nat) ({ cls := "RingGuardModel", name := "host", desc := "(II)I" } : Jvm.MethodName)) := by decide +kernel
theorem k5_225 : tables_1_5[225]? = some (Jvm.Cond.instanceMethod ({ cls := "RingGuardModel", name := "host", desc := "(II)I" } : Jvm.MethodName)) := by decide +kernel
theorem k5_226 : tables_1_5[226]? = some (Jvm.Cond.selects "RingGuardModel" ({ cls := "RingGuardModel", name := "host", desc := "(II)I" } : Jvm.MethodName) ({ cls := "RingGuardModel", name := "host", desc := "(II)I" } : Jvm.MethodName)) := by decide +kernel
theorem k5_227 : tables_1_5[227]? = some (Jvm.Cond.code ({ cls := "RingGuardModel", name := "host", desc := "(II)I" } : Jvm.MethodName) prog_10_method_51_code (6 : Nat) (Option.some Jvm.ClassFile.FieldType.int)) := rfl
theorem k5_228 : tables_1_5[228]? = some (Jvm.Cond.methodLink "RingGuardLaw" (119 : Nat) ({ cls := "RingGuardModel", name := "send", desc := "(III)I" } : Jvm.MethodName)) := by decide +kernel
theorem k5_229 : tables_1_5[229]? = some (Jvm.Cond.instanceMethod ({ cls := "RingGuardModel", name := "send", desc := "(III)I" } : Jvm.MethodName)) := by decide +kernel
theorem k5_230 : tables_1_5[230]? = some (Jvm.Cond.selects "RingGuardModel" ({ cls := "RingGuardModel", name := "send", desc := "(III)I" } : Jvm.MethodName) ({ cls := "RingGuardModel", name := "send", desc := "(III)I" } : Jvm.MethodName)) := by decide +kernel
theorem k5_231 : tables_1_5[231]? = some (Jvm.Cond.code ({ cls := "RingGuardModel", name := "send", desc := "(III)I" } : Jvm.MethodName) prog_10_method_53_code (12 : Nat) (Option.some Jvm.ClassFile.FieldType.int)) := rfl
theorem k6_0 : tables_1_6[0]? = some (Jvm.Cond.methodLink "RingGuardLaw" (123 : Nat) ({ cls := "RingGuardModel", name := "visits", desc := "()I" } : Jvm.MethodName)) := by decide +kernel
theorem k6_1 : tables_1_6[1]? = some (Jvm.Cond.instanceMethod ({ cls := "RingGuardModel", name := "visits", desc := "()I" } : Jvm.MethodName)) := by decide +kernel
theorem k6_2 : tables_1_6[2]? = some (Jvm.Cond.selects "RingGuardModel" ({ cls := "RingGuardModel", name := "visits", desc := "()I" } : Jvm.MethodName) ({ cls := "RingGuardModel", name := "visits", desc := "()I" } : Jvm.MethodName)) := by decide +kernel
theorem k6_3 : tables_1_6[3]? = some (Jvm.Cond.code ({ cls := "RingGuardModel", name := "visits", desc := "()I" } : Jvm.MethodName) prog_10_method_54_code (1 : Nat) (Option.some Jvm.ClassFile.FieldType.int)) := rfl
theorem k6_4 : tables_1_6[4]? = some (Jvm.Cond.methodLink "RingGuardLaw" (126 : Nat) ({ cls := "RingGuardModel", name := "holds", desc := "(II)I" } : Jvm.MethodName)) := by decide +kernel
theorem k6_5 : tables_1_6[5]? = some (Jvm.Cond.instanceMethod ({ cls := "RingGuardModel", name := "holds", desc := "(II)I" } : Jvm.MethodName)) := by decide +kernel
theorem k6_6 : tables_1_6[6]? = some (Jvm.Cond.selects "RingGuardModel" ({ cls := "RingGuardModel", name := "holds", desc := "(II)I" } : Jvm.MethodName) ({ cls := "RingGuardModel", name := "holds", desc := "(II)I" } : Jvm.MethodName)) := by decide +kernel
theorem k6_7 : tables_1_6[7]? = some (Jvm.Cond.code ({ cls := "RingGuardModel", name := "holds", desc := "(II)I" } : Jvm.MethodName) prog_10_method_55_code (3 : Nat) (Option.some Jvm.ClassFile.FieldType.int)) := rfl
theorem k6_8 : tables_1_6[8]? = some (Jvm.Cond.methodLink "RingGuardLaw" (129 : Nat) ({ cls := "RingGuardModel", name := "told", desc := "(III)I" } : Jvm.MethodName)) := by decide +kernel
theorem k6_9 : tables_1_6[9]? = some (Jvm.Cond.instanceMethod ({ cls := "RingGuardModel", name := "told", desc := "(III)I" } : Jvm.MethodName)) := by decide +kernel
theorem k6_10 : tables_1_6[10]? = some (Jvm.Cond.selects "RingGuardModel" ({ cls := "RingGuardModel", name := "told", desc := "(III)I" } : Jvm.MethodName) ({ cls := "RingGuardModel", name := "told", desc := "(III)I" } : Jvm.MethodName)) := by decide +kernel
theorem k6_11 : tables_1_6[11]? = some (Jvm.Cond.code ({ cls := "RingGuardModel", name := "told", desc := "(III)I" } : Jvm.MethodName) prog_10_method_56_code (4 : Nat) (Option.some Jvm.ClassFile.FieldType.int)) := rfl
theorem k6_12 : tables_1_6[12]? = some (Jvm.Cond.methodLink "RingGuardLaw" (132 : Nat) ({ cls := "RingGuardModel", name := "learned", desc := "(III)I" } : Jvm.MethodName)) := by decide +kernel
theorem k6_13 : tables_1_6[13]? = some (Jvm.Cond.instanceMethod ({ cls := "RingGuardModel", name := "learned", desc := "(III)I" } : Jvm.MethodName)) := by decide +kernel
theorem k6_14 : tables_1_6[14]? = some (Jvm.Cond.selects "RingGuardModel" ({ cls := "RingGuardModel", name := "learned", desc := "(III)I" } : Jvm.MethodName) ({ cls := "RingGuardModel", name := "learned", desc := "(III)I" } : Jvm.MethodName)) := by decide +kernel
theorem k6_15 : tables_1_6[15]? = some (Jvm.Cond.code ({ cls := "RingGuardModel", name := "learned", desc := "(III)I" } : Jvm.MethodName) prog_10_method_57_code (4 : Nat) (Option.some Jvm.ClassFile.FieldType.int)) := rfl
theorem k6_16 : tables_1_6[16]? = some (Jvm.Cond.methodLink "RingGuardLaw" (135 : Nat) ({ cls := "RingGuardModel", name := "joined", desc := "(II)Z" } : Jvm.MethodName)) := by decide +kernel
theorem k6_17 : tables_1_6[17]? = some (Jvm.Cond.instanceMethod ({ cls := "RingGuardModel", name := "joined", desc := "(II)Z" } : Jvm.MethodName)) := by decide +kernel
theorem k6_18 : tables_1_6[18]? = some (Jvm.Cond.selects "RingGuardModel" ({ cls := "RingGuardModel", name := "joined", desc := "(II)Z" } : Jvm.MethodName) ({ cls := "RingGuardModel", name := "joined", desc := "(II)Z" } : Jvm.MethodName)) := by decide +kernel
theorem k6_19 : tables_1_6[19]? = some (Jvm.Cond.code ({ cls := "RingGuardModel", name := "joined", desc := "(II)Z" } : Jvm.MethodName) prog_10_method_58_code (5 : Nat) (Option.some Jvm.ClassFile.FieldType.boolean)) := rfl
theorem k6_20 : tables_1_6[20]? = some (Jvm.Cond.methodLink "RingGuardLaw" (139 : Nat) ({ cls := "RingGuardModel", name := "casts", desc := "()I" } : Jvm.MethodName)) := by decide +kernel
theorem k6_21 : tables_1_6[21]? = some (Jvm.Cond.instanceMethod ({ cls := "RingGuardModel", name := "casts", desc := "()I" } : Jvm.MethodName)) := by decide +kernel
theorem k6_22 : tables_1_6[22]? = some (Jvm.Cond.selects "RingGuardModel" ({ cls := "RingGuardModel", name := "casts", desc := "()I" } : Jvm.MethodName) ({ cls := "RingGuardModel", name := "casts", desc := "()I" } : Jvm.MethodName)) := by decide +kernel
theorem k6_23 : tables_1_6[23]? = some (Jvm.Cond.code ({ cls := "RingGuardModel", name := "casts", desc := "()I" } : Jvm.MethodName) prog_10_method_59_code (3 : Nat) (Option.some Jvm.ClassFile.FieldType.int)) := rfl
theorem k6_24 : tables_1_6[24]? = some (Jvm.Cond.methodLink "RingGuardLaw" (143 : Nat) ({ cls := "RingGuardModel", name := "lost", desc := "()I" } : Jvm.MethodName)) := by decide +kernel
theorem k6_25 : tables_1_6[25]? = some (Jvm.Cond.instanceMethod ({ cls := "RingGuardModel", name := "lost", desc := "()I" } : Jvm.MethodName)) := by decide +kernel
theorem k6_26 : tables_1_6[26]? = some (Jvm.Cond.selects "RingGuardModel" ({ cls := "RingGuardModel", name := "lost", desc := "()I" } : Jvm.MethodName) ({ cls := "RingGuardModel", name := "lost", desc := "()I" } : Jvm.MethodName)) := by decide +kernel
theorem k6_27 : tables_1_6[27]? = some (Jvm.Cond.code ({ cls := "RingGuardModel", name := "lost", desc := "()I" } : Jvm.MethodName) prog_10_method_60_code (1 : Nat) (Option.some Jvm.ClassFile.FieldType.int)) := rfl
theorem k6_28 : tables_1_6[28]? = some (Jvm.Cond.methodLink "RingGuardLaw" (147 : Nat) ({ cls := "RingGuardModel", name := "circles", desc := "()I" } : Jvm.MethodName)) := by decide +kernel
theorem k6_29 : tables_1_6[29]? = some (Jvm.Cond.instanceMethod ({ cls := "RingGuardModel", name := "circles", desc := "()I" } : Jvm.MethodName)) := by decide +kernel
theorem k6_30 : tables_1_6[30]? = some (Jvm.Cond.selects "RingGuardModel" ({ cls := "RingGuardModel", name := "circles", desc := "()I" } : Jvm.MethodName) ({ cls := "RingGuardModel", name := "circles", desc := "()I" } : Jvm.MethodName)) := by decide +kernel
theorem k6_31 : tables_1_6[31]? = some (Jvm.Cond.code ({ cls := "RingGuardModel", name := "circles", desc := "()I" } : Jvm.MethodName) prog_10_method_61_code (1 : Nat) (Option.some Jvm.ClassFile.FieldType.int)) := rfl
theorem k6_32 : tables_1_6[32]? = some (Jvm.Cond.methodLink "RingGuardLaw" (151 : Nat) ({ cls := "RingGuardModel", name := "apart", desc := "()I" } : Jvm.MethodName)) := by decide +kernel
theorem k6_33 : tables_1_6[33]? = some (Jvm.Cond.instanceMethod ({ cls := "RingGuardModel", name := "apart", desc := "()I" } : Jvm.MethodName)) := by decide +kernel
theorem k6_34 : tables_1_6[34]? = some (Jvm.Cond.selects "RingGuardModel" ({ cls := "RingGuardModel", name := "apart", desc := "()I" } : Jvm.MethodName) ({ cls := "RingGuardModel", name := "apart", desc := "()I" } : Jvm.MethodName)) := by decide +kernel
theorem k6_35 : tables_1_6[35]? = some (Jvm.Cond.code ({ cls := "RingGuardModel", name := "apart", desc := "()I" } : Jvm.MethodName) prog_10_method_62_code (1 : Nat) (Option.some Jvm.ClassFile.FieldType.int)) := rfl
abbrev yLA_law : MethodName := ⟨"RingGuardLaw", "law", "([I)Z"⟩
abbrev bLA_law : ByteArray := code
theorem dLA_law_23 : decode bLA_law 23 = .ok (.iload 4, 2) := by decide +kernel
theorem dLA_law_25 : decode bLA_law 25 = .ok (.aload_n 0, 1) := by decide +kernel
theorem dLA_law_26 : decode bLA_law 26 = .ok (.arraylength, 1) := by decide +kernel
theorem dLA_law_27 : decode bLA_law 27 = .ok (.iconst 4, 1) := by decide +kernel
theorem dLA_law_28 : decode bLA_law 28 = .ok (.isub, 1) := by decide +kernel
theorem dLA_law_29 : decode bLA_law 29 = .ok (.if_icmp .gt 1285, 3) := by decide +kernel
theorem dLA_law_136 : decode bLA_law 136 = .ok (.aload_n 1, 1) := by decide +kernel
theorem dLA_law_137 : decode bLA_law 137 = .ok (.aload_n 3, 1) := by decide +kernel
theorem dLA_law_138 : decode bLA_law 138 = .ok (.invokestatic 73, 3) := by decide +kernel
theorem dLA_law_141 : decode bLA_law 141 = .ok (.istore 5, 2) := by decide +kernel
theorem dLA_law_143 : decode bLA_law 143 = .ok (.aload_n 2, 1) := by decide +kernel
theorem dLA_law_144 : decode bLA_law 144 = .ok (.invokevirtual 78, 3) := by decide +kernel
theorem dLA_law_147 : decode bLA_law 147 = .ok (.istore 6, 2) := by decide +kernel
theorem dLA_law_149 : decode bLA_law 149 = .ok (.aload_n 2, 1) := by decide +kernel
theorem dLA_law_150 : decode bLA_law 150 = .ok (.invokevirtual 79, 3) := by decide +kernel
theorem dLA_law_153 : decode bLA_law 153 = .ok (.iload 5, 2) := by decide +kernel
theorem dLA_law_155 : decode bLA_law 155 = .ok (.if_icmp .eq 5, 3) := by decide +kernel
theorem dLA_law_160 : decode bLA_law 160 = .ok (.iload 5, 2) := by decide +kernel
theorem dLA_law_162 : decode bLA_law 162 = .ok (.ifCond .ne 15, 3) := by decide +kernel
theorem dLA_law_165 : decode bLA_law 165 = .ok (.aload_n 3, 1) := by decide +kernel
theorem dLA_law_166 : decode bLA_law 166 = .ok (.iconst 0, 1) := by decide +kernel
theorem dLA_law_167 : decode bLA_law 167 = .ok (.laload, 1) := by decide +kernel
theorem dLA_law_168 : decode bLA_law 168 = .ok (.iload 6, 2) := by decide +kernel
theorem dLA_law_170 : decode bLA_law 170 = .ok (.i2l, 1) := by decide +kernel
theorem dLA_law_171 : decode bLA_law 171 = .ok (.lcmp, 1) := by decide +kernel
theorem dLA_law_172 : decode bLA_law 172 = .ok (.ifCond .eq 5, 3) := by decide +kernel
theorem dLA_law_177 : decode bLA_law 177 = .ok (.goto 1131, 3) := by decide +kernel
theorem dLA_law_180 : decode bLA_law 180 = .ok (.aload_n 1, 1) := by decide +kernel
theorem dLA_law_181 : decode bLA_law 181 = .ok (.aload_n 0, 1) := by decide +kernel
theorem dLA_law_182 : decode bLA_law 182 = .ok (.iload 4, 2) := by decide +kernel
theorem dLA_law_184 : decode bLA_law 184 = .ok (.iconst 1, 1) := by decide +kernel
theorem dLA_law_185 : decode bLA_law 185 = .ok (.iadd, 1) := by decide +kernel
theorem dLA_law_186 : decode bLA_law 186 = .ok (.iaload, 1) := by decide +kernel
theorem dLA_law_187 : decode bLA_law 187 = .ok (.aload_n 0, 1) := by decide +kernel
theorem dLA_law_188 : decode bLA_law 188 = .ok (.iload 4, 2) := by decide +kernel
theorem dLA_law_190 : decode bLA_law 190 = .ok (.iconst 2, 1) := by decide +kernel
theorem dLA_law_191 : decode bLA_law 191 = .ok (.iadd, 1) := by decide +kernel
theorem dLA_law_192 : decode bLA_law 192 = .ok (.iaload, 1) := by decide +kernel
theorem dLA_law_193 : decode bLA_law 193 = .ok (.aload_n 0, 1) := by decide +kernel
theorem dLA_law_194 : decode bLA_law 194 = .ok (.iload 4, 2) := by decide +kernel
theorem dLA_law_196 : decode bLA_law 196 = .ok (.iconst 3, 1) := by decide +kernel
theorem dLA_law_197 : decode bLA_law 197 = .ok (.iadd, 1) := by decide +kernel
theorem dLA_law_198 : decode bLA_law 198 = .ok (.iaload, 1) := by decide +kernel
theorem dLA_law_199 : decode bLA_law 199 = .ok (.aload_n 3, 1) := by decide +kernel
theorem dLA_law_200 : decode bLA_law 200 = .ok (.invokestatic 82, 3) := by decide +kernel
theorem dLA_law_203 : decode bLA_law 203 = .ok (.istore 5, 2) := by decide +kernel
theorem dLA_law_205 : decode bLA_law 205 = .ok (.aload_n 2, 1) := by decide +kernel
theorem dLA_law_206 : decode bLA_law 206 = .ok (.aload_n 0, 1) := by decide +kernel
theorem dLA_law_207 : decode bLA_law 207 = .ok (.iload 4, 2) := by decide +kernel
theorem dLA_law_209 : decode bLA_law 209 = .ok (.iconst 1, 1) := by decide +kernel
theorem dLA_law_210 : decode bLA_law 210 = .ok (.iadd, 1) := by decide +kernel
theorem dLA_law_211 : decode bLA_law 211 = .ok (.iaload, 1) := by decide +kernel
theorem dLA_law_212 : decode bLA_law 212 = .ok (.aload_n 0, 1) := by decide +kernel
theorem dLA_law_213 : decode bLA_law 213 = .ok (.iload 4, 2) := by decide +kernel
theorem dLA_law_215 : decode bLA_law 215 = .ok (.iconst 2, 1) := by decide +kernel
theorem dLA_law_216 : decode bLA_law 216 = .ok (.iadd, 1) := by decide +kernel
theorem dLA_law_217 : decode bLA_law 217 = .ok (.iaload, 1) := by decide +kernel
theorem dLA_law_218 : decode bLA_law 218 = .ok (.aload_n 0, 1) := by decide +kernel
theorem dLA_law_219 : decode bLA_law 219 = .ok (.iload 4, 2) := by decide +kernel
theorem dLA_law_221 : decode bLA_law 221 = .ok (.iconst 3, 1) := by decide +kernel
theorem dLA_law_222 : decode bLA_law 222 = .ok (.iadd, 1) := by decide +kernel
theorem dLA_law_223 : decode bLA_law 223 = .ok (.iaload, 1) := by decide +kernel
theorem dLA_law_224 : decode bLA_law 224 = .ok (.invokevirtual 85, 3) := by decide +kernel
theorem dLA_law_227 : decode bLA_law 227 = .ok (.istore 6, 2) := by decide +kernel
theorem dLA_law_229 : decode bLA_law 229 = .ok (.aload_n 2, 1) := by decide +kernel
theorem dLA_law_230 : decode bLA_law 230 = .ok (.invokevirtual 79, 3) := by decide +kernel
theorem dLA_law_233 : decode bLA_law 233 = .ok (.iload 5, 2) := by decide +kernel
theorem dLA_law_235 : decode bLA_law 235 = .ok (.if_icmp .eq 5, 3) := by decide +kernel
theorem dLA_law_240 : decode bLA_law 240 = .ok (.iload 5, 2) := by decide +kernel
theorem dLA_law_242 : decode bLA_law 242 = .ok (.ifCond .ne 15, 3) := by decide +kernel
theorem dLA_law_257 : decode bLA_law 257 = .ok (.goto 1051, 3) := by decide +kernel
theorem dLA_law_260 : decode bLA_law 260 = .ok (.aload_n 1, 1) := by decide +kernel
theorem dLA_law_261 : decode bLA_law 261 = .ok (.aload_n 0, 1) := by decide +kernel
theorem dLA_law_262 : decode bLA_law 262 = .ok (.iload 4, 2) := by decide +kernel
theorem dLA_law_264 : decode bLA_law 264 = .ok (.iconst 1, 1) := by decide +kernel
theorem dLA_law_265 : decode bLA_law 265 = .ok (.iadd, 1) := by decide +kernel
theorem dLA_law_266 : decode bLA_law 266 = .ok (.iaload, 1) := by decide +kernel
theorem dLA_law_267 : decode bLA_law 267 = .ok (.aload_n 0, 1) := by decide +kernel
theorem dLA_law_268 : decode bLA_law 268 = .ok (.iload 4, 2) := by decide +kernel
theorem dLA_law_270 : decode bLA_law 270 = .ok (.iconst 2, 1) := by decide +kernel
theorem dLA_law_271 : decode bLA_law 271 = .ok (.iadd, 1) := by decide +kernel
theorem dLA_law_272 : decode bLA_law 272 = .ok (.iaload, 1) := by decide +kernel
theorem dLA_law_273 : decode bLA_law 273 = .ok (.aload_n 0, 1) := by decide +kernel
theorem dLA_law_274 : decode bLA_law 274 = .ok (.iload 4, 2) := by decide +kernel
theorem dLA_law_276 : decode bLA_law 276 = .ok (.iconst 3, 1) := by decide +kernel
theorem dLA_law_277 : decode bLA_law 277 = .ok (.iadd, 1) := by decide +kernel
theorem dLA_law_278 : decode bLA_law 278 = .ok (.iaload, 1) := by decide +kernel
theorem dLA_law_279 : decode bLA_law 279 = .ok (.invokestatic 86, 3) := by decide +kernel
theorem dLA_law_282 : decode bLA_law 282 = .ok (.istore 5, 2) := by decide +kernel
theorem dLA_law_284 : decode bLA_law 284 = .ok (.aload_n 2, 1) := by decide +kernel
theorem dLA_law_285 : decode bLA_law 285 = .ok (.aload_n 0, 1) := by decide +kernel
theorem dLA_law_286 : decode bLA_law 286 = .ok (.iload 4, 2) := by decide +kernel
theorem dLA_law_288 : decode bLA_law 288 = .ok (.iconst 1, 1) := by decide +kernel
theorem dLA_law_289 : decode bLA_law 289 = .ok (.iadd, 1) := by decide +kernel
theorem dLA_law_290 : decode bLA_law 290 = .ok (.iaload, 1) := by decide +kernel
theorem dLA_law_291 : decode bLA_law 291 = .ok (.aload_n 0, 1) := by decide +kernel
theorem dLA_law_292 : decode bLA_law 292 = .ok (.iload 4, 2) := by decide +kernel
theorem dLA_law_294 : decode bLA_law 294 = .ok (.iconst 2, 1) := by decide +kernel
theorem dLA_law_295 : decode bLA_law 295 = .ok (.iadd, 1) := by decide +kernel
theorem dLA_law_296 : decode bLA_law 296 = .ok (.iaload, 1) := by decide +kernel
theorem dLA_law_297 : decode bLA_law 297 = .ok (.aload_n 0, 1) := by decide +kernel
theorem dLA_law_298 : decode bLA_law 298 = .ok (.iload 4, 2) := by decide +kernel
theorem dLA_law_300 : decode bLA_law 300 = .ok (.iconst 3, 1) := by decide +kernel
theorem dLA_law_301 : decode bLA_law 301 = .ok (.iadd, 1) := by decide +kernel
theorem dLA_law_302 : decode bLA_law 302 = .ok (.iaload, 1) := by decide +kernel
theorem dLA_law_303 : decode bLA_law 303 = .ok (.invokevirtual 89, 3) := by decide +kernel
theorem dLA_law_306 : decode bLA_law 306 = .ok (.aload_n 2, 1) := by decide +kernel
theorem dLA_law_307 : decode bLA_law 307 = .ok (.invokevirtual 79, 3) := by decide +kernel
theorem dLA_law_310 : decode bLA_law 310 = .ok (.iload 5, 2) := by decide +kernel
theorem dLA_law_312 : decode bLA_law 312 = .ok (.if_icmp .eq 5, 3) := by decide +kernel
theorem dLA_law_317 : decode bLA_law 317 = .ok (.goto 991, 3) := by decide +kernel
theorem dLA_law_320 : decode bLA_law 320 = .ok (.aload_n 1, 1) := by decide +kernel
theorem dLA_law_321 : decode bLA_law 321 = .ok (.aload_n 3, 1) := by decide +kernel
theorem dLA_law_322 : decode bLA_law 322 = .ok (.invokestatic 90, 3) := by decide +kernel
theorem dLA_law_325 : decode bLA_law 325 = .ok (.istore 5, 2) := by decide +kernel
theorem dLA_law_327 : decode bLA_law 327 = .ok (.aload_n 2, 1) := by decide +kernel
theorem dLA_law_328 : decode bLA_law 328 = .ok (.invokevirtual 92, 3) := by decide +kernel
theorem dLA_law_331 : decode bLA_law 331 = .ok (.istore 6, 2) := by decide +kernel
theorem dLA_law_333 : decode bLA_law 333 = .ok (.aload_n 2, 1) := by decide +kernel
theorem dLA_law_334 : decode bLA_law 334 = .ok (.invokevirtual 79, 3) := by decide +kernel
theorem dLA_law_337 : decode bLA_law 337 = .ok (.iload 5, 2) := by decide +kernel
theorem dLA_law_339 : decode bLA_law 339 = .ok (.if_icmp .eq 5, 3) := by decide +kernel
theorem dLA_law_344 : decode bLA_law 344 = .ok (.iload 5, 2) := by decide +kernel
theorem dLA_law_346 : decode bLA_law 346 = .ok (.ifCond .ne 15, 3) := by decide +kernel
theorem dLA_law_349 : decode bLA_law 349 = .ok (.aload_n 3, 1) := by decide +kernel
theorem dLA_law_350 : decode bLA_law 350 = .ok (.iconst 0, 1) := by decide +kernel
theorem dLA_law_351 : decode bLA_law 351 = .ok (.laload, 1) := by decide +kernel
theorem dLA_law_352 : decode bLA_law 352 = .ok (.iload 6, 2) := by decide +kernel
theorem dLA_law_354 : decode bLA_law 354 = .ok (.i2l, 1) := by decide +kernel
theorem dLA_law_355 : decode bLA_law 355 = .ok (.lcmp, 1) := by decide +kernel
theorem dLA_law_356 : decode bLA_law 356 = .ok (.ifCond .eq 5, 3) := by decide +kernel
theorem dLA_law_361 : decode bLA_law 361 = .ok (.goto 947, 3) := by decide +kernel
theorem dLA_law_364 : decode bLA_law 364 = .ok (.aload_n 1, 1) := by decide +kernel
theorem dLA_law_365 : decode bLA_law 365 = .ok (.aload_n 0, 1) := by decide +kernel
theorem dLA_law_366 : decode bLA_law 366 = .ok (.iload 4, 2) := by decide +kernel
theorem dLA_law_368 : decode bLA_law 368 = .ok (.iconst 1, 1) := by decide +kernel
theorem dLA_law_369 : decode bLA_law 369 = .ok (.iadd, 1) := by decide +kernel
theorem dLA_law_370 : decode bLA_law 370 = .ok (.iaload, 1) := by decide +kernel
theorem dLA_law_371 : decode bLA_law 371 = .ok (.aload_n 3, 1) := by decide +kernel
theorem dLA_law_372 : decode bLA_law 372 = .ok (.invokestatic 93, 3) := by decide +kernel
theorem dLA_law_375 : decode bLA_law 375 = .ok (.istore 5, 2) := by decide +kernel
theorem dLA_law_377 : decode bLA_law 377 = .ok (.aload_n 2, 1) := by decide +kernel
theorem dLA_law_378 : decode bLA_law 378 = .ok (.aload_n 0, 1) := by decide +kernel
theorem dLA_law_379 : decode bLA_law 379 = .ok (.iload 4, 2) := by decide +kernel
theorem dLA_law_381 : decode bLA_law 381 = .ok (.iconst 1, 1) := by decide +kernel
theorem dLA_law_382 : decode bLA_law 382 = .ok (.iadd, 1) := by decide +kernel
theorem dLA_law_383 : decode bLA_law 383 = .ok (.iaload, 1) := by decide +kernel
theorem dLA_law_384 : decode bLA_law 384 = .ok (.invokevirtual 96, 3) := by decide +kernel
theorem dLA_law_387 : decode bLA_law 387 = .ok (.istore 6, 2) := by decide +kernel
theorem dLA_law_389 : decode bLA_law 389 = .ok (.aload_n 2, 1) := by decide +kernel
theorem dLA_law_390 : decode bLA_law 390 = .ok (.invokevirtual 79, 3) := by decide +kernel
theorem dLA_law_393 : decode bLA_law 393 = .ok (.iload 5, 2) := by decide +kernel
theorem dLA_law_395 : decode bLA_law 395 = .ok (.if_icmp .eq 5, 3) := by decide +kernel
theorem dLA_law_400 : decode bLA_law 400 = .ok (.iload 5, 2) := by decide +kernel
theorem dLA_law_402 : decode bLA_law 402 = .ok (.ifCond .ne 22, 3) := by decide +kernel
theorem dLA_law_424 : decode bLA_law 424 = .ok (.goto 884, 3) := by decide +kernel
theorem dLA_law_427 : decode bLA_law 427 = .ok (.aload_n 1, 1) := by decide +kernel
theorem dLA_law_428 : decode bLA_law 428 = .ok (.aload_n 0, 1) := by decide +kernel
theorem dLA_law_429 : decode bLA_law 429 = .ok (.iload 4, 2) := by decide +kernel
theorem dLA_law_431 : decode bLA_law 431 = .ok (.iconst 1, 1) := by decide +kernel
theorem dLA_law_432 : decode bLA_law 432 = .ok (.iadd, 1) := by decide +kernel
theorem dLA_law_433 : decode bLA_law 433 = .ok (.iaload, 1) := by decide +kernel
theorem dLA_law_434 : decode bLA_law 434 = .ok (.aload_n 3, 1) := by decide +kernel
theorem dLA_law_435 : decode bLA_law 435 = .ok (.invokestatic 97, 3) := by decide +kernel
theorem dLA_law_438 : decode bLA_law 438 = .ok (.istore 5, 2) := by decide +kernel
theorem dLA_law_440 : decode bLA_law 440 = .ok (.aload_n 2, 1) := by decide +kernel
theorem dLA_law_441 : decode bLA_law 441 = .ok (.aload_n 0, 1) := by decide +kernel
theorem dLA_law_442 : decode bLA_law 442 = .ok (.iload 4, 2) := by decide +kernel
theorem dLA_law_444 : decode bLA_law 444 = .ok (.iconst 1, 1) := by decide +kernel
theorem dLA_law_445 : decode bLA_law 445 = .ok (.iadd, 1) := by decide +kernel
theorem dLA_law_446 : decode bLA_law 446 = .ok (.iaload, 1) := by decide +kernel
theorem dLA_law_447 : decode bLA_law 447 = .ok (.invokevirtual 99, 3) := by decide +kernel
theorem dLA_law_450 : decode bLA_law 450 = .ok (.istore 6, 2) := by decide +kernel
theorem dLA_law_452 : decode bLA_law 452 = .ok (.aload_n 2, 1) := by decide +kernel
theorem dLA_law_453 : decode bLA_law 453 = .ok (.invokevirtual 79, 3) := by decide +kernel
theorem dLA_law_456 : decode bLA_law 456 = .ok (.iload 5, 2) := by decide +kernel
theorem dLA_law_458 : decode bLA_law 458 = .ok (.if_icmp .eq 5, 3) := by decide +kernel
theorem dLA_law_463 : decode bLA_law 463 = .ok (.iload 5, 2) := by decide +kernel
theorem dLA_law_465 : decode bLA_law 465 = .ok (.ifCond .ne 22, 3) := by decide +kernel
theorem dLA_law_487 : decode bLA_law 487 = .ok (.goto 821, 3) := by decide +kernel
theorem dLA_law_490 : decode bLA_law 490 = .ok (.aload_n 1, 1) := by decide +kernel
theorem dLA_law_491 : decode bLA_law 491 = .ok (.aload_n 0, 1) := by decide +kernel
theorem dLA_law_492 : decode bLA_law 492 = .ok (.iload 4, 2) := by decide +kernel
theorem dLA_law_494 : decode bLA_law 494 = .ok (.iconst 1, 1) := by decide +kernel
theorem dLA_law_495 : decode bLA_law 495 = .ok (.iadd, 1) := by decide +kernel
theorem dLA_law_496 : decode bLA_law 496 = .ok (.iaload, 1) := by decide +kernel
theorem dLA_law_497 : decode bLA_law 497 = .ok (.aload_n 0, 1) := by decide +kernel
theorem dLA_law_498 : decode bLA_law 498 = .ok (.iload 4, 2) := by decide +kernel
theorem dLA_law_500 : decode bLA_law 500 = .ok (.iconst 2, 1) := by decide +kernel
theorem dLA_law_501 : decode bLA_law 501 = .ok (.iadd, 1) := by decide +kernel
theorem dLA_law_502 : decode bLA_law 502 = .ok (.iaload, 1) := by decide +kernel
theorem dLA_law_503 : decode bLA_law 503 = .ok (.aload_n 3, 1) := by decide +kernel
theorem dLA_law_504 : decode bLA_law 504 = .ok (.invokestatic 100, 3) := by decide +kernel
theorem dLA_law_507 : decode bLA_law 507 = .ok (.istore 5, 2) := by decide +kernel
theorem dLA_law_509 : decode bLA_law 509 = .ok (.aload_n 2, 1) := by decide +kernel
theorem dLA_law_510 : decode bLA_law 510 = .ok (.aload_n 0, 1) := by decide +kernel
theorem dLA_law_511 : decode bLA_law 511 = .ok (.iload 4, 2) := by decide +kernel
theorem dLA_law_513 : decode bLA_law 513 = .ok (.iconst 1, 1) := by decide +kernel
theorem dLA_law_514 : decode bLA_law 514 = .ok (.iadd, 1) := by decide +kernel
theorem dLA_law_515 : decode bLA_law 515 = .ok (.iaload, 1) := by decide +kernel
theorem dLA_law_516 : decode bLA_law 516 = .ok (.aload_n 0, 1) := by decide +kernel
theorem dLA_law_517 : decode bLA_law 517 = .ok (.iload 4, 2) := by decide +kernel
theorem dLA_law_519 : decode bLA_law 519 = .ok (.iconst 2, 1) := by decide +kernel
theorem dLA_law_520 : decode bLA_law 520 = .ok (.iadd, 1) := by decide +kernel
theorem dLA_law_521 : decode bLA_law 521 = .ok (.iaload, 1) := by decide +kernel
theorem dLA_law_522 : decode bLA_law 522 = .ok (.invokevirtual 103, 3) := by decide +kernel
theorem dLA_law_525 : decode bLA_law 525 = .ok (.istore 6, 2) := by decide +kernel
theorem dLA_law_527 : decode bLA_law 527 = .ok (.aload_n 2, 1) := by decide +kernel
theorem dLA_law_528 : decode bLA_law 528 = .ok (.invokevirtual 79, 3) := by decide +kernel
theorem dLA_law_531 : decode bLA_law 531 = .ok (.iload 5, 2) := by decide +kernel
theorem dLA_law_533 : decode bLA_law 533 = .ok (.if_icmp .eq 5, 3) := by decide +kernel
theorem dLA_law_538 : decode bLA_law 538 = .ok (.iload 5, 2) := by decide +kernel
theorem dLA_law_540 : decode bLA_law 540 = .ok (.ifCond .ne 15, 3) := by decide +kernel
theorem dLA_law_555 : decode bLA_law 555 = .ok (.goto 753, 3) := by decide +kernel
theorem dLA_law_558 : decode bLA_law 558 = .ok (.aload_n 1, 1) := by decide +kernel
theorem dLA_law_559 : decode bLA_law 559 = .ok (.aload_n 0, 1) := by decide +kernel
theorem dLA_law_560 : decode bLA_law 560 = .ok (.iload 4, 2) := by decide +kernel
theorem dLA_law_562 : decode bLA_law 562 = .ok (.iconst 1, 1) := by decide +kernel
theorem dLA_law_563 : decode bLA_law 563 = .ok (.iadd, 1) := by decide +kernel
theorem dLA_law_564 : decode bLA_law 564 = .ok (.iaload, 1) := by decide +kernel
theorem dLA_law_565 : decode bLA_law 565 = .ok (.aload_n 0, 1) := by decide +kernel
theorem dLA_law_566 : decode bLA_law 566 = .ok (.iload 4, 2) := by decide +kernel
theorem dLA_law_568 : decode bLA_law 568 = .ok (.iconst 2, 1) := by decide +kernel
theorem dLA_law_569 : decode bLA_law 569 = .ok (.iadd, 1) := by decide +kernel
theorem dLA_law_570 : decode bLA_law 570 = .ok (.iaload, 1) := by decide +kernel
theorem dLA_law_571 : decode bLA_law 571 = .ok (.aload_n 0, 1) := by decide +kernel
theorem dLA_law_572 : decode bLA_law 572 = .ok (.iload 4, 2) := by decide +kernel
theorem dLA_law_574 : decode bLA_law 574 = .ok (.iconst 3, 1) := by decide +kernel
theorem dLA_law_575 : decode bLA_law 575 = .ok (.iadd, 1) := by decide +kernel
theorem dLA_law_576 : decode bLA_law 576 = .ok (.iaload, 1) := by decide +kernel
theorem dLA_law_577 : decode bLA_law 577 = .ok (.ifCond .eq 7, 3) := by decide +kernel
theorem dLA_law_580 : decode bLA_law 580 = .ok (.iconst 1, 1) := by decide +kernel
theorem dLA_law_581 : decode bLA_law 581 = .ok (.goto 4, 3) := by decide +kernel
theorem dLA_law_584 : decode bLA_law 584 = .ok (.iconst 0, 1) := by decide +kernel
theorem dLA_law_585 : decode bLA_law 585 = .ok (.aload_n 3, 1) := by decide +kernel
theorem dLA_law_586 : decode bLA_law 586 = .ok (.invokestatic 104, 3) := by decide +kernel
theorem dLA_law_589 : decode bLA_law 589 = .ok (.istore 5, 2) := by decide +kernel
theorem dLA_law_591 : decode bLA_law 591 = .ok (.aload_n 2, 1) := by decide +kernel
theorem dLA_law_592 : decode bLA_law 592 = .ok (.aload_n 0, 1) := by decide +kernel
theorem dLA_law_593 : decode bLA_law 593 = .ok (.iload 4, 2) := by decide +kernel
theorem dLA_law_595 : decode bLA_law 595 = .ok (.iconst 1, 1) := by decide +kernel
theorem dLA_law_596 : decode bLA_law 596 = .ok (.iadd, 1) := by decide +kernel
theorem dLA_law_597 : decode bLA_law 597 = .ok (.iaload, 1) := by decide +kernel
theorem dLA_law_598 : decode bLA_law 598 = .ok (.aload_n 0, 1) := by decide +kernel
theorem dLA_law_599 : decode bLA_law 599 = .ok (.iload 4, 2) := by decide +kernel
theorem dLA_law_601 : decode bLA_law 601 = .ok (.iconst 2, 1) := by decide +kernel
theorem dLA_law_602 : decode bLA_law 602 = .ok (.iadd, 1) := by decide +kernel
theorem dLA_law_603 : decode bLA_law 603 = .ok (.iaload, 1) := by decide +kernel
theorem dLA_law_604 : decode bLA_law 604 = .ok (.aload_n 0, 1) := by decide +kernel
theorem dLA_law_605 : decode bLA_law 605 = .ok (.iload 4, 2) := by decide +kernel
theorem dLA_law_607 : decode bLA_law 607 = .ok (.iconst 3, 1) := by decide +kernel
theorem dLA_law_608 : decode bLA_law 608 = .ok (.iadd, 1) := by decide +kernel
theorem dLA_law_609 : decode bLA_law 609 = .ok (.iaload, 1) := by decide +kernel
theorem dLA_law_610 : decode bLA_law 610 = .ok (.ifCond .eq 7, 3) := by decide +kernel
theorem dLA_law_613 : decode bLA_law 613 = .ok (.iconst 1, 1) := by decide +kernel
theorem dLA_law_614 : decode bLA_law 614 = .ok (.goto 4, 3) := by decide +kernel
theorem dLA_law_617 : decode bLA_law 617 = .ok (.iconst 0, 1) := by decide +kernel
theorem dLA_law_618 : decode bLA_law 618 = .ok (.invokevirtual 107, 3) := by decide +kernel
theorem dLA_law_621 : decode bLA_law 621 = .ok (.istore 6, 2) := by decide +kernel
theorem dLA_law_623 : decode bLA_law 623 = .ok (.aload_n 2, 1) := by decide +kernel
theorem dLA_law_624 : decode bLA_law 624 = .ok (.invokevirtual 79, 3) := by decide +kernel
theorem dLA_law_627 : decode bLA_law 627 = .ok (.iload 5, 2) := by decide +kernel
theorem dLA_law_629 : decode bLA_law 629 = .ok (.if_icmp .eq 5, 3) := by decide +kernel
theorem dLA_law_634 : decode bLA_law 634 = .ok (.iload 5, 2) := by decide +kernel
theorem dLA_law_636 : decode bLA_law 636 = .ok (.ifCond .ne 22, 3) := by decide +kernel
theorem dLA_law_658 : decode bLA_law 658 = .ok (.goto 650, 3) := by decide +kernel
theorem dLA_law_661 : decode bLA_law 661 = .ok (.aload_n 1, 1) := by decide +kernel
theorem dLA_law_662 : decode bLA_law 662 = .ok (.aload_n 0, 1) := by decide +kernel
theorem dLA_law_663 : decode bLA_law 663 = .ok (.iload 4, 2) := by decide +kernel
theorem dLA_law_665 : decode bLA_law 665 = .ok (.iconst 1, 1) := by decide +kernel
theorem dLA_law_666 : decode bLA_law 666 = .ok (.iadd, 1) := by decide +kernel
theorem dLA_law_667 : decode bLA_law 667 = .ok (.iaload, 1) := by decide +kernel
theorem dLA_law_668 : decode bLA_law 668 = .ok (.aload_n 0, 1) := by decide +kernel
theorem dLA_law_669 : decode bLA_law 669 = .ok (.iload 4, 2) := by decide +kernel
theorem dLA_law_671 : decode bLA_law 671 = .ok (.iconst 2, 1) := by decide +kernel
theorem dLA_law_672 : decode bLA_law 672 = .ok (.iadd, 1) := by decide +kernel
theorem dLA_law_673 : decode bLA_law 673 = .ok (.iaload, 1) := by decide +kernel
theorem dLA_law_674 : decode bLA_law 674 = .ok (.aload_n 3, 1) := by decide +kernel
theorem dLA_law_675 : decode bLA_law 675 = .ok (.invokestatic 108, 3) := by decide +kernel
theorem dLA_law_678 : decode bLA_law 678 = .ok (.istore 5, 2) := by decide +kernel
theorem dLA_law_680 : decode bLA_law 680 = .ok (.aload_n 2, 1) := by decide +kernel
theorem dLA_law_681 : decode bLA_law 681 = .ok (.aload_n 0, 1) := by decide +kernel
theorem dLA_law_682 : decode bLA_law 682 = .ok (.iload 4, 2) := by decide +kernel
theorem dLA_law_684 : decode bLA_law 684 = .ok (.iconst 1, 1) := by decide +kernel
theorem dLA_law_685 : decode bLA_law 685 = .ok (.iadd, 1) := by decide +kernel
theorem dLA_law_686 : decode bLA_law 686 = .ok (.iaload, 1) := by decide +kernel
theorem dLA_law_687 : decode bLA_law 687 = .ok (.aload_n 0, 1) := by decide +kernel
theorem dLA_law_688 : decode bLA_law 688 = .ok (.iload 4, 2) := by decide +kernel
theorem dLA_law_690 : decode bLA_law 690 = .ok (.iconst 2, 1) := by decide +kernel
theorem dLA_law_691 : decode bLA_law 691 = .ok (.iadd, 1) := by decide +kernel
theorem dLA_law_692 : decode bLA_law 692 = .ok (.iaload, 1) := by decide +kernel
theorem dLA_law_693 : decode bLA_law 693 = .ok (.invokevirtual 110, 3) := by decide +kernel
theorem dLA_law_696 : decode bLA_law 696 = .ok (.istore 6, 2) := by decide +kernel
theorem dLA_law_698 : decode bLA_law 698 = .ok (.aload_n 2, 1) := by decide +kernel
theorem dLA_law_699 : decode bLA_law 699 = .ok (.invokevirtual 79, 3) := by decide +kernel
theorem dLA_law_702 : decode bLA_law 702 = .ok (.iload 5, 2) := by decide +kernel
theorem dLA_law_704 : decode bLA_law 704 = .ok (.if_icmp .eq 5, 3) := by decide +kernel
theorem dLA_law_709 : decode bLA_law 709 = .ok (.iload 5, 2) := by decide +kernel
theorem dLA_law_711 : decode bLA_law 711 = .ok (.ifCond .ne 22, 3) := by decide +kernel
theorem dLA_law_733 : decode bLA_law 733 = .ok (.goto 575, 3) := by decide +kernel
theorem dLA_law_736 : decode bLA_law 736 = .ok (.aload_n 1, 1) := by decide +kernel
theorem dLA_law_737 : decode bLA_law 737 = .ok (.aload_n 0, 1) := by decide +kernel
theorem dLA_law_738 : decode bLA_law 738 = .ok (.iload 4, 2) := by decide +kernel
theorem dLA_law_740 : decode bLA_law 740 = .ok (.iconst 1, 1) := by decide +kernel
theorem dLA_law_741 : decode bLA_law 741 = .ok (.iadd, 1) := by decide +kernel
theorem dLA_law_742 : decode bLA_law 742 = .ok (.iaload, 1) := by decide +kernel
theorem dLA_law_743 : decode bLA_law 743 = .ok (.aload_n 3, 1) := by decide +kernel
theorem dLA_law_744 : decode bLA_law 744 = .ok (.invokestatic 111, 3) := by decide +kernel
theorem dLA_law_747 : decode bLA_law 747 = .ok (.istore 5, 2) := by decide +kernel
theorem dLA_law_749 : decode bLA_law 749 = .ok (.aload_n 2, 1) := by decide +kernel
theorem dLA_law_750 : decode bLA_law 750 = .ok (.aload_n 0, 1) := by decide +kernel
theorem dLA_law_751 : decode bLA_law 751 = .ok (.iload 4, 2) := by decide +kernel
theorem dLA_law_753 : decode bLA_law 753 = .ok (.iconst 1, 1) := by decide +kernel
theorem dLA_law_754 : decode bLA_law 754 = .ok (.iadd, 1) := by decide +kernel
theorem dLA_law_755 : decode bLA_law 755 = .ok (.iaload, 1) := by decide +kernel
theorem dLA_law_756 : decode bLA_law 756 = .ok (.invokevirtual 113, 3) := by decide +kernel
theorem dLA_law_759 : decode bLA_law 759 = .ok (.istore 6, 2) := by decide +kernel
theorem dLA_law_761 : decode bLA_law 761 = .ok (.aload_n 2, 1) := by decide +kernel
theorem dLA_law_762 : decode bLA_law 762 = .ok (.invokevirtual 79, 3) := by decide +kernel
theorem dLA_law_765 : decode bLA_law 765 = .ok (.iload 5, 2) := by decide +kernel
theorem dLA_law_767 : decode bLA_law 767 = .ok (.if_icmp .eq 5, 3) := by decide +kernel
theorem dLA_law_772 : decode bLA_law 772 = .ok (.iload 5, 2) := by decide +kernel
theorem dLA_law_774 : decode bLA_law 774 = .ok (.ifCond .ne 15, 3) := by decide +kernel
theorem dLA_law_789 : decode bLA_law 789 = .ok (.goto 519, 3) := by decide +kernel
theorem dLA_law_792 : decode bLA_law 792 = .ok (.aload_n 1, 1) := by decide +kernel
theorem dLA_law_793 : decode bLA_law 793 = .ok (.aload_n 0, 1) := by decide +kernel
theorem dLA_law_794 : decode bLA_law 794 = .ok (.iload 4, 2) := by decide +kernel
theorem dLA_law_796 : decode bLA_law 796 = .ok (.iconst 1, 1) := by decide +kernel
theorem dLA_law_797 : decode bLA_law 797 = .ok (.iadd, 1) := by decide +kernel
theorem dLA_law_798 : decode bLA_law 798 = .ok (.iaload, 1) := by decide +kernel
theorem dLA_law_799 : decode bLA_law 799 = .ok (.aload_n 0, 1) := by decide +kernel
theorem dLA_law_800 : decode bLA_law 800 = .ok (.iload 4, 2) := by decide +kernel
theorem dLA_law_802 : decode bLA_law 802 = .ok (.iconst 2, 1) := by decide +kernel
theorem dLA_law_803 : decode bLA_law 803 = .ok (.iadd, 1) := by decide +kernel
theorem dLA_law_804 : decode bLA_law 804 = .ok (.iaload, 1) := by decide +kernel
theorem dLA_law_805 : decode bLA_law 805 = .ok (.aload_n 3, 1) := by decide +kernel
theorem dLA_law_806 : decode bLA_law 806 = .ok (.invokestatic 114, 3) := by decide +kernel
theorem dLA_law_809 : decode bLA_law 809 = .ok (.istore 5, 2) := by decide +kernel
theorem dLA_law_811 : decode bLA_law 811 = .ok (.aload_n 2, 1) := by decide +kernel
theorem dLA_law_812 : decode bLA_law 812 = .ok (.aload_n 0, 1) := by decide +kernel
theorem dLA_law_813 : decode bLA_law 813 = .ok (.iload 4, 2) := by decide +kernel
theorem dLA_law_815 : decode bLA_law 815 = .ok (.iconst 1, 1) := by decide +kernel
theorem dLA_law_816 : decode bLA_law 816 = .ok (.iadd, 1) := by decide +kernel
theorem dLA_law_817 : decode bLA_law 817 = .ok (.iaload, 1) := by decide +kernel
theorem dLA_law_818 : decode bLA_law 818 = .ok (.aload_n 0, 1) := by decide +kernel
theorem dLA_law_819 : decode bLA_law 819 = .ok (.iload 4, 2) := by decide +kernel
theorem dLA_law_821 : decode bLA_law 821 = .ok (.iconst 2, 1) := by decide +kernel
theorem dLA_law_822 : decode bLA_law 822 = .ok (.iadd, 1) := by decide +kernel
theorem dLA_law_823 : decode bLA_law 823 = .ok (.iaload, 1) := by decide +kernel
theorem dLA_law_824 : decode bLA_law 824 = .ok (.invokevirtual 116, 3) := by decide +kernel
theorem dLA_law_827 : decode bLA_law 827 = .ok (.istore 6, 2) := by decide +kernel
theorem dLA_law_829 : decode bLA_law 829 = .ok (.aload_n 2, 1) := by decide +kernel
theorem dLA_law_830 : decode bLA_law 830 = .ok (.invokevirtual 79, 3) := by decide +kernel
theorem dLA_law_833 : decode bLA_law 833 = .ok (.iload 5, 2) := by decide +kernel
theorem dLA_law_835 : decode bLA_law 835 = .ok (.if_icmp .eq 5, 3) := by decide +kernel
theorem dLA_law_840 : decode bLA_law 840 = .ok (.iload 5, 2) := by decide +kernel
theorem dLA_law_842 : decode bLA_law 842 = .ok (.ifCond .ne 15, 3) := by decide +kernel
theorem dLA_law_857 : decode bLA_law 857 = .ok (.goto 451, 3) := by decide +kernel
theorem dLA_law_860 : decode bLA_law 860 = .ok (.aload_n 1, 1) := by decide +kernel
theorem dLA_law_861 : decode bLA_law 861 = .ok (.aload_n 0, 1) := by decide +kernel
theorem dLA_law_862 : decode bLA_law 862 = .ok (.iload 4, 2) := by decide +kernel
theorem dLA_law_864 : decode bLA_law 864 = .ok (.iconst 1, 1) := by decide +kernel
theorem dLA_law_865 : decode bLA_law 865 = .ok (.iadd, 1) := by decide +kernel
theorem dLA_law_866 : decode bLA_law 866 = .ok (.iaload, 1) := by decide +kernel
theorem dLA_law_867 : decode bLA_law 867 = .ok (.aload_n 0, 1) := by decide +kernel
theorem dLA_law_868 : decode bLA_law 868 = .ok (.iload 4, 2) := by decide +kernel
theorem dLA_law_870 : decode bLA_law 870 = .ok (.iconst 2, 1) := by decide +kernel
theorem dLA_law_871 : decode bLA_law 871 = .ok (.iadd, 1) := by decide +kernel
theorem dLA_law_872 : decode bLA_law 872 = .ok (.iaload, 1) := by decide +kernel
theorem dLA_law_873 : decode bLA_law 873 = .ok (.aload_n 0, 1) := by decide +kernel
theorem dLA_law_874 : decode bLA_law 874 = .ok (.iload 4, 2) := by decide +kernel
theorem dLA_law_876 : decode bLA_law 876 = .ok (.iconst 3, 1) := by decide +kernel
theorem dLA_law_877 : decode bLA_law 877 = .ok (.iadd, 1) := by decide +kernel
theorem dLA_law_878 : decode bLA_law 878 = .ok (.iaload, 1) := by decide +kernel
theorem dLA_law_879 : decode bLA_law 879 = .ok (.aload_n 3, 1) := by decide +kernel
theorem dLA_law_880 : decode bLA_law 880 = .ok (.invokestatic 117, 3) := by decide +kernel
theorem dLA_law_883 : decode bLA_law 883 = .ok (.istore 5, 2) := by decide +kernel
theorem dLA_law_885 : decode bLA_law 885 = .ok (.aload_n 2, 1) := by decide +kernel
theorem dLA_law_886 : decode bLA_law 886 = .ok (.aload_n 0, 1) := by decide +kernel
theorem dLA_law_887 : decode bLA_law 887 = .ok (.iload 4, 2) := by decide +kernel
theorem dLA_law_889 : decode bLA_law 889 = .ok (.iconst 1, 1) := by decide +kernel
theorem dLA_law_890 : decode bLA_law 890 = .ok (.iadd, 1) := by decide +kernel
theorem dLA_law_891 : decode bLA_law 891 = .ok (.iaload, 1) := by decide +kernel
theorem dLA_law_892 : decode bLA_law 892 = .ok (.aload_n 0, 1) := by decide +kernel
theorem dLA_law_893 : decode bLA_law 893 = .ok (.iload 4, 2) := by decide +kernel
theorem dLA_law_895 : decode bLA_law 895 = .ok (.iconst 2, 1) := by decide +kernel
theorem dLA_law_896 : decode bLA_law 896 = .ok (.iadd, 1) := by decide +kernel
theorem dLA_law_897 : decode bLA_law 897 = .ok (.iaload, 1) := by decide +kernel
theorem dLA_law_898 : decode bLA_law 898 = .ok (.aload_n 0, 1) := by decide +kernel
theorem dLA_law_899 : decode bLA_law 899 = .ok (.iload 4, 2) := by decide +kernel
theorem dLA_law_901 : decode bLA_law 901 = .ok (.iconst 3, 1) := by decide +kernel
theorem dLA_law_902 : decode bLA_law 902 = .ok (.iadd, 1) := by decide +kernel
theorem dLA_law_903 : decode bLA_law 903 = .ok (.iaload, 1) := by decide +kernel
theorem dLA_law_904 : decode bLA_law 904 = .ok (.invokevirtual 119, 3) := by decide +kernel
theorem dLA_law_907 : decode bLA_law 907 = .ok (.istore 6, 2) := by decide +kernel
theorem dLA_law_909 : decode bLA_law 909 = .ok (.aload_n 2, 1) := by decide +kernel
theorem dLA_law_910 : decode bLA_law 910 = .ok (.invokevirtual 79, 3) := by decide +kernel
theorem dLA_law_913 : decode bLA_law 913 = .ok (.iload 5, 2) := by decide +kernel
theorem dLA_law_915 : decode bLA_law 915 = .ok (.if_icmp .eq 5, 3) := by decide +kernel
theorem dLA_law_920 : decode bLA_law 920 = .ok (.iload 5, 2) := by decide +kernel
theorem dLA_law_922 : decode bLA_law 922 = .ok (.ifCond .ne 15, 3) := by decide +kernel
theorem dLA_law_937 : decode bLA_law 937 = .ok (.goto 371, 3) := by decide +kernel
theorem dLA_law_940 : decode bLA_law 940 = .ok (.aload_n 1, 1) := by decide +kernel
theorem dLA_law_941 : decode bLA_law 941 = .ok (.invokevirtual 120, 3) := by decide +kernel
theorem dLA_law_944 : decode bLA_law 944 = .ok (.aload_n 2, 1) := by decide +kernel
theorem dLA_law_945 : decode bLA_law 945 = .ok (.invokevirtual 123, 3) := by decide +kernel
theorem dLA_law_948 : decode bLA_law 948 = .ok (.if_icmp .eq 360, 3) := by decide +kernel
theorem dLA_law_953 : decode bLA_law 953 = .ok (.aload_n 1, 1) := by decide +kernel
theorem dLA_law_954 : decode bLA_law 954 = .ok (.aload_n 0, 1) := by decide +kernel
theorem dLA_law_955 : decode bLA_law 955 = .ok (.iload 4, 2) := by decide +kernel
theorem dLA_law_957 : decode bLA_law 957 = .ok (.iconst 1, 1) := by decide +kernel
theorem dLA_law_958 : decode bLA_law 958 = .ok (.iadd, 1) := by decide +kernel
theorem dLA_law_959 : decode bLA_law 959 = .ok (.iaload, 1) := by decide +kernel
theorem dLA_law_960 : decode bLA_law 960 = .ok (.aload_n 0, 1) := by decide +kernel
theorem dLA_law_961 : decode bLA_law 961 = .ok (.iload 4, 2) := by decide +kernel
theorem dLA_law_963 : decode bLA_law 963 = .ok (.iconst 2, 1) := by decide +kernel
theorem dLA_law_964 : decode bLA_law 964 = .ok (.iadd, 1) := by decide +kernel
theorem dLA_law_965 : decode bLA_law 965 = .ok (.iaload, 1) := by decide +kernel
theorem dLA_law_966 : decode bLA_law 966 = .ok (.aload_n 3, 1) := by decide +kernel
theorem dLA_law_967 : decode bLA_law 967 = .ok (.invokestatic 124, 3) := by decide +kernel
theorem dLA_law_970 : decode bLA_law 970 = .ok (.istore 5, 2) := by decide +kernel
theorem dLA_law_972 : decode bLA_law 972 = .ok (.aload_n 2, 1) := by decide +kernel
theorem dLA_law_973 : decode bLA_law 973 = .ok (.aload_n 0, 1) := by decide +kernel
theorem dLA_law_974 : decode bLA_law 974 = .ok (.iload 4, 2) := by decide +kernel
theorem dLA_law_976 : decode bLA_law 976 = .ok (.iconst 1, 1) := by decide +kernel
theorem dLA_law_977 : decode bLA_law 977 = .ok (.iadd, 1) := by decide +kernel
theorem dLA_law_978 : decode bLA_law 978 = .ok (.iaload, 1) := by decide +kernel
theorem dLA_law_979 : decode bLA_law 979 = .ok (.aload_n 0, 1) := by decide +kernel
theorem dLA_law_980 : decode bLA_law 980 = .ok (.iload 4, 2) := by decide +kernel
theorem dLA_law_982 : decode bLA_law 982 = .ok (.iconst 2, 1) := by decide +kernel
theorem dLA_law_983 : decode bLA_law 983 = .ok (.iadd, 1) := by decide +kernel
theorem dLA_law_984 : decode bLA_law 984 = .ok (.iaload, 1) := by decide +kernel
theorem dLA_law_985 : decode bLA_law 985 = .ok (.invokevirtual 126, 3) := by decide +kernel
theorem dLA_law_988 : decode bLA_law 988 = .ok (.istore 6, 2) := by decide +kernel
theorem dLA_law_990 : decode bLA_law 990 = .ok (.aload_n 2, 1) := by decide +kernel
theorem dLA_law_991 : decode bLA_law 991 = .ok (.invokevirtual 79, 3) := by decide +kernel
theorem dLA_law_994 : decode bLA_law 994 = .ok (.iload 5, 2) := by decide +kernel
theorem dLA_law_996 : decode bLA_law 996 = .ok (.if_icmp .eq 5, 3) := by decide +kernel
theorem dLA_law_1001 : decode bLA_law 1001 = .ok (.iload 5, 2) := by decide +kernel
theorem dLA_law_1003 : decode bLA_law 1003 = .ok (.ifCond .ne 15, 3) := by decide +kernel
theorem dLA_law_1018 : decode bLA_law 1018 = .ok (.goto 290, 3) := by decide +kernel
theorem dLA_law_1021 : decode bLA_law 1021 = .ok (.aload_n 1, 1) := by decide +kernel
theorem dLA_law_1022 : decode bLA_law 1022 = .ok (.aload_n 0, 1) := by decide +kernel
theorem dLA_law_1023 : decode bLA_law 1023 = .ok (.iload 4, 2) := by decide +kernel
theorem dLA_law_1025 : decode bLA_law 1025 = .ok (.iconst 1, 1) := by decide +kernel
theorem dLA_law_1026 : decode bLA_law 1026 = .ok (.iadd, 1) := by decide +kernel
theorem dLA_law_1027 : decode bLA_law 1027 = .ok (.iaload, 1) := by decide +kernel
theorem dLA_law_1028 : decode bLA_law 1028 = .ok (.aload_n 0, 1) := by decide +kernel
theorem dLA_law_1029 : decode bLA_law 1029 = .ok (.iload 4, 2) := by decide +kernel
theorem dLA_law_1031 : decode bLA_law 1031 = .ok (.iconst 2, 1) := by decide +kernel
theorem dLA_law_1032 : decode bLA_law 1032 = .ok (.iadd, 1) := by decide +kernel
theorem dLA_law_1033 : decode bLA_law 1033 = .ok (.iaload, 1) := by decide +kernel
theorem dLA_law_1034 : decode bLA_law 1034 = .ok (.aload_n 0, 1) := by decide +kernel
theorem dLA_law_1035 : decode bLA_law 1035 = .ok (.iload 4, 2) := by decide +kernel
theorem dLA_law_1037 : decode bLA_law 1037 = .ok (.iconst 3, 1) := by decide +kernel
theorem dLA_law_1038 : decode bLA_law 1038 = .ok (.iadd, 1) := by decide +kernel
theorem dLA_law_1039 : decode bLA_law 1039 = .ok (.iaload, 1) := by decide +kernel
theorem dLA_law_1040 : decode bLA_law 1040 = .ok (.aload_n 3, 1) := by decide +kernel
theorem dLA_law_1041 : decode bLA_law 1041 = .ok (.invokestatic 127, 3) := by decide +kernel
theorem dLA_law_1044 : decode bLA_law 1044 = .ok (.istore 5, 2) := by decide +kernel
theorem dLA_law_1046 : decode bLA_law 1046 = .ok (.aload_n 2, 1) := by decide +kernel
theorem dLA_law_1047 : decode bLA_law 1047 = .ok (.aload_n 0, 1) := by decide +kernel
theorem dLA_law_1048 : decode bLA_law 1048 = .ok (.iload 4, 2) := by decide +kernel
theorem dLA_law_1050 : decode bLA_law 1050 = .ok (.iconst 1, 1) := by decide +kernel
theorem dLA_law_1051 : decode bLA_law 1051 = .ok (.iadd, 1) := by decide +kernel
theorem dLA_law_1052 : decode bLA_law 1052 = .ok (.iaload, 1) := by decide +kernel
theorem dLA_law_1053 : decode bLA_law 1053 = .ok (.aload_n 0, 1) := by decide +kernel
theorem dLA_law_1054 : decode bLA_law 1054 = .ok (.iload 4, 2) := by decide +kernel
theorem dLA_law_1056 : decode bLA_law 1056 = .ok (.iconst 2, 1) := by decide +kernel
theorem dLA_law_1057 : decode bLA_law 1057 = .ok (.iadd, 1) := by decide +kernel
theorem dLA_law_1058 : decode bLA_law 1058 = .ok (.iaload, 1) := by decide +kernel
theorem dLA_law_1059 : decode bLA_law 1059 = .ok (.aload_n 0, 1) := by decide +kernel
theorem dLA_law_1060 : decode bLA_law 1060 = .ok (.iload 4, 2) := by decide +kernel
theorem dLA_law_1062 : decode bLA_law 1062 = .ok (.iconst 3, 1) := by decide +kernel
theorem dLA_law_1063 : decode bLA_law 1063 = .ok (.iadd, 1) := by decide +kernel
theorem dLA_law_1064 : decode bLA_law 1064 = .ok (.iaload, 1) := by decide +kernel
theorem dLA_law_1065 : decode bLA_law 1065 = .ok (.invokevirtual 129, 3) := by decide +kernel
theorem dLA_law_1068 : decode bLA_law 1068 = .ok (.istore 6, 2) := by decide +kernel
theorem dLA_law_1070 : decode bLA_law 1070 = .ok (.aload_n 2, 1) := by decide +kernel
theorem dLA_law_1071 : decode bLA_law 1071 = .ok (.invokevirtual 79, 3) := by decide +kernel
theorem dLA_law_1074 : decode bLA_law 1074 = .ok (.iload 5, 2) := by decide +kernel
theorem dLA_law_1076 : decode bLA_law 1076 = .ok (.if_icmp .eq 5, 3) := by decide +kernel
theorem dLA_law_1081 : decode bLA_law 1081 = .ok (.iload 5, 2) := by decide +kernel
theorem dLA_law_1083 : decode bLA_law 1083 = .ok (.ifCond .ne 15, 3) := by decide +kernel
theorem dLA_law_1098 : decode bLA_law 1098 = .ok (.goto 210, 3) := by decide +kernel
theorem dLA_law_1101 : decode bLA_law 1101 = .ok (.aload_n 1, 1) := by decide +kernel
theorem dLA_law_1102 : decode bLA_law 1102 = .ok (.aload_n 0, 1) := by decide +kernel
theorem dLA_law_1103 : decode bLA_law 1103 = .ok (.iload 4, 2) := by decide +kernel
theorem dLA_law_1105 : decode bLA_law 1105 = .ok (.iconst 1, 1) := by decide +kernel
theorem dLA_law_1106 : decode bLA_law 1106 = .ok (.iadd, 1) := by decide +kernel
theorem dLA_law_1107 : decode bLA_law 1107 = .ok (.iaload, 1) := by decide +kernel
theorem dLA_law_1108 : decode bLA_law 1108 = .ok (.aload_n 0, 1) := by decide +kernel
theorem dLA_law_1109 : decode bLA_law 1109 = .ok (.iload 4, 2) := by decide +kernel
theorem dLA_law_1111 : decode bLA_law 1111 = .ok (.iconst 2, 1) := by decide +kernel
theorem dLA_law_1112 : decode bLA_law 1112 = .ok (.iadd, 1) := by decide +kernel
theorem dLA_law_1113 : decode bLA_law 1113 = .ok (.iaload, 1) := by decide +kernel
theorem dLA_law_1114 : decode bLA_law 1114 = .ok (.aload_n 0, 1) := by decide +kernel
theorem dLA_law_1115 : decode bLA_law 1115 = .ok (.iload 4, 2) := by decide +kernel
theorem dLA_law_1117 : decode bLA_law 1117 = .ok (.iconst 3, 1) := by decide +kernel
theorem dLA_law_1118 : decode bLA_law 1118 = .ok (.iadd, 1) := by decide +kernel
theorem dLA_law_1119 : decode bLA_law 1119 = .ok (.iaload, 1) := by decide +kernel
theorem dLA_law_1120 : decode bLA_law 1120 = .ok (.aload_n 3, 1) := by decide +kernel
theorem dLA_law_1121 : decode bLA_law 1121 = .ok (.invokestatic 130, 3) := by decide +kernel
theorem dLA_law_1124 : decode bLA_law 1124 = .ok (.istore 5, 2) := by decide +kernel
theorem dLA_law_1126 : decode bLA_law 1126 = .ok (.aload_n 2, 1) := by decide +kernel
theorem dLA_law_1127 : decode bLA_law 1127 = .ok (.aload_n 0, 1) := by decide +kernel
theorem dLA_law_1128 : decode bLA_law 1128 = .ok (.iload 4, 2) := by decide +kernel
theorem dLA_law_1130 : decode bLA_law 1130 = .ok (.iconst 1, 1) := by decide +kernel
theorem dLA_law_1131 : decode bLA_law 1131 = .ok (.iadd, 1) := by decide +kernel
theorem dLA_law_1132 : decode bLA_law 1132 = .ok (.iaload, 1) := by decide +kernel
theorem dLA_law_1133 : decode bLA_law 1133 = .ok (.aload_n 0, 1) := by decide +kernel
theorem dLA_law_1134 : decode bLA_law 1134 = .ok (.iload 4, 2) := by decide +kernel
theorem dLA_law_1136 : decode bLA_law 1136 = .ok (.iconst 2, 1) := by decide +kernel
theorem dLA_law_1137 : decode bLA_law 1137 = .ok (.iadd, 1) := by decide +kernel
theorem dLA_law_1138 : decode bLA_law 1138 = .ok (.iaload, 1) := by decide +kernel
theorem dLA_law_1139 : decode bLA_law 1139 = .ok (.aload_n 0, 1) := by decide +kernel
theorem dLA_law_1140 : decode bLA_law 1140 = .ok (.iload 4, 2) := by decide +kernel
theorem dLA_law_1142 : decode bLA_law 1142 = .ok (.iconst 3, 1) := by decide +kernel
theorem dLA_law_1143 : decode bLA_law 1143 = .ok (.iadd, 1) := by decide +kernel
theorem dLA_law_1144 : decode bLA_law 1144 = .ok (.iaload, 1) := by decide +kernel
theorem dLA_law_1145 : decode bLA_law 1145 = .ok (.invokevirtual 132, 3) := by decide +kernel
theorem dLA_law_1148 : decode bLA_law 1148 = .ok (.istore 6, 2) := by decide +kernel
theorem dLA_law_1150 : decode bLA_law 1150 = .ok (.aload_n 2, 1) := by decide +kernel
theorem dLA_law_1151 : decode bLA_law 1151 = .ok (.invokevirtual 79, 3) := by decide +kernel
theorem dLA_law_1154 : decode bLA_law 1154 = .ok (.iload 5, 2) := by decide +kernel
theorem dLA_law_1156 : decode bLA_law 1156 = .ok (.if_icmp .eq 5, 3) := by decide +kernel
theorem dLA_law_1161 : decode bLA_law 1161 = .ok (.iload 5, 2) := by decide +kernel
theorem dLA_law_1163 : decode bLA_law 1163 = .ok (.ifCond .ne 15, 3) := by decide +kernel
theorem dLA_law_1178 : decode bLA_law 1178 = .ok (.goto 130, 3) := by decide +kernel
theorem dLA_law_1181 : decode bLA_law 1181 = .ok (.aload_n 1, 1) := by decide +kernel
theorem dLA_law_1182 : decode bLA_law 1182 = .ok (.aload_n 0, 1) := by decide +kernel
theorem dLA_law_1183 : decode bLA_law 1183 = .ok (.iload 4, 2) := by decide +kernel
theorem dLA_law_1185 : decode bLA_law 1185 = .ok (.iconst 1, 1) := by decide +kernel
theorem dLA_law_1186 : decode bLA_law 1186 = .ok (.iadd, 1) := by decide +kernel
theorem dLA_law_1187 : decode bLA_law 1187 = .ok (.iaload, 1) := by decide +kernel
theorem dLA_law_1188 : decode bLA_law 1188 = .ok (.aload_n 0, 1) := by decide +kernel
theorem dLA_law_1189 : decode bLA_law 1189 = .ok (.iload 4, 2) := by decide +kernel
theorem dLA_law_1191 : decode bLA_law 1191 = .ok (.iconst 2, 1) := by decide +kernel
theorem dLA_law_1192 : decode bLA_law 1192 = .ok (.iadd, 1) := by decide +kernel
theorem dLA_law_1193 : decode bLA_law 1193 = .ok (.iaload, 1) := by decide +kernel
theorem dLA_law_1194 : decode bLA_law 1194 = .ok (.aload_n 3, 1) := by decide +kernel
theorem dLA_law_1195 : decode bLA_law 1195 = .ok (.invokestatic 133, 3) := by decide +kernel
theorem dLA_law_1198 : decode bLA_law 1198 = .ok (.istore 5, 2) := by decide +kernel
theorem dLA_law_1200 : decode bLA_law 1200 = .ok (.aload_n 2, 1) := by decide +kernel
theorem dLA_law_1201 : decode bLA_law 1201 = .ok (.aload_n 0, 1) := by decide +kernel
theorem dLA_law_1202 : decode bLA_law 1202 = .ok (.iload 4, 2) := by decide +kernel
theorem dLA_law_1204 : decode bLA_law 1204 = .ok (.iconst 1, 1) := by decide +kernel
theorem dLA_law_1205 : decode bLA_law 1205 = .ok (.iadd, 1) := by decide +kernel
theorem dLA_law_1206 : decode bLA_law 1206 = .ok (.iaload, 1) := by decide +kernel
theorem dLA_law_1207 : decode bLA_law 1207 = .ok (.aload_n 0, 1) := by decide +kernel
theorem dLA_law_1208 : decode bLA_law 1208 = .ok (.iload 4, 2) := by decide +kernel
theorem dLA_law_1210 : decode bLA_law 1210 = .ok (.iconst 2, 1) := by decide +kernel
theorem dLA_law_1211 : decode bLA_law 1211 = .ok (.iadd, 1) := by decide +kernel
theorem dLA_law_1212 : decode bLA_law 1212 = .ok (.iaload, 1) := by decide +kernel
theorem dLA_law_1213 : decode bLA_law 1213 = .ok (.invokevirtual 135, 3) := by decide +kernel
theorem dLA_law_1216 : decode bLA_law 1216 = .ok (.istore 6, 2) := by decide +kernel
theorem dLA_law_1218 : decode bLA_law 1218 = .ok (.aload_n 2, 1) := by decide +kernel
theorem dLA_law_1219 : decode bLA_law 1219 = .ok (.invokevirtual 79, 3) := by decide +kernel
theorem dLA_law_1222 : decode bLA_law 1222 = .ok (.iload 5, 2) := by decide +kernel
theorem dLA_law_1224 : decode bLA_law 1224 = .ok (.if_icmp .eq 5, 3) := by decide +kernel
theorem dLA_law_1229 : decode bLA_law 1229 = .ok (.iload 5, 2) := by decide +kernel
theorem dLA_law_1231 : decode bLA_law 1231 = .ok (.ifCond .ne 22, 3) := by decide +kernel
theorem dLA_law_1253 : decode bLA_law 1253 = .ok (.goto 55, 3) := by decide +kernel
theorem dLA_law_1256 : decode bLA_law 1256 = .ok (.aload_n 1, 1) := by decide +kernel
theorem dLA_law_1257 : decode bLA_law 1257 = .ok (.invokevirtual 136, 3) := by decide +kernel
theorem dLA_law_1260 : decode bLA_law 1260 = .ok (.aload_n 2, 1) := by decide +kernel
theorem dLA_law_1261 : decode bLA_law 1261 = .ok (.invokevirtual 139, 3) := by decide +kernel
theorem dLA_law_1264 : decode bLA_law 1264 = .ok (.if_icmp .eq 44, 3) := by decide +kernel
theorem dLA_law_1269 : decode bLA_law 1269 = .ok (.aload_n 1, 1) := by decide +kernel
theorem dLA_law_1270 : decode bLA_law 1270 = .ok (.invokevirtual 140, 3) := by decide +kernel
theorem dLA_law_1273 : decode bLA_law 1273 = .ok (.aload_n 2, 1) := by decide +kernel
theorem dLA_law_1274 : decode bLA_law 1274 = .ok (.invokevirtual 143, 3) := by decide +kernel
theorem dLA_law_1277 : decode bLA_law 1277 = .ok (.if_icmp .eq 31, 3) := by decide +kernel
theorem dLA_law_1282 : decode bLA_law 1282 = .ok (.aload_n 1, 1) := by decide +kernel
theorem dLA_law_1283 : decode bLA_law 1283 = .ok (.invokevirtual 144, 3) := by decide +kernel
theorem dLA_law_1286 : decode bLA_law 1286 = .ok (.aload_n 2, 1) := by decide +kernel
theorem dLA_law_1287 : decode bLA_law 1287 = .ok (.invokevirtual 147, 3) := by decide +kernel
theorem dLA_law_1290 : decode bLA_law 1290 = .ok (.if_icmp .eq 18, 3) := by decide +kernel
theorem dLA_law_1295 : decode bLA_law 1295 = .ok (.aload_n 1, 1) := by decide +kernel
theorem dLA_law_1296 : decode bLA_law 1296 = .ok (.invokevirtual 148, 3) := by decide +kernel
theorem dLA_law_1299 : decode bLA_law 1299 = .ok (.aload_n 2, 1) := by decide +kernel
theorem dLA_law_1300 : decode bLA_law 1300 = .ok (.invokevirtual 151, 3) := by decide +kernel
theorem dLA_law_1303 : decode bLA_law 1303 = .ok (.if_icmp .eq 5, 3) := by decide +kernel
theorem dLA_law_1308 : decode bLA_law 1308 = .ok (.iinc 4 4, 3) := by decide +kernel
theorem dLA_law_1311 : decode bLA_law 1311 = .ok (.goto (-1288), 3) := by decide +kernel
theorem dLA_law_1314 : decode bLA_law 1314 = .ok (.iconst 1, 1) := by decide +kernel
theorem dLA_law_1315 : decode bLA_law 1315 = .ok (.ireturn, 1) := by decide +kernel
theorem dLA_law_39 : decode bLA_law 39 = .ok (.tableswitch 1269 0 20 #[97, 141, 221, 281, 325, 388, 451, 519, 622, 697, 753, 821, 901, 914, 982, 1062, 1142, 1217, 1230, 1243, 1256], 97) := by decide +kernel
