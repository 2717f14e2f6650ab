theorem k1_1 : tables_1_1[1]? = some (Jvm.Cond.initialized "RingGuard") := by decide +kernel
theorem k1_7 : tables_1_1[7]? = some (Jvm.Cond.initialized "RingGuard$Frames") := by decide +kernel
theorem k1_16 : tables_1_1[16]? = some (Jvm.Cond.initialized "java/lang/Math") := by decide +kernel
theorem k1_18 : tables_1_1[18]? = some (Jvm.Cond.instantiable "RingGuard" (13 : Nat)) := by decide +kernel
theorem k1_34 : tables_1_1[34]? = some (Jvm.Cond.fieldLink "RingGuard" (58 : Nat) "RingGuard$Plan" "bridgeCount" "I") := by decide +kernel
theorem k1_38 : tables_1_1[38]? = some (Jvm.Cond.fieldLink "RingGuard$Frames" (67 : Nat) "RingGuard$Plan" "linkCount" "I") := by decide +kernel
theorem k1_39 : tables_1_1[39]? = some (Jvm.Cond.fieldLink "RingGuard" (81 : Nat) "RingGuard$Plan" "linkCount" "I") := by decide +kernel
theorem k1_42 : tables_1_1[42]? = some (Jvm.Cond.fieldLink "RingGuard" (260 : Nat) "RingGuard$Plan" "firstOf" "[I") := by decide +kernel
theorem k1_44 : tables_1_1[44]? = some (Jvm.Cond.fieldLink "RingGuard" (263 : Nat) "RingGuard$Plan" "secondOf" "[I") := by decide +kernel
theorem k1_52 : tables_1_1[52]? = some (Jvm.Cond.fieldLink "RingGuard$Frames" (91 : Nat) "RingGuard$Plan" "placeOf" "[I") := by decide +kernel
theorem k1_97 : tables_1_1[97]? = some (Jvm.Cond.fieldLink "RingGuard" (223 : Nat) "RingGuard$Wires" "lostCount" "I") := by decide +kernel
theorem k1_147 : tables_1_1[147]? = some (Jvm.Cond.fieldLink "RingGuard" (248 : Nat) "RingGuard$Protocol" "stirs" "I") := by decide +kernel
theorem k1_149 : tables_1_1[149]? = some (Jvm.Cond.fieldLink "RingGuard" (269 : Nat) "RingGuard$Protocol" "holdsChanged" "Z") := by decide +kernel
theorem k1_180 : tables_1_1[180]? = some (Jvm.Cond.instantiable "RingGuard$Frames" (9 : Nat)) := by decide +kernel
theorem k1_185 : tables_1_1[185]? = some (Jvm.Cond.methodLink "RingGuard$Frames" (36 : Nat) ({ cls := "java/util/Arrays", name := "fill", desc := "([II)V" } : Jvm.MethodName)) := by decide +kernel
theorem k1_186 : tables_1_1[186]? = some (Jvm.Cond.fieldLink "RingGuard$Frames" (24 : Nat) "RingGuard$Frames" "plan" "LRingGuard$Plan;") := by decide +kernel
theorem k1_187 : tables_1_1[187]? = some (Jvm.Cond.fieldLink "RingGuard$Frames" (28 : Nat) "RingGuard$Frames" "protocol" "LRingGuard$Protocol;") := by decide +kernel
theorem k1_188 : tables_1_1[188]? = some (Jvm.Cond.fieldLink "RingGuard$Frames" (32 : Nat) "RingGuard$Frames" "tables" "LRingGuard$Tables;") := by decide +kernel
theorem k1_189 : tables_1_1[189]? = some (Jvm.Cond.fieldLink "RingGuard$Frames" (9 : Nat) "RingGuard$Frames" "bridgeOfHost" "[I") := by decide +kernel
theorem k1_191 : tables_1_1[191]? = some (Jvm.Cond.fieldLink "RingGuard$Frames" (15 : Nat) "RingGuard$Frames" "stepBridge" "[I") := by decide +kernel
theorem k1_192 : tables_1_1[192]? = some (Jvm.Cond.fieldLink "RingGuard$Frames" (18 : Nat) "RingGuard$Frames" "stepLink" "[I") := by decide +kernel
theorem k1_193 : tables_1_1[193]? = some (Jvm.Cond.fieldLink "RingGuard$Frames" (46 : Nat) "RingGuard$Frames" "stepCount" "I") := by decide +kernel
theorem k1_194 : tables_1_1[194]? = some (Jvm.Cond.fieldLink "RingGuard$Frames" (21 : Nat) "RingGuard$Frames" "passes" "[I") := by decide +kernel
theorem k1_195 : tables_1_1[195]? = some (Jvm.Cond.fieldLink "RingGuard$Frames" (42 : Nat) "RingGuard$Frames" "mostPasses" "I") := by decide +kernel
theorem k1_226 : tables_1_1[226]? = some (Jvm.Cond.fieldLink "RingGuard" (272 : Nat) "RingGuard$Groups" "groupCount" "I") := by decide +kernel
theorem k1_235 : tables_1_1[235]? = some (Jvm.Cond.fieldLink "RingGuard" (12 : Nat) "RingGuard" "plan" "LRingGuard$Plan;") := by decide +kernel
theorem k1_236 : tables_1_1[236]? = some (Jvm.Cond.fieldLink "RingGuard" (19 : Nat) "RingGuard" "wires" "LRingGuard$Wires;") := by decide +kernel
theorem k1_238 : tables_1_1[238]? = some (Jvm.Cond.fieldLink "RingGuard" (35 : Nat) "RingGuard" "protocol" "LRingGuard$Protocol;") := by decide +kernel
theorem k2_0 : tables_1_2[0]? = some (Jvm.Cond.fieldLink "RingGuard" (51 : Nat) "RingGuard" "groups" "LRingGuard$Groups;") := by decide +kernel
theorem k2_3 : tables_1_2[3]? = some (Jvm.Cond.fieldLink "RingGuard" (164 : Nat) "RingGuard" "calmTicks" "I") := by decide +kernel
theorem k2_5 : tables_1_2[5]? = some (Jvm.Cond.fieldLink "RingGuard" (254 : Nat) "RingGuard" "circleNow" "Z") := by decide +kernel
theorem k2_6 : tables_1_2[6]? = some (Jvm.Cond.fieldLink "RingGuard" (226 : Nat) "RingGuard" "circleCount" "I") := by decide +kernel
theorem k2_7 : tables_1_2[7]? = some (Jvm.Cond.fieldLink "RingGuard" (229 : Nat) "RingGuard" "apartCount" "I") := by decide +kernel
theorem k3_84 : tables_1_3[84]? = some (Jvm.Cond.methodLink "RingGuard" (214 : Nat) ({ cls := "RingGuard", name := "groupByOpenLinks", desc := "()V" } : Jvm.MethodName)) := by decide +kernel
theorem k3_85 : tables_1_3[85]? = some (Jvm.Cond.privateMethod ({ cls := "RingGuard", name := "groupByOpenLinks", desc := "()V" } : Jvm.MethodName)) := by decide +kernel
theorem k3_86 : tables_1_3[86]? = some (Jvm.Cond.instanceMethod ({ cls := "RingGuard", name := "groupByOpenLinks", desc := "()V" } : Jvm.MethodName)) := by decide +kernel
theorem k3_87 : tables_1_3[87]? = some (Jvm.Cond.code ({ cls := "RingGuard", name := "groupByOpenLinks", desc := "()V" } : Jvm.MethodName) prog_1_method_32_code (2 : Nat) (Option.none : Option Jvm.ClassFile.FieldType)) := rfl
theorem k3_88 : tables_1_3[88]? = some (Jvm.Cond.methodLink "RingGuard" (251 : Nat) ({ cls := "RingGuard$Groups", name := "separate", desc := "(I)V" } : Jvm.MethodName)) := by decide +kernel
theorem k3_89 : tables_1_3[89]? = some (Jvm.Cond.methodLink "RingGuard" (257 : Nat) ({ cls := "RingGuard$Protocol", name := "isOpen", desc := "(I)Z" } : Jvm.MethodName)) := by decide +kernel
theorem k3_90 : tables_1_3[90]? = some (Jvm.Cond.instanceMethod ({ cls := "RingGuard$Protocol", name := "isOpen", desc := "(I)Z" } : Jvm.MethodName)) := by decide +kernel
theorem k3_91 : tables_1_3[91]? = some (Jvm.Cond.selects "RingGuard$Protocol" ({ cls := "RingGuard$Protocol", name := "isOpen", desc := "(I)Z" } : Jvm.MethodName) ({ cls := "RingGuard$Protocol", name := "isOpen", desc := "(I)Z" } : Jvm.MethodName)) := by decide +kernel
theorem k3_92 : tables_1_3[92]? = some (Jvm.Cond.code ({ cls := "RingGuard$Protocol", name := "isOpen", desc := "(I)Z" } : Jvm.MethodName) prog_6_method_3_code (2 : Nat) (Option.some Jvm.ClassFile.FieldType.boolean)) := rfl
theorem k3_93 : tables_1_3[93]? = some (Jvm.Cond.methodLink "RingGuard" (266 : Nat) ({ cls := "RingGuard$Groups", name := "join", desc := "(II)Z" } : Jvm.MethodName)) := by decide +kernel
theorem k4_11 : tables_1_4[11]? = some (Jvm.Cond.methodLink "RingGuard" (275 : Nat) ({ cls := "RingGuard$Protocol", name := "hasAnyCommand", desc := "()Z" } : Jvm.MethodName)) := by decide +kernel
theorem k4_12 : tables_1_4[12]? = some (Jvm.Cond.instanceMethod ({ cls := "RingGuard$Protocol", name := "hasAnyCommand", desc := "()Z" } : Jvm.MethodName)) := by decide +kernel
theorem k4_13 : tables_1_4[13]? = some (Jvm.Cond.selects "RingGuard$Protocol" ({ cls := "RingGuard$Protocol", name := "hasAnyCommand", desc := "()Z" } : Jvm.MethodName) ({ cls := "RingGuard$Protocol", name := "hasAnyCommand", desc := "()Z" } : Jvm.MethodName)) := by decide +kernel
theorem k4_14 : tables_1_4[14]? = some (Jvm.Cond.code ({ cls := "RingGuard$Protocol", name := "hasAnyCommand", desc := "()Z" } : Jvm.MethodName) prog_6_method_18_code (2 : Nat) (Option.some Jvm.ClassFile.FieldType.boolean)) := rfl
theorem k4_15 : tables_1_4[15]? = some (Jvm.Cond.methodLink "RingGuard" (279 : Nat) ({ cls := "RingGuard$Protocol", name := "hasRingWithTwoFailures", desc := "()Z" } : Jvm.MethodName)) := by decide +kernel
theorem k4_16 : tables_1_4[16]? = some (Jvm.Cond.instanceMethod ({ cls := "RingGuard$Protocol", name := "hasRingWithTwoFailures", desc := "()Z" } : Jvm.MethodName)) := by decide +kernel
theorem k4_17 : tables_1_4[17]? = some (Jvm.Cond.selects "RingGuard$Protocol" ({ cls := "RingGuard$Protocol", name := "hasRingWithTwoFailures", desc := "()Z" } : Jvm.MethodName) ({ cls := "RingGuard$Protocol", name := "hasRingWithTwoFailures", desc := "()Z" } : Jvm.MethodName)) := by decide +kernel
theorem k4_18 : tables_1_4[18]? = some (Jvm.Cond.code ({ cls := "RingGuard$Protocol", name := "hasRingWithTwoFailures", desc := "()Z" } : Jvm.MethodName) prog_6_method_19_code (4 : Nat) (Option.some Jvm.ClassFile.FieldType.boolean)) := rfl
theorem k4_53 : tables_1_4[53]? = some (Jvm.Cond.methodLink "RingGuard$Frames" (49 : Nat) ({ cls := "RingGuard$Frames", name := "addStep", desc := "(II)V" } : Jvm.MethodName)) := by decide +kernel
theorem k4_54 : tables_1_4[54]? = some (Jvm.Cond.privateMethod ({ cls := "RingGuard$Frames", name := "addStep", desc := "(II)V" } : Jvm.MethodName)) := by decide +kernel
theorem k4_55 : tables_1_4[55]? = some (Jvm.Cond.instanceMethod ({ cls := "RingGuard$Frames", name := "addStep", desc := "(II)V" } : Jvm.MethodName)) := by decide +kernel
theorem k4_56 : tables_1_4[56]? = some (Jvm.Cond.code ({ cls := "RingGuard$Frames", name := "addStep", desc := "(II)V" } : Jvm.MethodName) prog_3_method_5_code (3 : Nat) (Option.none : Option Jvm.ClassFile.FieldType)) := rfl
theorem k4_57 : tables_1_4[57]? = some (Jvm.Cond.methodLink "RingGuard$Frames" (53 : Nat) ({ cls := "RingGuard$Tables", name := "learn", desc := "(IIIII)V" } : Jvm.MethodName)) := by decide +kernel
theorem k4_58 : tables_1_4[58]? = some (Jvm.Cond.instanceMethod ({ cls := "RingGuard$Tables", name := "learn", desc := "(IIIII)V" } : Jvm.MethodName)) := by decide +kernel
theorem k4_59 : tables_1_4[59]? = some (Jvm.Cond.selects "RingGuard$Tables" ({ cls := "RingGuard$Tables", name := "learn", desc := "(IIIII)V" } : Jvm.MethodName) ({ cls := "RingGuard$Tables", name := "learn", desc := "(IIIII)V" } : Jvm.MethodName)) := by decide +kernel
theorem k4_60 : tables_1_4[60]? = some (Jvm.Cond.code ({ cls := "RingGuard$Tables", name := "learn", desc := "(IIIII)V" } : Jvm.MethodName) prog_7_method_2_code (6 : Nat) (Option.none : Option Jvm.ClassFile.FieldType)) := rfl
theorem k4_61 : tables_1_4[61]? = some (Jvm.Cond.methodLink "RingGuard$Frames" (59 : Nat) ({ cls := "RingGuard$Tables", name := "linkTo", desc := "(IIII)I" } : Jvm.MethodName)) := by decide +kernel
theorem k4_62 : tables_1_4[62]? = some (Jvm.Cond.instanceMethod ({ cls := "RingGuard$Tables", name := "linkTo", desc := "(IIII)I" } : Jvm.MethodName)) := by decide +kernel
theorem k4_63 : tables_1_4[63]? = some (Jvm.Cond.selects "RingGuard$Tables" ({ cls := "RingGuard$Tables", name := "linkTo", desc := "(IIII)I" } : Jvm.MethodName) ({ cls := "RingGuard$Tables", name := "linkTo", desc := "(IIII)I" } : Jvm.MethodName)) := by decide +kernel
theorem k4_64 : tables_1_4[64]? = some (Jvm.Cond.code ({ cls := "RingGuard$Tables", name := "linkTo", desc := "(IIII)I" } : Jvm.MethodName) prog_7_method_3_code (6 : Nat) (Option.some Jvm.ClassFile.FieldType.int)) := rfl
theorem k4_65 : tables_1_4[65]? = some (Jvm.Cond.methodLink "RingGuard$Frames" (63 : Nat) ({ cls := "RingGuard$Frames", name := "goOn", desc := "(III)V" } : Jvm.MethodName)) := by decide +kernel
theorem k4_66 : tables_1_4[66]? = some (Jvm.Cond.privateMethod ({ cls := "RingGuard$Frames", name := "goOn", desc := "(III)V" } : Jvm.MethodName)) := by decide +kernel
theorem k4_67 : tables_1_4[67]? = some (Jvm.Cond.instanceMethod ({ cls := "RingGuard$Frames", name := "goOn", desc := "(III)V" } : Jvm.MethodName)) := by decide +kernel
theorem k4_68 : tables_1_4[68]? = some (Jvm.Cond.code ({ cls := "RingGuard$Frames", name := "goOn", desc := "(III)V" } : Jvm.MethodName) prog_3_method_3_code (7 : Nat) (Option.none : Option Jvm.ClassFile.FieldType)) := rfl
theorem k4_69 : tables_1_4[69]? = some (Jvm.Cond.methodLink "RingGuard$Frames" (72 : Nat) ({ cls := "RingGuard$Plan", name := "portOf", desc := "(II)I" } : Jvm.MethodName)) := by decide +kernel
theorem k4_70 : tables_1_4[70]? = some (Jvm.Cond.methodLink "RingGuard$Frames" (76 : Nat) ({ cls := "RingGuard$Protocol", name := "isOpen", desc := "(I)Z" } : Jvm.MethodName)) := by decide +kernel
theorem k4_71 : tables_1_4[71]? = some (Jvm.Cond.methodLink "RingGuard$Frames" (82 : Nat) ({ cls := "RingGuard$Frames", name := "goOver", desc := "(I)V" } : Jvm.MethodName)) := by decide +kernel
theorem k4_72 : tables_1_4[72]? = some (Jvm.Cond.privateMethod ({ cls := "RingGuard$Frames", name := "goOver", desc := "(I)V" } : Jvm.MethodName)) := by decide +kernel
theorem k4_73 : tables_1_4[73]? = some (Jvm.Cond.instanceMethod ({ cls := "RingGuard$Frames", name := "goOver", desc := "(I)V" } : Jvm.MethodName)) := by decide +kernel
theorem k4_74 : tables_1_4[74]? = some (Jvm.Cond.code ({ cls := "RingGuard$Frames", name := "goOver", desc := "(I)V" } : Jvm.MethodName) prog_3_method_4_code (2 : Nat) (Option.none : Option Jvm.ClassFile.FieldType)) := rfl
theorem k4_75 : tables_1_4[75]? = some (Jvm.Cond.methodLink "RingGuard$Frames" (86 : Nat) ({ cls := "java/lang/Math", name := "max", desc := "(II)I" } : Jvm.MethodName)) := by decide +kernel
theorem k4_76 : tables_1_4[76]? = some (Jvm.Cond.static ({ cls := "java/lang/Math", name := "max", desc := "(II)I" } : Jvm.MethodName)) := by decide +kernel
theorem k4_77 : tables_1_4[77]? = some (Jvm.Cond.code ({ cls := "java/lang/Math", name := "max", desc := "(II)I" } : Jvm.MethodName) prog_14_method_65_code (2 : Nat) (Option.some Jvm.ClassFile.FieldType.int)) := rfl
abbrev yFR_addStep : MethodName := ⟨"RingGuard$Frames", "addStep", "(II)V"⟩
abbrev bFR_addStep : ByteArray := prog_3_method_5_code
abbrev yFR_goOver : MethodName := ⟨"RingGuard$Frames", "goOver", "(I)V"⟩
abbrev bFR_goOver : ByteArray := prog_3_method_4_code
abbrev yFR_goOn : MethodName := ⟨"RingGuard$Frames", "goOn", "(III)V"⟩
abbrev bFR_goOn : ByteArray := prog_3_method_3_code
abbrev yFR_carry : MethodName := ⟨"RingGuard$Frames", "carry", "(IIII)I"⟩
abbrev bFR_carry : ByteArray := prog_3_method_2_code
abbrev yRG_groupByOpenLinks : MethodName := ⟨"RingGuard", "groupByOpenLinks", "()V"⟩
abbrev bRG_groupByOpenLinks : ByteArray := prog_1_method_32_code
abbrev yRG_countCircle : MethodName := ⟨"RingGuard", "countCircle", "()V"⟩
abbrev bRG_countCircle : ByteArray := prog_1_method_33_code
abbrev yRG_countApart : MethodName := ⟨"RingGuard", "countApart", "()V"⟩
abbrev bRG_countApart : ByteArray := prog_1_method_34_code
abbrev yRG_countStirs : MethodName := ⟨"RingGuard", "countStirs", "()I"⟩
abbrev bRG_countStirs : ByteArray := prog_1_method_31_code
theorem dRG_countApart_0 : decode bRG_countApart 0 = .ok (.aload_n 0, 1) := by decide +kernel
theorem dRG_countApart_1 : decode bRG_countApart 1 = .ok (.getfield 51, 3) := by decide +kernel
theorem dRG_countApart_4 : decode bRG_countApart 4 = .ok (.getfield 272, 3) := by decide +kernel
theorem dRG_countApart_7 : decode bRG_countApart 7 = .ok (.iconst 1, 1) := by decide +kernel
theorem dRG_countApart_8 : decode bRG_countApart 8 = .ok (.if_icmp .le 52, 3) := by decide +kernel
theorem dRG_countApart_11 : decode bRG_countApart 11 = .ok (.aload_n 0, 1) := by decide +kernel
theorem dRG_countApart_12 : decode bRG_countApart 12 = .ok (.getfield 164, 3) := by decide +kernel
theorem dRG_countApart_15 : decode bRG_countApart 15 = .ok (.iconst 4, 1) := by decide +kernel
theorem dRG_countApart_16 : decode bRG_countApart 16 = .ok (.aload_n 0, 1) := by decide +kernel
theorem dRG_countApart_17 : decode bRG_countApart 17 = .ok (.getfield 12, 3) := by decide +kernel
theorem dRG_countApart_20 : decode bRG_countApart 20 = .ok (.getfield 58, 3) := by decide +kernel
theorem dRG_countApart_23 : decode bRG_countApart 23 = .ok (.imul, 1) := by decide +kernel
theorem dRG_countApart_24 : decode bRG_countApart 24 = .ok (.bipush 80, 2) := by decide +kernel
theorem dRG_countApart_26 : decode bRG_countApart 26 = .ok (.iadd, 1) := by decide +kernel
theorem dRG_countApart_27 : decode bRG_countApart 27 = .ok (.if_icmp .lt 33, 3) := by decide +kernel
theorem dRG_countApart_30 : decode bRG_countApart 30 = .ok (.aload_n 0, 1) := by decide +kernel
theorem dRG_countApart_31 : decode bRG_countApart 31 = .ok (.getfield 35, 3) := by decide +kernel
theorem dRG_countApart_34 : decode bRG_countApart 34 = .ok (.invokevirtual 275, 3) := by decide +kernel
theorem dRG_countApart_37 : decode bRG_countApart 37 = .ok (.ifCond .ne 23, 3) := by decide +kernel
theorem dRG_countApart_40 : decode bRG_countApart 40 = .ok (.aload_n 0, 1) := by decide +kernel
theorem dRG_countApart_41 : decode bRG_countApart 41 = .ok (.getfield 35, 3) := by decide +kernel
theorem dRG_countApart_44 : decode bRG_countApart 44 = .ok (.invokevirtual 279, 3) := by decide +kernel
theorem dRG_countApart_47 : decode bRG_countApart 47 = .ok (.ifCond .ne 13, 3) := by decide +kernel
theorem dRG_countApart_50 : decode bRG_countApart 50 = .ok (.aload_n 0, 1) := by decide +kernel
theorem dRG_countApart_51 : decode bRG_countApart 51 = .ok (.dup, 1) := by decide +kernel
theorem dRG_countApart_52 : decode bRG_countApart 52 = .ok (.getfield 229, 3) := by decide +kernel
theorem dRG_countApart_55 : decode bRG_countApart 55 = .ok (.iconst 1, 1) := by decide +kernel
theorem dRG_countApart_56 : decode bRG_countApart 56 = .ok (.iadd, 1) := by decide +kernel
theorem dRG_countApart_57 : decode bRG_countApart 57 = .ok (.putfield 229, 3) := by decide +kernel
theorem dRG_countApart_60 : decode bRG_countApart 60 = .ok (.return_, 1) := by decide +kernel
theorem dRG_countCircle_0 : decode bRG_countCircle 0 = .ok (.aload_n 0, 1) := by decide +kernel
theorem dRG_countCircle_1 : decode bRG_countCircle 1 = .ok (.getfield 35, 3) := by decide +kernel
theorem dRG_countCircle_4 : decode bRG_countCircle 4 = .ok (.getfield 269, 3) := by decide +kernel
theorem dRG_countCircle_7 : decode bRG_countCircle 7 = .ok (.ifCond .eq 15, 3) := by decide +kernel
theorem dRG_countCircle_10 : decode bRG_countCircle 10 = .ok (.aload_n 0, 1) := by decide +kernel
theorem dRG_countCircle_11 : decode bRG_countCircle 11 = .ok (.invokevirtual 214, 3) := by decide +kernel
theorem dRG_countCircle_14 : decode bRG_countCircle 14 = .ok (.aload_n 0, 1) := by decide +kernel
theorem dRG_countCircle_15 : decode bRG_countCircle 15 = .ok (.getfield 35, 3) := by decide +kernel
theorem dRG_countCircle_18 : decode bRG_countCircle 18 = .ok (.iconst 0, 1) := by decide +kernel
theorem dRG_countCircle_19 : decode bRG_countCircle 19 = .ok (.putfield 269, 3) := by decide +kernel
theorem dRG_countCircle_22 : decode bRG_countCircle 22 = .ok (.aload_n 0, 1) := by decide +kernel
theorem dRG_countCircle_23 : decode bRG_countCircle 23 = .ok (.getfield 254, 3) := by decide +kernel
theorem dRG_countCircle_26 : decode bRG_countCircle 26 = .ok (.ifCond .eq 13, 3) := by decide +kernel
theorem dRG_countCircle_29 : decode bRG_countCircle 29 = .ok (.aload_n 0, 1) := by decide +kernel
theorem dRG_countCircle_30 : decode bRG_countCircle 30 = .ok (.dup, 1) := by decide +kernel
theorem dRG_countCircle_31 : decode bRG_countCircle 31 = .ok (.getfield 226, 3) := by decide +kernel
theorem dRG_countCircle_34 : decode bRG_countCircle 34 = .ok (.iconst 1, 1) := by decide +kernel
theorem dRG_countCircle_35 : decode bRG_countCircle 35 = .ok (.iadd, 1) := by decide +kernel
theorem dRG_countCircle_36 : decode bRG_countCircle 36 = .ok (.putfield 226, 3) := by decide +kernel
theorem dRG_countCircle_39 : decode bRG_countCircle 39 = .ok (.return_, 1) := by decide +kernel
theorem dRG_countStirs_0 : decode bRG_countStirs 0 = .ok (.aload_n 0, 1) := by decide +kernel
theorem dRG_countStirs_1 : decode bRG_countStirs 1 = .ok (.getfield 35, 3) := by decide +kernel
theorem dRG_countStirs_4 : decode bRG_countStirs 4 = .ok (.getfield 248, 3) := by decide +kernel
theorem dRG_countStirs_7 : decode bRG_countStirs 7 = .ok (.aload_n 0, 1) := by decide +kernel
theorem dRG_countStirs_8 : decode bRG_countStirs 8 = .ok (.getfield 19, 3) := by decide +kernel
theorem dRG_countStirs_11 : decode bRG_countStirs 11 = .ok (.getfield 223, 3) := by decide +kernel
theorem dRG_countStirs_14 : decode bRG_countStirs 14 = .ok (.iadd, 1) := by decide +kernel
theorem dRG_countStirs_15 : decode bRG_countStirs 15 = .ok (.ireturn, 1) := by decide +kernel
theorem dRG_groupByOpenLinks_0 : decode bRG_groupByOpenLinks 0 = .ok (.aload_n 0, 1) := by decide +kernel
theorem dRG_groupByOpenLinks_1 : decode bRG_groupByOpenLinks 1 = .ok (.getfield 51, 3) := by decide +kernel
theorem dRG_groupByOpenLinks_4 : decode bRG_groupByOpenLinks 4 = .ok (.aload_n 0, 1) := by decide +kernel
theorem dRG_groupByOpenLinks_5 : decode bRG_groupByOpenLinks 5 = .ok (.getfield 12, 3) := by decide +kernel
theorem dRG_groupByOpenLinks_8 : decode bRG_groupByOpenLinks 8 = .ok (.getfield 58, 3) := by decide +kernel
theorem dRG_groupByOpenLinks_11 : decode bRG_groupByOpenLinks 11 = .ok (.invokevirtual 251, 3) := by decide +kernel
theorem dRG_groupByOpenLinks_14 : decode bRG_groupByOpenLinks 14 = .ok (.aload_n 0, 1) := by decide +kernel
theorem dRG_groupByOpenLinks_15 : decode bRG_groupByOpenLinks 15 = .ok (.iconst 0, 1) := by decide +kernel
theorem dRG_groupByOpenLinks_16 : decode bRG_groupByOpenLinks 16 = .ok (.putfield 254, 3) := by decide +kernel
theorem dRG_groupByOpenLinks_19 : decode bRG_groupByOpenLinks 19 = .ok (.iconst 0, 1) := by decide +kernel
theorem dRG_groupByOpenLinks_20 : decode bRG_groupByOpenLinks 20 = .ok (.istore_n 1, 1) := by decide +kernel
theorem dRG_groupByOpenLinks_21 : decode bRG_groupByOpenLinks 21 = .ok (.iload_n 1, 1) := by decide +kernel
theorem dRG_groupByOpenLinks_22 : decode bRG_groupByOpenLinks 22 = .ok (.aload_n 0, 1) := by decide +kernel
theorem dRG_groupByOpenLinks_23 : decode bRG_groupByOpenLinks 23 = .ok (.getfield 12, 3) := by decide +kernel
theorem dRG_groupByOpenLinks_26 : decode bRG_groupByOpenLinks 26 = .ok (.getfield 81, 3) := by decide +kernel
theorem dRG_groupByOpenLinks_29 : decode bRG_groupByOpenLinks 29 = .ok (.if_icmp .ge 53, 3) := by decide +kernel
theorem dRG_groupByOpenLinks_32 : decode bRG_groupByOpenLinks 32 = .ok (.aload_n 0, 1) := by decide +kernel
theorem dRG_groupByOpenLinks_33 : decode bRG_groupByOpenLinks 33 = .ok (.getfield 35, 3) := by decide +kernel
theorem dRG_groupByOpenLinks_36 : decode bRG_groupByOpenLinks 36 = .ok (.iload_n 1, 1) := by decide +kernel
theorem dRG_groupByOpenLinks_37 : decode bRG_groupByOpenLinks 37 = .ok (.invokevirtual 257, 3) := by decide +kernel
theorem dRG_groupByOpenLinks_40 : decode bRG_groupByOpenLinks 40 = .ok (.ifCond .eq 36, 3) := by decide +kernel
theorem dRG_groupByOpenLinks_43 : decode bRG_groupByOpenLinks 43 = .ok (.aload_n 0, 1) := by decide +kernel
theorem dRG_groupByOpenLinks_44 : decode bRG_groupByOpenLinks 44 = .ok (.getfield 51, 3) := by decide +kernel
theorem dRG_groupByOpenLinks_47 : decode bRG_groupByOpenLinks 47 = .ok (.aload_n 0, 1) := by decide +kernel
theorem dRG_groupByOpenLinks_48 : decode bRG_groupByOpenLinks 48 = .ok (.getfield 12, 3) := by decide +kernel
theorem dRG_groupByOpenLinks_51 : decode bRG_groupByOpenLinks 51 = .ok (.getfield 260, 3) := by decide +kernel
theorem dRG_groupByOpenLinks_54 : decode bRG_groupByOpenLinks 54 = .ok (.iload_n 1, 1) := by decide +kernel
theorem dRG_groupByOpenLinks_55 : decode bRG_groupByOpenLinks 55 = .ok (.iaload, 1) := by decide +kernel
theorem dRG_groupByOpenLinks_56 : decode bRG_groupByOpenLinks 56 = .ok (.aload_n 0, 1) := by decide +kernel
theorem dRG_groupByOpenLinks_57 : decode bRG_groupByOpenLinks 57 = .ok (.getfield 12, 3) := by decide +kernel
theorem dRG_groupByOpenLinks_60 : decode bRG_groupByOpenLinks 60 = .ok (.getfield 263, 3) := by decide +kernel
theorem dRG_groupByOpenLinks_63 : decode bRG_groupByOpenLinks 63 = .ok (.iload_n 1, 1) := by decide +kernel
theorem dRG_groupByOpenLinks_64 : decode bRG_groupByOpenLinks 64 = .ok (.iaload, 1) := by decide +kernel
theorem dRG_groupByOpenLinks_65 : decode bRG_groupByOpenLinks 65 = .ok (.invokevirtual 266, 3) := by decide +kernel
theorem dRG_groupByOpenLinks_68 : decode bRG_groupByOpenLinks 68 = .ok (.ifCond .ne 8, 3) := by decide +kernel
theorem dRG_groupByOpenLinks_71 : decode bRG_groupByOpenLinks 71 = .ok (.aload_n 0, 1) := by decide +kernel
theorem dRG_groupByOpenLinks_72 : decode bRG_groupByOpenLinks 72 = .ok (.iconst 1, 1) := by decide +kernel
theorem dRG_groupByOpenLinks_73 : decode bRG_groupByOpenLinks 73 = .ok (.putfield 254, 3) := by decide +kernel
theorem dRG_groupByOpenLinks_76 : decode bRG_groupByOpenLinks 76 = .ok (.iinc 1 1, 3) := by decide +kernel
theorem dRG_groupByOpenLinks_79 : decode bRG_groupByOpenLinks 79 = .ok (.goto (-58), 3) := by decide +kernel
theorem dRG_groupByOpenLinks_82 : decode bRG_groupByOpenLinks 82 = .ok (.return_, 1) := by decide +kernel
theorem dFR_addStep_0 : decode bFR_addStep 0 = .ok (.aload_n 0, 1) := by decide +kernel
theorem dFR_addStep_1 : decode bFR_addStep 1 = .ok (.getfield 46, 3) := by decide +kernel
theorem dFR_addStep_4 : decode bFR_addStep 4 = .ok (.sipush 400, 3) := by decide +kernel
theorem dFR_addStep_7 : decode bFR_addStep 7 = .ok (.if_icmp .ge 33, 3) := by decide +kernel
theorem dFR_addStep_10 : decode bFR_addStep 10 = .ok (.aload_n 0, 1) := by decide +kernel
theorem dFR_addStep_11 : decode bFR_addStep 11 = .ok (.getfield 15, 3) := by decide +kernel
theorem dFR_addStep_14 : decode bFR_addStep 14 = .ok (.aload_n 0, 1) := by decide +kernel
theorem dFR_addStep_15 : decode bFR_addStep 15 = .ok (.getfield 46, 3) := by decide +kernel
theorem dFR_addStep_18 : decode bFR_addStep 18 = .ok (.iload_n 1, 1) := by decide +kernel
theorem dFR_addStep_19 : decode bFR_addStep 19 = .ok (.iastore, 1) := by decide +kernel
theorem dFR_addStep_20 : decode bFR_addStep 20 = .ok (.aload_n 0, 1) := by decide +kernel
theorem dFR_addStep_21 : decode bFR_addStep 21 = .ok (.getfield 18, 3) := by decide +kernel
theorem dFR_addStep_24 : decode bFR_addStep 24 = .ok (.aload_n 0, 1) := by decide +kernel
theorem dFR_addStep_25 : decode bFR_addStep 25 = .ok (.getfield 46, 3) := by decide +kernel
theorem dFR_addStep_28 : decode bFR_addStep 28 = .ok (.iload_n 2, 1) := by decide +kernel
theorem dFR_addStep_29 : decode bFR_addStep 29 = .ok (.iastore, 1) := by decide +kernel
theorem dFR_addStep_30 : decode bFR_addStep 30 = .ok (.aload_n 0, 1) := by decide +kernel
theorem dFR_addStep_31 : decode bFR_addStep 31 = .ok (.dup, 1) := by decide +kernel
theorem dFR_addStep_32 : decode bFR_addStep 32 = .ok (.getfield 46, 3) := by decide +kernel
theorem dFR_addStep_35 : decode bFR_addStep 35 = .ok (.iconst 1, 1) := by decide +kernel
theorem dFR_addStep_36 : decode bFR_addStep 36 = .ok (.iadd, 1) := by decide +kernel
theorem dFR_addStep_37 : decode bFR_addStep 37 = .ok (.putfield 46, 3) := by decide +kernel
theorem dFR_addStep_40 : decode bFR_addStep 40 = .ok (.return_, 1) := by decide +kernel
theorem dFR_carry_0 : decode bFR_carry 0 = .ok (.aload_n 0, 1) := by decide +kernel
theorem dFR_carry_1 : decode bFR_carry 1 = .ok (.getfield 21, 3) := by decide +kernel
theorem dFR_carry_4 : decode bFR_carry 4 = .ok (.iconst 0, 1) := by decide +kernel
theorem dFR_carry_5 : decode bFR_carry 5 = .ok (.invokestatic 36, 3) := by decide +kernel
theorem dFR_carry_8 : decode bFR_carry 8 = .ok (.aload_n 0, 1) := by decide +kernel
theorem dFR_carry_9 : decode bFR_carry 9 = .ok (.iconst 0, 1) := by decide +kernel
theorem dFR_carry_10 : decode bFR_carry 10 = .ok (.putfield 42, 3) := by decide +kernel
theorem dFR_carry_13 : decode bFR_carry 13 = .ok (.aload_n 0, 1) := by decide +kernel
theorem dFR_carry_14 : decode bFR_carry 14 = .ok (.iconst 0, 1) := by decide +kernel
theorem dFR_carry_15 : decode bFR_carry 15 = .ok (.putfield 46, 3) := by decide +kernel
theorem dFR_carry_18 : decode bFR_carry 18 = .ok (.aload_n 0, 1) := by decide +kernel
theorem dFR_carry_19 : decode bFR_carry 19 = .ok (.aload_n 0, 1) := by decide +kernel
theorem dFR_carry_20 : decode bFR_carry 20 = .ok (.getfield 9, 3) := by decide +kernel
theorem dFR_carry_23 : decode bFR_carry 23 = .ok (.iload_n 1, 1) := by decide +kernel
theorem dFR_carry_24 : decode bFR_carry 24 = .ok (.iaload, 1) := by decide +kernel
theorem dFR_carry_25 : decode bFR_carry 25 = .ok (.iconst (-1), 1) := by decide +kernel
theorem dFR_carry_26 : decode bFR_carry 26 = .ok (.invokevirtual 49, 3) := by decide +kernel
theorem dFR_carry_29 : decode bFR_carry 29 = .ok (.iconst 0, 1) := by decide +kernel
theorem dFR_carry_30 : decode bFR_carry 30 = .ok (.istore 5, 2) := by decide +kernel
theorem dFR_carry_32 : decode bFR_carry 32 = .ok (.iconst 0, 1) := by decide +kernel
theorem dFR_carry_33 : decode bFR_carry 33 = .ok (.istore 6, 2) := by decide +kernel
theorem dFR_carry_35 : decode bFR_carry 35 = .ok (.iload 6, 2) := by decide +kernel
theorem dFR_carry_37 : decode bFR_carry 37 = .ok (.sipush 400, 3) := by decide +kernel
theorem dFR_carry_40 : decode bFR_carry 40 = .ok (.if_icmp .ge 95, 3) := by decide +kernel
theorem dFR_carry_43 : decode bFR_carry 43 = .ok (.iload 6, 2) := by decide +kernel
theorem dFR_carry_45 : decode bFR_carry 45 = .ok (.aload_n 0, 1) := by decide +kernel
theorem dFR_carry_46 : decode bFR_carry 46 = .ok (.getfield 46, 3) := by decide +kernel
theorem dFR_carry_49 : decode bFR_carry 49 = .ok (.if_icmp .ge 86, 3) := by decide +kernel
theorem dFR_carry_52 : decode bFR_carry 52 = .ok (.aload_n 0, 1) := by decide +kernel
theorem dFR_carry_53 : decode bFR_carry 53 = .ok (.getfield 15, 3) := by decide +kernel
theorem dFR_carry_56 : decode bFR_carry 56 = .ok (.iload 6, 2) := by decide +kernel
theorem dFR_carry_58 : decode bFR_carry 58 = .ok (.iaload, 1) := by decide +kernel
theorem dFR_carry_59 : decode bFR_carry 59 = .ok (.istore 7, 2) := by decide +kernel
theorem dFR_carry_61 : decode bFR_carry 61 = .ok (.aload_n 0, 1) := by decide +kernel
theorem dFR_carry_62 : decode bFR_carry 62 = .ok (.getfield 18, 3) := by decide +kernel
theorem dFR_carry_65 : decode bFR_carry 65 = .ok (.iload 6, 2) := by decide +kernel
theorem dFR_carry_67 : decode bFR_carry 67 = .ok (.iaload, 1) := by decide +kernel
theorem dFR_carry_68 : decode bFR_carry 68 = .ok (.istore 8, 2) := by decide +kernel
theorem dFR_carry_70 : decode bFR_carry 70 = .ok (.iload 8, 2) := by decide +kernel
theorem dFR_carry_72 : decode bFR_carry 72 = .ok (.iconst (-1), 1) := by decide +kernel
theorem dFR_carry_73 : decode bFR_carry 73 = .ok (.if_icmp .eq 18, 3) := by decide +kernel
theorem dFR_carry_76 : decode bFR_carry 76 = .ok (.aload_n 0, 1) := by decide +kernel
theorem dFR_carry_77 : decode bFR_carry 77 = .ok (.getfield 32, 3) := by decide +kernel
theorem dFR_carry_80 : decode bFR_carry 80 = .ok (.iload 7, 2) := by decide +kernel
theorem dFR_carry_82 : decode bFR_carry 82 = .ok (.iload_n 3, 1) := by decide +kernel
theorem dFR_carry_83 : decode bFR_carry 83 = .ok (.iload_n 1, 1) := by decide +kernel
theorem dFR_carry_84 : decode bFR_carry 84 = .ok (.iload 8, 2) := by decide +kernel
theorem dFR_carry_86 : decode bFR_carry 86 = .ok (.iload 4, 2) := by decide +kernel
theorem dFR_carry_88 : decode bFR_carry 88 = .ok (.invokevirtual 53, 3) := by decide +kernel
theorem dFR_carry_91 : decode bFR_carry 91 = .ok (.iload 7, 2) := by decide +kernel
theorem dFR_carry_93 : decode bFR_carry 93 = .ok (.aload_n 0, 1) := by decide +kernel
theorem dFR_carry_94 : decode bFR_carry 94 = .ok (.getfield 9, 3) := by decide +kernel
theorem dFR_carry_97 : decode bFR_carry 97 = .ok (.iload_n 2, 1) := by decide +kernel
theorem dFR_carry_98 : decode bFR_carry 98 = .ok (.iaload, 1) := by decide +kernel
theorem dFR_carry_99 : decode bFR_carry 99 = .ok (.if_icmp .ne 9, 3) := by decide +kernel
theorem dFR_carry_102 : decode bFR_carry 102 = .ok (.iinc 5 1, 3) := by decide +kernel
theorem dFR_carry_105 : decode bFR_carry 105 = .ok (.goto 24, 3) := by decide +kernel
theorem dFR_carry_108 : decode bFR_carry 108 = .ok (.aload_n 0, 1) := by decide +kernel
theorem dFR_carry_109 : decode bFR_carry 109 = .ok (.iload 7, 2) := by decide +kernel
theorem dFR_carry_111 : decode bFR_carry 111 = .ok (.iload 8, 2) := by decide +kernel
theorem dFR_carry_113 : decode bFR_carry 113 = .ok (.aload_n 0, 1) := by decide +kernel
theorem dFR_carry_114 : decode bFR_carry 114 = .ok (.getfield 32, 3) := by decide +kernel
theorem dFR_carry_117 : decode bFR_carry 117 = .ok (.iload 7, 2) := by decide +kernel
theorem dFR_carry_119 : decode bFR_carry 119 = .ok (.iload_n 3, 1) := by decide +kernel
theorem dFR_carry_120 : decode bFR_carry 120 = .ok (.iload_n 2, 1) := by decide +kernel
theorem dFR_carry_121 : decode bFR_carry 121 = .ok (.iload 4, 2) := by decide +kernel
theorem dFR_carry_123 : decode bFR_carry 123 = .ok (.invokevirtual 59, 3) := by decide +kernel
theorem dFR_carry_126 : decode bFR_carry 126 = .ok (.invokevirtual 63, 3) := by decide +kernel
theorem dFR_carry_129 : decode bFR_carry 129 = .ok (.iinc 6 1, 3) := by decide +kernel
theorem dFR_carry_132 : decode bFR_carry 132 = .ok (.goto (-97), 3) := by decide +kernel
theorem dFR_carry_135 : decode bFR_carry 135 = .ok (.iload 5, 2) := by decide +kernel
theorem dFR_carry_137 : decode bFR_carry 137 = .ok (.ireturn, 1) := by decide +kernel
theorem dFR_goOn_0 : decode bFR_goOn 0 = .ok (.iconst 0, 1) := by decide +kernel
theorem dFR_goOn_1 : decode bFR_goOn 1 = .ok (.istore 4, 2) := by decide +kernel
theorem dFR_goOn_3 : decode bFR_goOn 3 = .ok (.iload 4, 2) := by decide +kernel
theorem dFR_goOn_5 : decode bFR_goOn 5 = .ok (.aload_n 0, 1) := by decide +kernel
theorem dFR_goOn_6 : decode bFR_goOn 6 = .ok (.getfield 24, 3) := by decide +kernel
theorem dFR_goOn_9 : decode bFR_goOn 9 = .ok (.getfield 67, 3) := by decide +kernel
theorem dFR_goOn_12 : decode bFR_goOn 12 = .ok (.if_icmp .ge 74, 3) := by decide +kernel
theorem dFR_goOn_15 : decode bFR_goOn 15 = .ok (.aload_n 0, 1) := by decide +kernel
theorem dFR_goOn_16 : decode bFR_goOn 16 = .ok (.getfield 24, 3) := by decide +kernel
theorem dFR_goOn_19 : decode bFR_goOn 19 = .ok (.iload_n 1, 1) := by decide +kernel
theorem dFR_goOn_20 : decode bFR_goOn 20 = .ok (.iload 4, 2) := by decide +kernel
theorem dFR_goOn_22 : decode bFR_goOn 22 = .ok (.invokevirtual 72, 3) := by decide +kernel
theorem dFR_goOn_25 : decode bFR_goOn 25 = .ok (.istore 5, 2) := by decide +kernel
theorem dFR_goOn_27 : decode bFR_goOn 27 = .ok (.iload_n 3, 1) := by decide +kernel
theorem dFR_goOn_28 : decode bFR_goOn 28 = .ok (.iconst (-1), 1) := by decide +kernel
theorem dFR_goOn_29 : decode bFR_goOn 29 = .ok (.if_icmp .eq 9, 3) := by decide +kernel
theorem dFR_goOn_32 : decode bFR_goOn 32 = .ok (.iload_n 3, 1) := by decide +kernel
theorem dFR_goOn_33 : decode bFR_goOn 33 = .ok (.iload 4, 2) := by decide +kernel
theorem dFR_goOn_35 : decode bFR_goOn 35 = .ok (.if_icmp .ne 7, 3) := by decide +kernel
theorem dFR_goOn_38 : decode bFR_goOn 38 = .ok (.iconst 1, 1) := by decide +kernel
theorem dFR_goOn_39 : decode bFR_goOn 39 = .ok (.goto 4, 3) := by decide +kernel
theorem dFR_goOn_42 : decode bFR_goOn 42 = .ok (.iconst 0, 1) := by decide +kernel
theorem dFR_goOn_43 : decode bFR_goOn 43 = .ok (.istore 6, 2) := by decide +kernel
theorem dFR_goOn_45 : decode bFR_goOn 45 = .ok (.iload 5, 2) := by decide +kernel
theorem dFR_goOn_47 : decode bFR_goOn 47 = .ok (.iconst (-1), 1) := by decide +kernel
theorem dFR_goOn_48 : decode bFR_goOn 48 = .ok (.if_icmp .eq 32, 3) := by decide +kernel
theorem dFR_goOn_51 : decode bFR_goOn 51 = .ok (.iload 6, 2) := by decide +kernel
theorem dFR_goOn_53 : decode bFR_goOn 53 = .ok (.ifCond .eq 27, 3) := by decide +kernel
theorem dFR_goOn_56 : decode bFR_goOn 56 = .ok (.iload 4, 2) := by decide +kernel
theorem dFR_goOn_58 : decode bFR_goOn 58 = .ok (.iload_n 2, 1) := by decide +kernel
theorem dFR_goOn_59 : decode bFR_goOn 59 = .ok (.if_icmp .eq 21, 3) := by decide +kernel
theorem dFR_goOn_62 : decode bFR_goOn 62 = .ok (.aload_n 0, 1) := by decide +kernel
theorem dFR_goOn_63 : decode bFR_goOn 63 = .ok (.getfield 28, 3) := by decide +kernel
theorem dFR_goOn_66 : decode bFR_goOn 66 = .ok (.iload 4, 2) := by decide +kernel
theorem dFR_goOn_68 : decode bFR_goOn 68 = .ok (.invokevirtual 76, 3) := by decide +kernel
theorem dFR_goOn_71 : decode bFR_goOn 71 = .ok (.ifCond .eq 9, 3) := by decide +kernel
theorem dFR_goOn_74 : decode bFR_goOn 74 = .ok (.aload_n 0, 1) := by decide +kernel
theorem dFR_goOn_75 : decode bFR_goOn 75 = .ok (.iload 5, 2) := by decide +kernel
theorem dFR_goOn_77 : decode bFR_goOn 77 = .ok (.invokevirtual 82, 3) := by decide +kernel
theorem dFR_goOn_80 : decode bFR_goOn 80 = .ok (.iinc 4 1, 3) := by decide +kernel
theorem dFR_goOn_83 : decode bFR_goOn 83 = .ok (.goto (-80), 3) := by decide +kernel
theorem dFR_goOn_86 : decode bFR_goOn 86 = .ok (.return_, 1) := by decide +kernel
theorem dFR_goOver_0 : decode bFR_goOver 0 = .ok (.aload_n 0, 1) := by decide +kernel
theorem dFR_goOver_1 : decode bFR_goOver 1 = .ok (.getfield 21, 3) := by decide +kernel
theorem dFR_goOver_4 : decode bFR_goOver 4 = .ok (.iload_n 1, 1) := by decide +kernel
theorem dFR_goOver_5 : decode bFR_goOver 5 = .ok (.dup2, 1) := by decide +kernel
theorem dFR_goOver_6 : decode bFR_goOver 6 = .ok (.iaload, 1) := by decide +kernel
theorem dFR_goOver_7 : decode bFR_goOver 7 = .ok (.iconst 1, 1) := by decide +kernel
theorem dFR_goOver_8 : decode bFR_goOver 8 = .ok (.iadd, 1) := by decide +kernel
theorem dFR_goOver_9 : decode bFR_goOver 9 = .ok (.iastore, 1) := by decide +kernel
theorem dFR_goOver_10 : decode bFR_goOver 10 = .ok (.aload_n 0, 1) := by decide +kernel
theorem dFR_goOver_11 : decode bFR_goOver 11 = .ok (.aload_n 0, 1) := by decide +kernel
theorem dFR_goOver_12 : decode bFR_goOver 12 = .ok (.getfield 42, 3) := by decide +kernel
theorem dFR_goOver_15 : decode bFR_goOver 15 = .ok (.aload_n 0, 1) := by decide +kernel
theorem dFR_goOver_16 : decode bFR_goOver 16 = .ok (.getfield 21, 3) := by decide +kernel
theorem dFR_goOver_19 : decode bFR_goOver 19 = .ok (.iload_n 1, 1) := by decide +kernel
theorem dFR_goOver_20 : decode bFR_goOver 20 = .ok (.iaload, 1) := by decide +kernel
theorem dFR_goOver_21 : decode bFR_goOver 21 = .ok (.invokestatic 86, 3) := by decide +kernel
theorem dFR_goOver_24 : decode bFR_goOver 24 = .ok (.putfield 42, 3) := by decide +kernel
theorem dFR_goOver_27 : decode bFR_goOver 27 = .ok (.aload_n 0, 1) := by decide +kernel
theorem dFR_goOver_28 : decode bFR_goOver 28 = .ok (.aload_n 0, 1) := by decide +kernel
theorem dFR_goOver_29 : decode bFR_goOver 29 = .ok (.getfield 24, 3) := by decide +kernel
theorem dFR_goOver_32 : decode bFR_goOver 32 = .ok (.getfield 91, 3) := by decide +kernel
theorem dFR_goOver_35 : decode bFR_goOver 35 = .ok (.iload_n 1, 1) := by decide +kernel
theorem dFR_goOver_36 : decode bFR_goOver 36 = .ok (.iconst 1, 1) := by decide +kernel
theorem dFR_goOver_37 : decode bFR_goOver 37 = .ok (.ixor, 1) := by decide +kernel
theorem dFR_goOver_38 : decode bFR_goOver 38 = .ok (.iaload, 1) := by decide +kernel
theorem dFR_goOver_39 : decode bFR_goOver 39 = .ok (.bipush 6, 2) := by decide +kernel
theorem dFR_goOver_41 : decode bFR_goOver 41 = .ok (.idiv, 1) := by decide +kernel
theorem dFR_goOver_42 : decode bFR_goOver 42 = .ok (.iload_n 1, 1) := by decide +kernel
theorem dFR_goOver_43 : decode bFR_goOver 43 = .ok (.iconst 2, 1) := by decide +kernel
theorem dFR_goOver_44 : decode bFR_goOver 44 = .ok (.idiv, 1) := by decide +kernel
theorem dFR_goOver_45 : decode bFR_goOver 45 = .ok (.invokevirtual 49, 3) := by decide +kernel
theorem dFR_goOver_48 : decode bFR_goOver 48 = .ok (.return_, 1) := by decide +kernel
noncomputable def fFR_addStep (P S : ZS) (x0 : Int32) (x1 : Int32) : ZS := zl (S.I 12) (fun k1 => (if 400 ≤ k1 then S else zl (S.I 12) (fun k2 => zl (S.setF 24 (k1 : Int32).toNatClampNeg x0) (fun S3 => zl (S3.I 12) (fun k5 => zl (S3.setF 25 (k1 : Int32).toNatClampNeg x1) (fun S6 => zl (S6.I 12) (fun k8 => zl (k1 + 1) (fun k9 => zl (S6.setI 12 k9) (fun S10 => S10)))))))))
set_option maxHeartbeats 4000000 in
set_option maxRecDepth 100000 in
theorem tFR_addStep (l : Launch) (dC : Nat → ClassId) (dI : Nat → Nat → Nat) (cI cZ cJ cA : ClassId) (a0 : Array Value) (s0 : State) (o b : Nat → Nat) (P S : ZS) (sz : Nat) (x0 : Int32) (x1 : Int32) (gP : cok P) (gS : cok S) (r_x0 : zr 0 47 x0) (r_x1 : zr (-1) 59 x1) : Met l yFR_addStep [Cond.code yFR_addStep bFR_addStep 3 none] ({ frames := 0, cells := 0, slots := 0, locals := 0 } : Room) (zP zCl dC dI (zTZ cI cZ cJ cA) a0 s0 [.ref (o 5), .int x0, .int x1] sz (CW cI cZ cA o b P S)) (zQG zCl dC dI (fun (x9 : ZS) => x9 = fFR_addStep P S x0 x1 ∧ cok x9) (fun x9 : ZS => (CW cI cZ cA o b P x9)) (va_A (CW cI cZ cA o b P S) sz)) 0 0 (va_A (CW cI cZ cA o b P S) sz) := by
  refine Met.ofW (cc := bFR_addStep) (maxL := 3) (ret := none) (by decide) rfl ?_
  intro p e s m args below meth c s₁ B hml hv
  obtain ⟨rfl, hsz, hP, hK, hD0, hB⟩ := hv
  have hx := B.exec
  have hb := B.bytes
  have hr := B.returns
  have hown : s.vm.findClass "RingGuard$Frames" = some m.cls := findClass_of_methodNamed B.named
  have hlocks := B.notSynchronized
  subst hsz
  have hD := hD0.self (sz := s.heap.size)
  have hA0 := zA0 hD0 hB
  generalize hAe : va_A (CW cI cZ cA o b P S) s.heap.size = A at hD hA0 ⊢
  have hAD := hA0
  have hA : ∀ q : Nat, s.heap.size ≤ q → A q := fun q h => by rw [← hAe]; exact Or.inr h
  have hS : va_S A s.heap s.heap [] := va_S.rf
  have hl := lv_entry ([.ref (o 5), .int x0, .int x1]) (n := 3) (Nat.le_of_ble_eq_true rfl)
  rw [lg_entry_eq]
  generalize (lg_sl ([.ref (o 5), .int x0, .int x1]) ++ List.replicate (3 - (lg_sl ([.ref (o 5), .int x0, .int x1])).length) Slot.unset).toArray = ls at hl ⊢
  have hl : lv_has ls 3 [(0, .ref (o 5)), (1, .int x0), (2, .int x1)] := hl
  refine zgenQ (fun Q hQe => ?_)
  obtain ⟨tg, etg⟩ : ∃ z, z = fFR_addStep P S x0 x1 := ⟨_, rfl⟩
  have E := etg
  unfold fFR_addStep at E
  refine lv_aload_n hx hb dFR_addStep_0 rfl (lv_at hl 0 rfl) ?_
  refine c_get_12 hx hb (hB.words zU_FR) hown hK hP (hB.word (zm1 k1_193) rfl) dFR_addStep_1 E (fun k1 ek1 E => ?_)
  have r_k1 : zr 0 400 k1 := by rw [ek1]; exact gS.2.1 12
  refine lv_sipush (v := 400) hx hb dFR_addStep_4 (by decide) ?_
  refine z_icmp_ge (tgt := 40) hx hb dFR_addStep_7 (by decide) E (fun c_7 E => ?_) (fun c_7 E => ?_)
  · have r_k1 : zr 400 400 k1 := zle_y (show zr 400 400 400 from by decide) r_k1 c_7 (by decide)
    rw [hQe]
    exact W.vret hx hb hr (fun t ht hW => ⟨⟨S, rfl, ⟨E.symm.trans etg, gS⟩, by rw [ht]; exact hP, hD⟩, hS.F ht⟩) hS.2.2 dFR_addStep_40
  · have r_k1 : zr 0 399 k1 := zlt_x r_k1 (show zr 400 400 400 from by decide) (znle c_7) (by decide)
    refine lv_aload_n hx hb dFR_addStep_10 rfl (lv_at hl 0 rfl) ?_
    refine c_getA_24 hx hb (hB.words zU_FR) hown hK hP (hB.word (zm1 k1_191) rfl) dFR_addStep_11 ?_
    refine lv_aload_n hx hb dFR_addStep_14 rfl (lv_at hl 0 rfl) ?_
    refine c_get_12 hx hb (hB.words zU_FR) hown hK hP (hB.word (zm1 k1_193) rfl) dFR_addStep_15 E (fun k2 ek2 E => ?_)
    have x9 : k1 = k2 := by rw [ek1, ek2]
    subst x9
    refine lv_iload_n hx hb dFR_addStep_18 rfl (lv_at hl 1 rfl) ?_
    refine c_astS hx hb hK hP hD hS 24 (by decide) rfl r_k1 (by decide) dFR_addStep_19 E (fun S3 H4 locs eS3 E hP hD hS => ?_)
    have gS3 : cok S3 := by rw [eS3]; exact gS.setF (k := 24) r_x0 (Or.inl (by decide))
    refine lv_aload_n hx hb dFR_addStep_20 rfl (lv_at hl 0 rfl) ?_
    refine c_getA_25 hx hb (hB.words zU_FR) hown hK hP (hB.word (zm1 k1_192) rfl) dFR_addStep_21 ?_
    refine lv_aload_n hx hb dFR_addStep_24 rfl (lv_at hl 0 rfl) ?_
    refine c_get_12 hx hb (hB.words zU_FR) hown hK hP (hB.word (zm1 k1_193) rfl) dFR_addStep_25 E (fun k5 ek5 E => ?_)
    have x9 : k1 = k5 := by rw [ek1, ek5, eS3]; rfl
    subst x9
    refine lv_iload_n hx hb dFR_addStep_28 rfl (lv_at hl 2 rfl) ?_
    refine c_astS hx hb hK hP hD hS 25 (by decide) rfl r_k1 (by decide) dFR_addStep_29 E (fun S6 H7 locs eS6 E hP hD hS => ?_)
    have gS6 : cok S6 := by rw [eS6]; exact gS3.setF (k := 25) r_x1 (Or.inl (by decide))
    refine lv_aload_n hx hb dFR_addStep_30 rfl (lv_at hl 0 rfl) ?_
    refine lv_dup hx hb dFR_addStep_31 rfl ?_
    refine c_get_12 hx hb (hB.words zU_FR) hown hK hP (hB.word (zm1 k1_193) rfl) dFR_addStep_32 E (fun k8 ek8 E => ?_)
    have x9 : k1 = k8 := by rw [ek1, ek8, eS6, eS3]; rfl
    subst x9
    refine lv_iconst (v := 1) hx hb dFR_addStep_35 (by decide) ?_
    refine z_iadd hx hb dFR_addStep_36 E (fun k9 ek9 E => ?_)
    have r_k9 : zr 1 400 k9 := zr_add r_k1 (show zr 1 1 1 from by decide) ek9 (by decide)
    refine c_put_12 hx hb (hB.words zU_FR) hown hK hP hD hS (hB.word (zm1 k1_193) rfl) dFR_addStep_37 E (fun S10 H11 locs eS10 E hP hD hS => ?_)
    have gS10 : cok S10 := by rw [eS10]; exact gS6.setI (t := 12) (zr_mono r_k9 (by decide))
    rw [hQe]
    exact W.vret hx hb hr (fun t ht hW => ⟨⟨S10, rfl, ⟨E.symm.trans etg, gS10⟩, by rw [ht]; exact hP, hD⟩, hS.F ht⟩) hS.2.2 dFR_addStep_40
noncomputable def fFR_goOver (P S : ZS) (x0 : Int32) : ZS := zl (S.F 26 (x0 : Int32).toNatClampNeg) (fun k1 => zl (k1 + 1) (fun k2 => zl (S.setF 26 (x0 : Int32).toNatClampNeg k2) (fun S3 => zl (S3.I 13) (fun k5 => zl (S3.F 26 (x0 : Int32).toNatClampNeg) (fun k6 => zl (if k5 < k6 then k6 else k5) (fun k7 => zl (S3.setI 13 k7) (fun S8 => zl (x0 ^^^ 1) (fun k10 => zl (P.F 5 (k10 : Int32).toNatClampNeg) (fun k11 => zl (k11 / 6) (fun k12 => zl (x0 / 2) (fun k13 => zl (fFR_addStep P S8 k12 k13) (fun S15 => S15))))))))))))
set_option maxHeartbeats 4000000 in
set_option maxRecDepth 100000 in
theorem tFR_goOver (l : Launch) (dC : Nat → ClassId) (dI : Nat → Nat → Nat) (cI cZ cJ cA : ClassId) (a0 : Array Value) (s0 : State) (o b : Nat → Nat) (P S : ZS) (sz : Nat) (x0 : Int32) (gP : cok P) (gS : cok S) (r_x0 : zr 0 119 x0) : Met l yFR_goOver [Cond.code yFR_goOver bFR_goOver 2 none] ({ frames := 1, cells := 0, slots := 0, locals := 22 } : Room) (zP zCl dC dI (zTZ cI cZ cJ cA) a0 s0 [.ref (o 5), .int x0] sz (CW cI cZ cA o b P S)) (zQG zCl dC dI (fun (x9 : ZS) => x9 = fFR_goOver P S x0 ∧ cok x9) (fun x9 : ZS => (CW cI cZ cA o b P x9)) (va_A (CW cI cZ cA o b P S) sz)) 0 0 (va_A (CW cI cZ cA o b P S) sz) := by
  refine Met.ofW (cc := bFR_goOver) (maxL := 2) (ret := none) (by decide) rfl ?_
  intro p e s m args below meth c s₁ B hml hv
  obtain ⟨rfl, hsz, hP, hK, hD0, hB⟩ := hv
  have hx := B.exec
  have hb := B.bytes
  have hr := B.returns
  have hown : s.vm.findClass "RingGuard$Frames" = some m.cls := findClass_of_methodNamed B.named
  have hlocks := B.notSynchronized
  subst hsz
  have hD := hD0.self (sz := s.heap.size)
  have hA0 := zA0 hD0 hB
  generalize hAe : va_A (CW cI cZ cA o b P S) s.heap.size = A at hD hA0 ⊢
  have hAD := hA0
  have hA : ∀ q : Nat, s.heap.size ≤ q → A q := fun q h => by rw [← hAe]; exact Or.inr h
  have hS : va_S A s.heap s.heap [] := va_S.rf
  have hl := lv_entry ([.ref (o 5), .int x0]) (n := 2) (Nat.le_of_ble_eq_true rfl)
  rw [lg_entry_eq]
  generalize (lg_sl ([.ref (o 5), .int x0]) ++ List.replicate (2 - (lg_sl ([.ref (o 5), .int x0])).length) Slot.unset).toArray = ls at hl ⊢
  have hl : lv_has ls 2 [(0, .ref (o 5)), (1, .int x0)] := hl
  refine zgenQ (fun Q hQe => ?_)
  obtain ⟨tg, etg⟩ : ∃ z, z = fFR_goOver P S x0 := ⟨_, rfl⟩
  have E := etg
  unfold fFR_goOver at E
  refine lv_aload_n hx hb dFR_goOver_0 rfl (lv_at hl 0 rfl) ?_
  refine c_getA_26 hx hb (hB.words zU_FR) hown hK hP (hB.word (zm1 k1_194) rfl) dFR_goOver_1 ?_
  refine lv_iload_n hx hb dFR_goOver_4 rfl (lv_at hl 1 rfl) ?_
  refine lv_dup2_11 hx hb dFR_goOver_5 rfl rfl ?_
  refine c_aldS hx hb hK hP 26 (by decide) rfl r_x0 (by decide) dFR_goOver_6 E (fun k1 ek1 E => ?_)
  refine lv_iconst (v := 1) hx hb dFR_goOver_7 (by decide) ?_
  refine z_iadd hx hb dFR_goOver_8 E (fun k2 ek2 E => ?_)
  refine c_astS hx hb hK hP hD hS 26 (by decide) rfl r_x0 (by decide) dFR_goOver_9 E (fun S3 H4 locs eS3 E hP hD hS => ?_)
  have gS3 : cok S3 := by rw [eS3]; exact gS.setF (k := 26) (zr_any k2) (Or.inl (by decide))
  refine lv_aload_n hx hb dFR_goOver_10 rfl (lv_at hl 0 rfl) ?_
  refine lv_aload_n hx hb dFR_goOver_11 rfl (lv_at hl 0 rfl) ?_
  refine c_get_13 hx hb (hB.words zU_FR) hown hK hP (hB.word (zm1 k1_195) rfl) dFR_goOver_12 E (fun k5 ek5 E => ?_)
  refine lv_aload_n hx hb dFR_goOver_15 rfl (lv_at hl 0 rfl) ?_
  refine c_getA_26 hx hb (hB.words zU_FR) hown hK hP (hB.word (zm1 k1_194) rfl) dFR_goOver_16 ?_
  refine lv_iload_n hx hb dFR_goOver_19 rfl (lv_at hl 1 rfl) ?_
  refine c_aldS hx hb hK hP 26 (by decide) rfl r_x0 (by decide) dFR_goOver_20 E (fun k6 ek6 E => ?_)
  refine va_mmax hx hb (by rw [hml]; exact hl.1.symm) hown (hB.word (zm4 k4_75) rfl) (hB.word (zm4 k4_76) rfl) (hB.word (zm1 k1_16) rfl) (hB.word (zm4 k4_77) rfl) (Nat.le_of_ble_eq_true rfl) (Nat.le_of_ble_eq_true rfl) (Nat.zero_le _) (Nat.zero_le _) dFR_goOver_21 ?_
  refine lv_topi (fun k7 ek7 => ?_)
  have E := zl_s E ek7
  refine c_put_13 hx hb (hB.words zU_FR) hown hK hP hD hS (hB.word (zm1 k1_195) rfl) dFR_goOver_24 E (fun S8 H9 locs eS8 E hP hD hS => ?_)
  have gS8 : cok S8 := by rw [eS8]; exact gS3.setI (t := 13) (zr_any k7)
  refine lv_aload_n hx hb dFR_goOver_27 rfl (lv_at hl 0 rfl) ?_
  refine lv_aload_n hx hb dFR_goOver_28 rfl (lv_at hl 0 rfl) ?_
  refine c_getO_FR_plan hx hb (hB.words zU_FR) hown hK hP (hB.word (zm1 k1_186) rfl) dFR_goOver_29 ?_
  refine c_getA_5 hx hb (hB.words zU_PL) hown hK hP (hB.word (zm1 k1_52) rfl) dFR_goOver_32 ?_
  refine lv_iload_n hx hb dFR_goOver_35 rfl (lv_at hl 1 rfl) ?_
  refine lv_iconst (v := 1) hx hb dFR_goOver_36 (by decide) ?_
  refine z_ixor hx hb dFR_goOver_37 E (fun k10 ek10 E => ?_)
  have r_k10 : zr 0 119 k10 := zr_xor r_x0 ek10 (by decide)
  refine c_aldP hx hb hK hP 5 (by decide) rfl r_k10 (by decide) dFR_goOver_38 E (fun k11 ek11 E => ?_)
  have r_k11 : zr 0 287 k11 := by rw [ek11]; exact gP.1 5 _
  refine lv_bipush (v := 6) hx hb dFR_goOver_39 (by decide) ?_
  refine z_idiv hx hb dFR_goOver_41 (by decide) E (fun k12 ek12 E => ?_)
  have r_k12 : zr 0 47 k12 := zr_div r_k11 (c := 6) (by decide) ek12 (by decide)
  refine lv_iload_n hx hb dFR_goOver_42 rfl (lv_at hl 1 rfl) ?_
  refine lv_iconst (v := 2) hx hb dFR_goOver_43 (by decide) ?_
  refine z_idiv hx hb dFR_goOver_44 (by decide) E (fun k13 ek13 E => ?_)
  have r_k13 : zr 0 59 k13 := zr_div r_x0 (c := 2) (by decide) ek13 (by decide)
  refine zcV (va_runV (As := [.int k12, .int k13]) (rest := []) ⟨hx, hb, hml, hown, zno⟩ (tFR_addStep l dC dI cI cZ cJ cA a0 s0 o b P S8 H9.size k12 k13 gP gS8 r_k12 (zr_mono r_k13 (by decide))) (zcw 2 (hB.word (zm4 k4_56) rfl) (hB.word (zm1 k1_7) rfl) (hB.word (zm4 k4_53) rfl) (hB.word (zm4 k4_55) rfl) (k2_selects_private (by decide) (hB.word (zm1 k1_180) rfl) (hB.word (zm4 k4_54) rfl) (hB.word (zm4 k4_55) rfl)) rfl rfl (by decide +kernel) ⟨Nat.le_of_ble_eq_true rfl, Nat.le_of_ble_eq_true rfl⟩) ⟨zP_blind, va_recv hK hP (ci := 5) (q0 := 5) rfl rfl, zP_pre hP hK hD hAD (zB_on hB hA0 hS)⟩ rfl rfl hl.1 rfl (lv_room (Nat.le_of_ble_eq_true rfl)) dFR_goOver_45 ⟨Nat.le_of_ble_eq_true rfl, Nat.le_of_ble_eq_true rfl⟩) hD hS hA (fun S15 H14 locs h16 hP hD hS => ?_)
  have E := zl_s E h16.1
  have gS15 := h16.2
  rw [hQe]
  exact W.vret hx hb hr (fun t ht hW => ⟨⟨S15, rfl, ⟨E.symm.trans etg, gS15⟩, by rw [ht]; exact hP, hD⟩, hS.F ht⟩) hS.2.2 dFR_goOver_48
noncomputable def fFR_goOn_80 (P : ZS) (rc3 : ZS → Int32 → Int32 → Int32 → Int32 → (ZS)) (S_80 : ZS) (x80_1 : Int32) (x80_2 : Int32) (x80_3 : Int32) (x80_4 : Int32) : ZS := zl (x80_4 + 1) (fun k1 => rc3 S_80 x80_1 x80_2 x80_3 k1)
noncomputable def fFR_goOn_43 (P : ZS) (rc3 : ZS → Int32 → Int32 → Int32 → Int32 → (ZS)) (S_43 : ZS) (x43_1 : Int32) (x43_2 : Int32) (x43_3 : Int32) (x43_4 : Int32) (x43_5 : Int32) (y43_0 : Int32) : ZS := (if x43_5 = (-1) then fFR_goOn_80 P rc3 S_43 x43_1 x43_2 x43_3 x43_4 else (if y43_0 = 0 then fFR_goOn_80 P rc3 S_43 x43_1 x43_2 x43_3 x43_4 else (if x43_4 = x43_2 then fFR_goOn_80 P rc3 S_43 x43_1 x43_2 x43_3 x43_4 else zl (fPR_isOpen P S_43 x43_4) (fun k3 => (if k3 = 0 then fFR_goOn_80 P rc3 S_43 x43_1 x43_2 x43_3 x43_4 else zl (fFR_goOver P S_43 x43_5) (fun S5 => fFR_goOn_80 P rc3 S5 x43_1 x43_2 x43_3 x43_4))))))
noncomputable def fFR_goOn_38 (P : ZS) (rc3 : ZS → Int32 → Int32 → Int32 → Int32 → (ZS)) (S_38 : ZS) (x38_1 : Int32) (x38_2 : Int32) (x38_3 : Int32) (x38_4 : Int32) (x38_5 : Int32) : ZS := fFR_goOn_43 P rc3 S_38 x38_1 x38_2 x38_3 x38_4 x38_5 1
noncomputable def fFR_goOn_3 (P : ZS) (rc3 : ZS → Int32 → Int32 → Int32 → Int32 → (ZS)) (S_3 : ZS) (x3_1 : Int32) (x3_2 : Int32) (x3_3 : Int32) (x3_4 : Int32) : ZS := zl (P.I 1) (fun k7 => (if k7 ≤ x3_4 then S_3 else zl (fPL_portOf P S_3 x3_1 x3_4) (fun k9 => (if x3_3 = (-1) then fFR_goOn_38 P rc3 S_3 x3_1 x3_2 x3_3 x3_4 k9 else (if x3_3 = x3_4 then fFR_goOn_38 P rc3 S_3 x3_1 x3_2 x3_3 x3_4 k9 else fFR_goOn_43 P rc3 S_3 x3_1 x3_2 x3_3 x3_4 k9 0)))))
noncomputable def fFR_goOn (P S : ZS) (x0 : Int32) (x1 : Int32) (x2 : Int32) : ZS := zfix (fun S9 _ _ _ _ => S9) (fFR_goOn_3 P) 61 S x0 x1 x2 0
set_option maxHeartbeats 4000000 in
set_option maxRecDepth 100000 in
theorem tFR_goOn (l : Launch) (dC : Nat → ClassId) (dI : Nat → Nat → Nat) (cI cZ cJ cA : ClassId) (a0 : Array Value) (s0 : State) (o b : Nat → Nat) (P S : ZS) (sz : Nat) (x0 : Int32) (x1 : Int32) (x2 : Int32) (gP : cok P) (gS : cok S) : Met l yFR_goOn [Cond.code yFR_goOn bFR_goOn 7 none] ({ frames := 2, cells := 0, slots := 0, locals := 43 } : Room) (zP zCl dC dI (zTZ cI cZ cJ cA) a0 s0 [.ref (o 5), .int x0, .int x1, .int x2] sz (CW cI cZ cA o b P S)) (zQG zCl dC dI (fun (x9 : ZS) => x9 = fFR_goOn P S x0 x1 x2 ∧ cok x9) (fun x9 : ZS => (CW cI cZ cA o b P x9)) (va_A (CW cI cZ cA o b P S) sz)) 0 0 (va_A (CW cI cZ cA o b P S) sz) := by
  refine Met.ofW (cc := bFR_goOn) (maxL := 7) (ret := none) (by decide) rfl ?_
  intro p e s m args below meth c s₁ B hml hv
  obtain ⟨rfl, hsz, hP, hK, hD0, hB⟩ := hv
  have hx := B.exec
  have hb := B.bytes
  have hr := B.returns
  have hown : s.vm.findClass "RingGuard$Frames" = some m.cls := findClass_of_methodNamed B.named
  have hlocks := B.notSynchronized
  subst hsz
  have hD := hD0.self (sz := s.heap.size)
  have hA0 := zA0 hD0 hB
  generalize hAe : va_A (CW cI cZ cA o b P S) s.heap.size = A at hD hA0 ⊢
  have hAD := hA0
  have hA : ∀ q : Nat, s.heap.size ≤ q → A q := fun q h => by rw [← hAe]; exact Or.inr h
  have hS : va_S A s.heap s.heap [] := va_S.rf
  have hl := lv_entry ([.ref (o 5), .int x0, .int x1, .int x2]) (n := 7) (Nat.le_of_ble_eq_true rfl)
  rw [lg_entry_eq]
  generalize (lg_sl ([.ref (o 5), .int x0, .int x1, .int x2]) ++ List.replicate (7 - (lg_sl ([.ref (o 5), .int x0, .int x1, .int x2])).length) Slot.unset).toArray = ls at hl ⊢
  have hl : lv_has ls 7 [(0, .ref (o 5)), (1, .int x0), (2, .int x1), (3, .int x2)] := hl
  refine zgenQ (fun Q hQe => ?_)
  obtain ⟨tg, etg⟩ : ∃ z, z = fFR_goOn P S x0 x1 x2 := ⟨_, rfl⟩
  have E := etg
  unfold fFR_goOn at E
  have hL3 : ∀ (n3 : Nat) (H : Heap) (locs : List Loc) (ls : Array Slot) (S_3 : ZS) (x3_1 : Int32) (x3_2 : Int32) (x3_3 : Int32) (x3_4 : Int32), zr 0 60 x3_4 → cok S_3 → 60 + 1 - x3_4.toInt ≤ (n3 : Int) → tg = zfix (fun S9 _ _ _ _ => S9) (fFR_goOn_3 P) n3 S_3 x3_1 x3_2 x3_3 x3_4 → va_P (dC, dI) zCl (CW cI cZ cA o b P S_3) H → va_D A (CW cI cZ cA o b P S_3) → va_S A s.heap H locs → lv_has ls 7 [(0, .ref (o 5)), (1, .int x3_1), (2, .int x3_2), (3, .int x3_3), (4, .int x3_4)] → W p l e ({ frames := 2, cells := 0, slots := 0, locals := 43 } : Room) s m ([.ref (o 5), .int x0, .int x1, .int x2] : List Value).toArray below meth c H locs 0 0 Q (F0 m 3 ls []) := by
    intro n3
    induction n3 with
    | zero => intro H locs ls S_3 x3_1 x3_2 x3_3 x3_4 r_x3_4 gS_3 hm3 E hP hD hS hl; exact absurd hm3 (zfuel0U r_x3_4)
    | succ n3 ih3 =>
      intro H locs ls S_3 x3_1 x3_2 x3_3 x3_4 r_x3_4 gS_3 hm3 E hP hD hS hl
      rw [zfix_s] at E
      generalize zfix (fun S9 _ _ _ _ => S9) (fFR_goOn_3 P) n3 = rc3 at ih3 E
      unfold fFR_goOn_3 at E
      have hJ43 : ∀ (H : Heap) (locs : List Loc) (ls : Array Slot) (S_43 : ZS) (x43_1 : Int32) (x43_2 : Int32) (x43_3 : Int32) (x43_4 : Int32) (x43_5 : Int32) (y43_0 : Int32), zr 0 59 x43_4 → zr (-1) 119 x43_5 → zr 0 1 y43_0 → cok S_43 → 60 + 1 - x43_4.toInt ≤ ((n3 + 1 : Nat) : Int) → (y43_0 = 0 ∨ zr (-1) 59 (x43_3)) → tg = fFR_goOn_43 P rc3 S_43 x43_1 x43_2 x43_3 x43_4 x43_5 y43_0 → va_P (dC, dI) zCl (CW cI cZ cA o b P S_43) H → va_D A (CW cI cZ cA o b P S_43) → va_S A s.heap H locs → lv_has ls 7 [(0, .ref (o 5)), (1, .int x43_1), (2, .int x43_2), (3, .int x43_3), (4, .int x43_4), (5, .int x43_5)] → W p l e ({ frames := 2, cells := 0, slots := 0, locals := 43 } : Room) s m ([.ref (o 5), .int x0, .int x1, .int x2] : List Value).toArray below meth c H locs 0 0 Q (F0 m 43 ls [.int y43_0]) := by
        intro H locs ls S_43 x43_1 x43_2 x43_3 x43_4 x43_5 y43_0 r_x43_4 r_x43_5 r_y43_0 gS_43 hm3_43 cd43_0 E hP hD hS hl
        unfold fFR_goOn_43 at E
        have hJ80 : ∀ (H : Heap) (locs : List Loc) (ls : Array Slot) (S_80 : ZS) (x80_1 : Int32) (x80_2 : Int32) (x80_3 : Int32) (x80_4 : Int32), zr 0 59 x80_4 → cok S_80 → 60 + 1 - x80_4.toInt ≤ ((n3 + 1 : Nat) : Int) → tg = fFR_goOn_80 P rc3 S_80 x80_1 x80_2 x80_3 x80_4 → va_P (dC, dI) zCl (CW cI cZ cA o b P S_80) H → va_D A (CW cI cZ cA o b P S_80) → va_S A s.heap H locs → lv_has ls 7 [(0, .ref (o 5)), (1, .int x80_1), (2, .int x80_2), (3, .int x80_3), (4, .int x80_4)] → W p l e ({ frames := 2, cells := 0, slots := 0, locals := 43 } : Room) s m ([.ref (o 5), .int x0, .int x1, .int x2] : List Value).toArray below meth c H locs 0 0 Q (F0 m 80 ls []) := by
          intro H locs ls S_80 x80_1 x80_2 x80_3 x80_4 r_x80_4 gS_80 hm3_80 E hP hD hS hl
          unfold fFR_goOn_80 at E
          refine z_iinc (lv' := fun v9 => [(4, .int v9), (0, .ref (o 5)), (1, .int x80_1), (2, .int x80_2), (3, .int x80_3)]) (cst := 1) hx hb dFR_goOn_80 hl (k := 4) rfl (by decide) (by decide) (fun _ => rfl) E (fun k1 ls ek1 E hl => ?_)
          have r_k1 : zr 1 60 k1 := zr_add r_x80_4 (show zr 1 1 1 from by decide) ek1 (by decide)
          refine lv_goto (tgt := 3) hx hb dFR_goOn_83 (by decide) ?_
          exact ih3 H locs ls S_80 x80_1 x80_2 x80_3 k1 (zr_mono r_k1 (by decide)) gS_80 (zstepU ek1 r_x80_4 (by decide) hm3_80) E hP hD hS (lv_sub hl [1, 2, 3, 4, 0] rfl)
        refine lv_istore (lv' := [(6, .int y43_0), (0, .ref (o 5)), (1, .int x43_1), (2, .int x43_2), (3, .int x43_3), (4, .int x43_4), (5, .int x43_5)]) hx hb dFR_goOn_43 hl (by decide) rfl (fun ls hl => ?_)
        refine lv_iload hx hb dFR_goOn_45 (lv_at hl 6 rfl) ?_
        refine lv_iconst (v := (-1)) hx hb dFR_goOn_47 (by decide) ?_
        refine z_icmp_eq (tgt := 80) hx hb dFR_goOn_48 (by decide) E (fun c_48 E => ?_) (fun c_48 E => ?_)
        · have r_x43_5 : zr (-1) (-1) x43_5 := zeq_x (show zr (-1) (-1) (-1) from by decide) c_48
          exact hJ80 H locs ls S_43 x43_1 x43_2 x43_3 x43_4 r_x43_4 gS_43 hm3_43 E hP hD hS (lv_sub hl [1, 2, 3, 4, 5] rfl)
        · have r_x43_5 : zr 0 119 x43_5 := zne_lo r_x43_5 c_48 (by decide)
          refine lv_iload hx hb dFR_goOn_51 (lv_at hl 0 rfl) ?_
          refine z_if_eq (tgt := 80) hx hb dFR_goOn_53 (by decide) E (fun c_53 E => ?_) (fun c_53 E => ?_)
          · have r_y43_0 : zr 0 0 y43_0 := zeq_x (show zr 0 0 0 from by decide) c_53
            exact hJ80 H locs ls S_43 x43_1 x43_2 x43_3 x43_4 r_x43_4 gS_43 hm3_43 E hP hD hS (lv_sub hl [1, 2, 3, 4, 5] rfl)
          · have r_y43_0 : zr 1 1 y43_0 := zne_lo r_y43_0 c_53 (by decide)
            have r_x43_3 : zr (-1) 59 x43_3 := (cd43_0).resolve_left (zrne r_y43_0 (by decide))
            refine lv_iload hx hb dFR_goOn_56 (lv_at hl 5 rfl) ?_
            refine lv_iload_n hx hb dFR_goOn_58 rfl (lv_at hl 3 rfl) ?_
            refine z_icmp_eq (tgt := 80) hx hb dFR_goOn_59 (by decide) E (fun c_59 E => ?_) (fun c_59 E => ?_)
            · have r_x43_2 : zr 0 59 x43_2 := zeq_x r_x43_4 c_59.symm
              exact hJ80 H locs ls S_43 x43_1 x43_2 x43_3 x43_4 r_x43_4 gS_43 hm3_43 E hP hD hS (lv_sub hl [1, 2, 3, 4, 5] rfl)
            · refine lv_aload_n hx hb dFR_goOn_62 rfl (lv_at hl 1 rfl) ?_
              refine c_getO_FR_protocol hx hb (hB.words zU_FR) hown hK hP (hB.word (zm1 k1_187) rfl) dFR_goOn_63 ?_
              refine lv_iload hx hb dFR_goOn_66 (lv_at hl 5 rfl) ?_
              refine zcallp (va_runV (As := [.int x43_4]) (rest := []) ⟨hx, hb, hml, hown, zno⟩ (tPR_isOpen l dC dI cI cZ cJ cA a0 s0 o b P S_43 H.size x43_4 gP gS_43 r_x43_4) (zcw 1 (hB.word (zm3 k3_92) rfl) (hB.word (zm1 k1_6) rfl) (hB.word (zm4 k4_70) rfl) (hB.word (zm3 k3_90) rfl) (hB.word (zm3 k3_91) rfl) rfl rfl (by decide +kernel) ⟨Nat.le_of_ble_eq_true rfl, Nat.le_of_ble_eq_true rfl⟩) ⟨zP_blind, va_recv hK hP (ci := 4) (q0 := 4) rfl rfl, zP_pre hP hK hD hAD (zB_on hB hA0 hS)⟩ rfl rfl hl.1 rfl (lv_room (Nat.le_of_ble_eq_true rfl)) dFR_goOn_68 ⟨Nat.le_of_ble_eq_true rfl, Nat.le_of_ble_eq_true rfl⟩) hS hA (fun k3 H2 locs hk3 hz1 hk1 hS => ?_)
              have hP := zKeep hP hk1
              have E := zl_s E hk3.1
              refine z_if_eq (tgt := 80) hx hb dFR_goOn_71 (by decide) E (fun c_71 E => ?_) (fun c_71 E => ?_)
              · have r_k3 : zr 0 0 k3 := zeq_x (show zr 0 0 0 from by decide) c_71
                exact hJ80 H2 locs ls S_43 x43_1 x43_2 x43_3 x43_4 r_x43_4 gS_43 hm3_43 E hP hD hS (lv_sub hl [1, 2, 3, 4, 5] rfl)
              · have r_k3 : zr 1 1 k3 := zne_lo hk3.2 c_71 (by decide)
                refine lv_aload_n hx hb dFR_goOn_74 rfl (lv_at hl 1 rfl) ?_
                refine lv_iload hx hb dFR_goOn_75 (lv_at hl 6 rfl) ?_
                refine zcV (va_runV (As := [.int x43_5]) (rest := []) ⟨hx, hb, hml, hown, zno⟩ (tFR_goOver l dC dI cI cZ cJ cA a0 s0 o b P S_43 H2.size x43_5 gP gS_43 r_x43_5) (zcw 1 (hB.word (zm4 k4_74) rfl) (hB.word (zm1 k1_7) rfl) (hB.word (zm4 k4_71) rfl) (hB.word (zm4 k4_73) rfl) (k2_selects_private (by decide) (hB.word (zm1 k1_180) rfl) (hB.word (zm4 k4_72) rfl) (hB.word (zm4 k4_73) rfl)) rfl rfl (by decide +kernel) ⟨Nat.le_of_ble_eq_true rfl, Nat.le_of_ble_eq_true rfl⟩) ⟨zP_blind, va_recv hK hP (ci := 5) (q0 := 5) rfl rfl, zP_pre hP hK hD hAD (zB_on hB hA0 hS)⟩ rfl rfl hl.1 rfl (lv_room (Nat.le_of_ble_eq_true rfl)) dFR_goOn_77 ⟨Nat.le_of_ble_eq_true rfl, Nat.le_of_ble_eq_true rfl⟩) hD hS hA (fun S5 H4 locs h6 hP hD hS => ?_)
                have E := zl_s E h6.1
                have gS5 := h6.2
                exact hJ80 H4 locs ls S5 x43_1 x43_2 x43_3 x43_4 r_x43_4 gS5 hm3_43 E hP hD hS (lv_sub hl [1, 2, 3, 4, 5] rfl)
      have hJ38 : ∀ (H : Heap) (locs : List Loc) (ls : Array Slot) (S_38 : ZS) (x38_1 : Int32) (x38_2 : Int32) (x38_3 : Int32) (x38_4 : Int32) (x38_5 : Int32), zr (-1) 59 x38_3 → zr 0 59 x38_4 → zr (-1) 119 x38_5 → cok S_38 → 60 + 1 - x38_4.toInt ≤ ((n3 + 1 : Nat) : Int) → tg = fFR_goOn_38 P rc3 S_38 x38_1 x38_2 x38_3 x38_4 x38_5 → va_P (dC, dI) zCl (CW cI cZ cA o b P S_38) H → va_D A (CW cI cZ cA o b P S_38) → va_S A s.heap H locs → lv_has ls 7 [(0, .ref (o 5)), (1, .int x38_1), (2, .int x38_2), (3, .int x38_3), (4, .int x38_4), (5, .int x38_5)] → W p l e ({ frames := 2, cells := 0, slots := 0, locals := 43 } : Room) s m ([.ref (o 5), .int x0, .int x1, .int x2] : List Value).toArray below meth c H locs 0 0 Q (F0 m 38 ls []) := by
        intro H locs ls S_38 x38_1 x38_2 x38_3 x38_4 x38_5 r_x38_3 r_x38_4 r_x38_5 gS_38 hm3_38 E hP hD hS hl
        unfold fFR_goOn_38 at E
        refine lv_iconst (v := 1) hx hb dFR_goOn_38 (by decide) ?_
        refine lv_goto (tgt := 43) hx hb dFR_goOn_39 (by decide) ?_
        exact hJ43 H locs ls S_38 x38_1 x38_2 x38_3 x38_4 x38_5 1 r_x38_4 r_x38_5 (show zr 0 1 1 from by decide) gS_38 hm3_38 (Or.inr r_x38_3) E hP hD hS (lv_sub hl [0, 1, 2, 3, 4, 5] rfl)
      refine lv_iload hx hb dFR_goOn_3 (lv_at hl 4 rfl) ?_
      refine lv_aload_n hx hb dFR_goOn_5 rfl (lv_at hl 0 rfl) ?_
      refine c_getO_FR_plan hx hb (hB.words zU_FR) hown hK hP (hB.word (zm1 k1_186) rfl) dFR_goOn_6 ?_
      refine c_get_1 hx hb (hB.words zU_PL) hown hK hP (hB.word (zm1 k1_38) rfl) dFR_goOn_9 E (fun k7 ek7 E => ?_)
      have r_k7 : zr 0 60 k7 := by rw [ek7]; exact gP.2.1 1
      refine z_icmp_ge (tgt := 86) hx hb dFR_goOn_12 (by decide) E (fun c_12 E => ?_) (fun c_12 E => ?_)
      · rw [hQe]
        exact W.vret hx hb hr (fun t ht hW => ⟨⟨S_3, rfl, ⟨E.symm.trans etg, gS_3⟩, by rw [ht]; exact hP, hD⟩, hS.F ht⟩) hS.2.2 dFR_goOn_86
      · have r_x3_4 : zr 0 59 x3_4 := zlt_x r_x3_4 r_k7 (znle c_12) (by decide)
        have r_k7 : zr 1 60 k7 := zlt_y r_x3_4 r_k7 (znle c_12) (by decide)
        refine lv_aload_n hx hb dFR_goOn_15 rfl (lv_at hl 0 rfl) ?_
        refine c_getO_FR_plan hx hb (hB.words zU_FR) hown hK hP (hB.word (zm1 k1_186) rfl) dFR_goOn_16 ?_
        refine lv_iload_n hx hb dFR_goOn_19 rfl (lv_at hl 1 rfl) ?_
        refine lv_iload hx hb dFR_goOn_20 (lv_at hl 4 rfl) ?_
        refine zcallp (va_runV (As := [.int x3_1, .int x3_4]) (rest := []) ⟨hx, hb, hml, hown, zno⟩ (tPL_portOf l dC dI cI cZ cJ cA a0 s0 o b P S_3 H.size x3_1 x3_4 gP gS_3 r_x3_4) (zcw 2 (hB.word (zm2 k2_212) rfl) (hB.word (zm1 k1_2) rfl) (hB.word (zm4 k4_69) rfl) (hB.word (zm2 k2_210) rfl) (hB.word (zm2 k2_211) rfl) rfl rfl (by decide +kernel) ⟨Nat.le_of_ble_eq_true rfl, Nat.le_of_ble_eq_true rfl⟩) ⟨zP_blind, va_recv hK hP (ci := 1) (q0 := 1) rfl rfl, zP_pre hP hK hD hAD (zB_on hB hA0 hS)⟩ rfl rfl hl.1 rfl (lv_room (Nat.le_of_ble_eq_true rfl)) dFR_goOn_22 ⟨Nat.le_of_ble_eq_true rfl, Nat.le_of_ble_eq_true rfl⟩) hS hA (fun k9 H8 locs hk9 hz1 hk1 hS => ?_)
        have hP := zKeep hP hk1
        have E := zl_s E hk9.1
        refine lv_istore (lv' := [(5, .int k9), (0, .ref (o 5)), (1, .int x3_1), (2, .int x3_2), (3, .int x3_3), (4, .int x3_4)]) hx hb dFR_goOn_25 hl (by decide) rfl (fun ls hl => ?_)
        refine lv_iload_n hx hb dFR_goOn_27 rfl (lv_at hl 4 rfl) ?_
        refine lv_iconst (v := (-1)) hx hb dFR_goOn_28 (by decide) ?_
        refine z_icmp_eq (tgt := 38) hx hb dFR_goOn_29 (by decide) E (fun c_29 E => ?_) (fun c_29 E => ?_)
        · have r_x3_3 : zr (-1) (-1) x3_3 := zeq_x (show zr (-1) (-1) (-1) from by decide) c_29
          exact hJ38 H8 locs ls S_3 x3_1 x3_2 x3_3 x3_4 k9 (zr_mono r_x3_3 (by decide)) r_x3_4 hk9.2 gS_3 hm3 E hP hD hS (lv_sub hl [1, 2, 3, 4, 5, 0] rfl)
        · refine lv_iload_n hx hb dFR_goOn_32 rfl (lv_at hl 4 rfl) ?_
          refine lv_iload hx hb dFR_goOn_33 (lv_at hl 5 rfl) ?_
          refine z_icmp_ne (tgt := 42) hx hb dFR_goOn_35 (by decide) E (fun c_35 E => ?_) (fun c_35 E => ?_)
          · refine lv_iconst (v := 0) hx hb dFR_goOn_42 (by decide) ?_
            exact hJ43 H8 locs ls S_3 x3_1 x3_2 x3_3 x3_4 k9 0 r_x3_4 hk9.2 (show zr 0 1 0 from by decide) gS_3 hm3 (Or.inl rfl) E hP hD hS (lv_sub hl [1, 2, 3, 4, 5, 0] rfl)
          · have r_x3_3 : zr 0 59 x3_3 := zeq_x r_x3_4 c_35
            exact hJ38 H8 locs ls S_3 x3_1 x3_2 x3_3 x3_4 k9 (zr_mono r_x3_3 (by decide)) r_x3_4 hk9.2 gS_3 hm3 E hP hD hS (lv_sub hl [1, 2, 3, 4, 5, 0] rfl)
  refine lv_iconst (v := 0) hx hb dFR_goOn_0 (by decide) ?_
  refine lv_istore (lv' := [(4, .int 0), (0, .ref (o 5)), (1, .int x0), (2, .int x1), (3, .int x2)]) hx hb dFR_goOn_1 hl (by decide) rfl (fun ls hl => ?_)
  exact hL3 61 s.heap [] ls S x0 x1 x2 0 (show zr 0 60 0 from by decide) gS (by have h9 := (show zr 0 0 0 from by decide); exact zfuelU h9 (by decide)) E hP hD hS (lv_sub hl [1, 2, 3, 4, 0] rfl)
noncomputable def fFR_carry_135 (P : ZS) (S_135 : ZS) (x135_5 : Int32) : ZS × Int32 := (S_135, x135_5)
noncomputable def fFR_carry_129 (P : ZS) (rc35 : ZS → Int32 → Int32 → Int32 → Int32 → Int32 → Int32 → (ZS × Int32)) (S_129 : ZS) (x129_1 : Int32) (x129_2 : Int32) (x129_3 : Int32) (x129_4 : Int32) (x129_5 : Int32) (x129_6 : Int32) : ZS × Int32 := zl (x129_6 + 1) (fun k1 => rc35 S_129 x129_1 x129_2 x129_3 x129_4 x129_5 k1)
noncomputable def fFR_carry_91 (P : ZS) (rc35 : ZS → Int32 → Int32 → Int32 → Int32 → Int32 → Int32 → (ZS × Int32)) (S_91 : ZS) (x91_1 : Int32) (x91_2 : Int32) (x91_3 : Int32) (x91_4 : Int32) (x91_5 : Int32) (x91_6 : Int32) (x91_7 : Int32) (x91_8 : Int32) : ZS × Int32 := zl (S_91.F 23 (x91_2 : Int32).toNatClampNeg) (fun k2 => (if x91_7 = k2 then zl (x91_5 + 1) (fun k8 => fFR_carry_129 P rc35 S_91 x91_1 x91_2 x91_3 x91_4 k8 x91_6) else zl (fTA_linkTo P S_91 x91_7 x91_3 x91_2 x91_4) (fun k4 => zl (fFR_goOn P S_91 x91_7 x91_8 k4) (fun S6 => fFR_carry_129 P rc35 S6 x91_1 x91_2 x91_3 x91_4 x91_5 x91_6))))
noncomputable def fFR_carry_35 (P : ZS) (rc35 : ZS → Int32 → Int32 → Int32 → Int32 → Int32 → Int32 → (ZS × Int32)) (S_35 : ZS) (x35_1 : Int32) (x35_2 : Int32) (x35_3 : Int32) (x35_4 : Int32) (x35_5 : Int32) (x35_6 : Int32) : ZS × Int32 := (if 400 ≤ x35_6 then fFR_carry_135 P S_35 x35_5 else zl (S_35.I 12) (fun k9 => (if k9 ≤ x35_6 then fFR_carry_135 P S_35 x35_5 else zl (S_35.F 24 (x35_6 : Int32).toNatClampNeg) (fun k10 => zl (S_35.F 25 (x35_6 : Int32).toNatClampNeg) (fun k11 => (if k11 = (-1) then fFR_carry_91 P rc35 S_35 x35_1 x35_2 x35_3 x35_4 x35_5 x35_6 k10 k11 else zl (fTA_learn P S_35 k10 x35_3 x35_1 k11 x35_4) (fun S13 => fFR_carry_91 P rc35 S13 x35_1 x35_2 x35_3 x35_4 x35_5 x35_6 k10 k11)))))))
noncomputable def fFR_carry (P S : ZS) (x0 : Int32) (x1 : Int32) (x2 : Int32) (x3 : Int32) : ZS × Int32 := zl (S.row 26 (fun _ => 0)) (fun S15 => zl (S15.setI 13 0) (fun S17 => zl (S17.setI 12 0) (fun S19 => zl (S19.F 23 (x0 : Int32).toNatClampNeg) (fun k21 => zl (fFR_addStep P S19 k21 (-1)) (fun S23 => zfix (fun S9 _ _ _ _ _ _ => (S9, 0)) (fFR_carry_35 P) 402 S23 x0 x1 x2 x3 0 0)))))
set_option maxHeartbeats 4000000 in
set_option maxRecDepth 100000 in
theorem tFR_carry (l : Launch) (dC : Nat → ClassId) (dI : Nat → Nat → Nat) (cI cZ cJ cA : ClassId) (a0 : Array Value) (s0 : State) (o b : Nat → Nat) (P S : ZS) (sz : Nat) (x0 : Int32) (x1 : Int32) (x2 : Int32) (x3 : Int32) (gP : cok P) (gS : cok S) (r_x0 : zr 0 63 x0) (r_x1 : zr 0 63 x1) (r_x2 : zr 0 3 x2) (h0 : ¬ S.F 23 (x0).toNatClampNeg = -1) : Met l yFR_carry [Cond.code yFR_carry bFR_carry 9 (some .int)] ({ frames := 3, cells := 0, slots := 0, locals := 69 } : Room) (zP zCl dC dI (zTZ cI cZ cJ cA) a0 s0 [.ref (o 5), .int x0, .int x1, .int x2, .int x3] sz (CW cI cZ cA o b P S)) (zQH zCl dC dI (fun (r : Int32) (x9 : ZS) => (x9, r) = fFR_carry P S x0 x1 x2 x3 ∧ cok x9 ∧ True) (fun x9 : ZS => (CW cI cZ cA o b P x9)) (va_A (CW cI cZ cA o b P S) sz)) 0 0 (va_A (CW cI cZ cA o b P S) sz) := by
  refine Met.ofW (cc := bFR_carry) (maxL := 9) (ret := (some .int)) (by decide) rfl ?_
  intro p e s m args below meth c s₁ B hml hv
  obtain ⟨rfl, hsz, hP, hK, hD0, hB⟩ := hv
  have hx := B.exec
  have hb := B.bytes
  have hr := B.returns
  have hown : s.vm.findClass "RingGuard$Frames" = some m.cls := findClass_of_methodNamed B.named
  have hlocks := B.notSynchronized
  subst hsz
  have hD := hD0.self (sz := s.heap.size)
  have hA0 := zA0 hD0 hB
  generalize hAe : va_A (CW cI cZ cA o b P S) s.heap.size = A at hD hA0 ⊢
  have hAD := hA0
  have hA : ∀ q : Nat, s.heap.size ≤ q → A q := fun q h => by rw [← hAe]; exact Or.inr h
  have hS : va_S A s.heap s.heap [] := va_S.rf
  have hl := lv_entry ([.ref (o 5), .int x0, .int x1, .int x2, .int x3]) (n := 9) (Nat.le_of_ble_eq_true rfl)
  rw [lg_entry_eq]
  generalize (lg_sl ([.ref (o 5), .int x0, .int x1, .int x2, .int x3]) ++ List.replicate (9 - (lg_sl ([.ref (o 5), .int x0, .int x1, .int x2, .int x3])).length) Slot.unset).toArray = ls at hl ⊢
  have hl : lv_has ls 9 [(0, .ref (o 5)), (1, .int x0), (2, .int x1), (3, .int x2), (4, .int x3)] := hl
  refine zgenQ (fun Q hQe => ?_)
  obtain ⟨tg, etg⟩ : ∃ z, z = fFR_carry P S x0 x1 x2 x3 := ⟨_, rfl⟩
  have E := etg
  unfold fFR_carry at E
  have hL35 : ∀ (n35 : Nat) (H : Heap) (locs : List Loc) (ls : Array Slot) (S_35 : ZS) (x35_1 : Int32) (x35_2 : Int32) (x35_3 : Int32) (x35_4 : Int32) (x35_5 : Int32) (x35_6 : Int32), zr 0 63 x35_1 → zr 0 63 x35_2 → zr 0 3 x35_3 → zr 0 401 x35_6 → cok S_35 → 401 + 1 - x35_6.toInt ≤ (n35 : Int) → tg = zfix (fun S9 _ _ _ _ _ _ => (S9, 0)) (fFR_carry_35 P) n35 S_35 x35_1 x35_2 x35_3 x35_4 x35_5 x35_6 → va_P (dC, dI) zCl (CW cI cZ cA o b P S_35) H → va_D A (CW cI cZ cA o b P S_35) → va_S A s.heap H locs → lv_has ls 9 [(0, .ref (o 5)), (1, .int x35_1), (2, .int x35_2), (3, .int x35_3), (4, .int x35_4), (5, .int x35_5), (6, .int x35_6)] → W p l e ({ frames := 3, cells := 0, slots := 0, locals := 69 } : Room) s m ([.ref (o 5), .int x0, .int x1, .int x2, .int x3] : List Value).toArray below meth c H locs 0 0 Q (F0 m 35 ls []) := by
    intro n35
    induction n35 with
    | zero => intro H locs ls S_35 x35_1 x35_2 x35_3 x35_4 x35_5 x35_6 r_x35_1 r_x35_2 r_x35_3 r_x35_6 gS_35 hm35 E hP hD hS hl; exact absurd hm35 (zfuel0U r_x35_6)
    | succ n35 ih35 =>
      intro H locs ls S_35 x35_1 x35_2 x35_3 x35_4 x35_5 x35_6 r_x35_1 r_x35_2 r_x35_3 r_x35_6 gS_35 hm35 E hP hD hS hl
      rw [zfix_s] at E
      generalize zfix (fun S9 _ _ _ _ _ _ => (S9, 0)) (fFR_carry_35 P) n35 = rc35 at ih35 E
      unfold fFR_carry_35 at E
      have hJ135 : ∀ (H : Heap) (locs : List Loc) (ls : Array Slot) (S_135 : ZS) (x135_5 : Int32), cok S_135 → tg = fFR_carry_135 P S_135 x135_5 → va_P (dC, dI) zCl (CW cI cZ cA o b P S_135) H → va_D A (CW cI cZ cA o b P S_135) → va_S A s.heap H locs → lv_has ls 9 [(5, .int x135_5)] → W p l e ({ frames := 3, cells := 0, slots := 0, locals := 69 } : Room) s m ([.ref (o 5), .int x0, .int x1, .int x2, .int x3] : List Value).toArray below meth c H locs 0 0 Q (F0 m 135 ls []) := by
        intro H locs ls S_135 x135_5 gS_135 E hP hD hS hl
        unfold fFR_carry_135 at E
        refine lv_iload hx hb dFR_carry_135 (lv_at hl 0 rfl) ?_
        rw [hQe]
        exact W.iret (v := x135_5) hx hb hr (fun t ht hW => ⟨⟨x135_5, S_135, rfl, ⟨E.symm.trans etg, gS_135, trivial⟩, by rw [ht]; exact hP, hD⟩, hS.F ht⟩) hS.2.2 dFR_carry_137
      have hJ91 : ∀ (H : Heap) (locs : List Loc) (ls : Array Slot) (S_91 : ZS) (x91_1 : Int32) (x91_2 : Int32) (x91_3 : Int32) (x91_4 : Int32) (x91_5 : Int32) (x91_6 : Int32) (x91_7 : Int32) (x91_8 : Int32), zr 0 63 x91_1 → zr 0 63 x91_2 → zr 0 3 x91_3 → zr 0 400 x91_6 → zr 0 47 x91_7 → zr (-1) 59 x91_8 → cok S_91 → 401 + 1 - x91_6.toInt ≤ ((n35 + 1 : Nat) : Int) → tg = fFR_carry_91 P rc35 S_91 x91_1 x91_2 x91_3 x91_4 x91_5 x91_6 x91_7 x91_8 → va_P (dC, dI) zCl (CW cI cZ cA o b P S_91) H → va_D A (CW cI cZ cA o b P S_91) → va_S A s.heap H locs → lv_has ls 9 [(0, .ref (o 5)), (1, .int x91_1), (2, .int x91_2), (3, .int x91_3), (4, .int x91_4), (5, .int x91_5), (6, .int x91_6), (7, .int x91_7), (8, .int x91_8)] → W p l e ({ frames := 3, cells := 0, slots := 0, locals := 69 } : Room) s m ([.ref (o 5), .int x0, .int x1, .int x2, .int x3] : List Value).toArray below meth c H locs 0 0 Q (F0 m 91 ls []) := by
        intro H locs ls S_91 x91_1 x91_2 x91_3 x91_4 x91_5 x91_6 x91_7 x91_8 r_x91_1 r_x91_2 r_x91_3 r_x91_6 r_x91_7 r_x91_8 gS_91 hm35_91 E hP hD hS hl
        unfold fFR_carry_91 at E
        have hJ129 : ∀ (H : Heap) (locs : List Loc) (ls : Array Slot) (S_129 : ZS) (x129_1 : Int32) (x129_2 : Int32) (x129_3 : Int32) (x129_4 : Int32) (x129_5 : Int32) (x129_6 : Int32), zr 0 63 x129_1 → zr 0 63 x129_2 → zr 0 3 x129_3 → zr 0 400 x129_6 → cok S_129 → 401 + 1 - x129_6.toInt ≤ ((n35 + 1 : Nat) : Int) → tg = fFR_carry_129 P rc35 S_129 x129_1 x129_2 x129_3 x129_4 x129_5 x129_6 → va_P (dC, dI) zCl (CW cI cZ cA o b P S_129) H → va_D A (CW cI cZ cA o b P S_129) → va_S A s.heap H locs → lv_has ls 9 [(0, .ref (o 5)), (1, .int x129_1), (2, .int x129_2), (3, .int x129_3), (4, .int x129_4), (5, .int x129_5), (6, .int x129_6)] → W p l e ({ frames := 3, cells := 0, slots := 0, locals := 69 } : Room) s m ([.ref (o 5), .int x0, .int x1, .int x2, .int x3] : List Value).toArray below meth c H locs 0 0 Q (F0 m 129 ls []) := by
          intro H locs ls S_129 x129_1 x129_2 x129_3 x129_4 x129_5 x129_6 r_x129_1 r_x129_2 r_x129_3 r_x129_6 gS_129 hm35_129 E hP hD hS hl
          unfold fFR_carry_129 at E
          refine z_iinc (lv' := fun v9 => [(6, .int v9), (0, .ref (o 5)), (1, .int x129_1), (2, .int x129_2), (3, .int x129_3), (4, .int x129_4), (5, .int x129_5)]) (cst := 1) hx hb dFR_carry_129 hl (k := 6) rfl (by decide) (by decide) (fun _ => rfl) E (fun k1 ls ek1 E hl => ?_)
          have r_k1 : zr 1 401 k1 := zr_add r_x129_6 (show zr 1 1 1 from by decide) ek1 (by decide)
          refine lv_goto (tgt := 35) hx hb dFR_carry_132 (by decide) ?_
          exact ih35 H locs ls S_129 x129_1 x129_2 x129_3 x129_4 x129_5 k1 r_x129_1 r_x129_2 r_x129_3 (zr_mono r_k1 (by decide)) gS_129 (zstepU ek1 r_x129_6 (by decide) hm35_129) E hP hD hS (lv_sub hl [1, 2, 3, 4, 5, 6, 0] rfl)
        refine lv_iload hx hb dFR_carry_91 (lv_at hl 7 rfl) ?_
        refine lv_aload_n hx hb dFR_carry_93 rfl (lv_at hl 0 rfl) ?_
        refine c_getA_23 hx hb (hB.words zU_FR) hown hK hP (hB.word (zm1 k1_189) rfl) dFR_carry_94 ?_
        refine lv_iload_n hx hb dFR_carry_97 rfl (lv_at hl 2 rfl) ?_
        refine c_aldS hx hb hK hP 23 (by decide) rfl r_x91_2 (by decide) dFR_carry_98 E (fun k2 ek2 E => ?_)
        have r_k2 : zr (-1) 47 k2 := by rw [ek2]; exact gS_91.1 23 _
        refine z_icmp_ne (tgt := 108) hx hb dFR_carry_99 (by decide) E (fun c_99 E => ?_) (fun c_99 E => ?_)
        · refine lv_aload_n hx hb dFR_carry_108 rfl (lv_at hl 0 rfl) ?_
          refine lv_iload hx hb dFR_carry_109 (lv_at hl 7 rfl) ?_
          refine lv_iload hx hb dFR_carry_111 (lv_at hl 8 rfl) ?_
          refine lv_aload_n hx hb dFR_carry_113 rfl (lv_at hl 0 rfl) ?_
          refine c_getO_FR_tables hx hb (hB.words zU_FR) hown hK hP (hB.word (zm1 k1_188) rfl) dFR_carry_114 ?_
          refine lv_iload hx hb dFR_carry_117 (lv_at hl 7 rfl) ?_
          refine lv_iload_n hx hb dFR_carry_119 rfl (lv_at hl 3 rfl) ?_
          refine lv_iload_n hx hb dFR_carry_120 rfl (lv_at hl 2 rfl) ?_
          refine lv_iload hx hb dFR_carry_121 (lv_at hl 4 rfl) ?_
          refine zcallp (va_runV (As := [.int x91_7, .int x91_3, .int x91_2, .int x91_4]) (rest := [.int x91_8, .int x91_7, .ref (o 5)]) ⟨hx, hb, hml, hown, zno⟩ (tTA_linkTo l dC dI cI cZ cJ cA a0 s0 o b P S_91 H.size x91_7 x91_3 x91_2 x91_4 gP gS_91 r_x91_7 r_x91_3 r_x91_2) (zcw 4 (hB.word (zm4 k4_64) rfl) (hB.word (zm1 k1_5) rfl) (hB.word (zm4 k4_61) rfl) (hB.word (zm4 k4_62) rfl) (hB.word (zm4 k4_63) rfl) rfl rfl (by decide +kernel) ⟨Nat.le_of_ble_eq_true rfl, Nat.le_of_ble_eq_true rfl⟩) ⟨zP_blind, va_recv hK hP (ci := 3) (q0 := 3) rfl rfl, zP_pre hP hK hD hAD (zB_on hB hA0 hS)⟩ rfl rfl hl.1 rfl (lv_room (Nat.le_of_ble_eq_true rfl)) dFR_carry_123 ⟨Nat.le_of_ble_eq_true rfl, Nat.le_of_ble_eq_true rfl⟩) hS hA (fun k4 H3 locs hk4 hz1 hk1 hS => ?_)
          have hP := zKeep hP hk1
          have E := zl_s E hk4.1
          refine zcV (va_runV (As := [.int x91_7, .int x91_8, .int k4]) (rest := []) ⟨hx, hb, hml, hown, zno⟩ (tFR_goOn l dC dI cI cZ cJ cA a0 s0 o b P S_91 H3.size x91_7 x91_8 k4 gP gS_91) (zcw 3 (hB.word (zm4 k4_68) rfl) (hB.word (zm1 k1_7) rfl) (hB.word (zm4 k4_65) rfl) (hB.word (zm4 k4_67) rfl) (k2_selects_private (by decide) (hB.word (zm1 k1_180) rfl) (hB.word (zm4 k4_66) rfl) (hB.word (zm4 k4_67) rfl)) rfl rfl (by decide +kernel) ⟨Nat.le_of_ble_eq_true rfl, Nat.le_of_ble_eq_true rfl⟩) ⟨zP_blind, va_recv hK hP (ci := 5) (q0 := 5) rfl rfl, zP_pre hP hK hD hAD (zB_on hB hA0 hS)⟩ rfl rfl hl.1 rfl (lv_room (Nat.le_of_ble_eq_true rfl)) dFR_carry_126 ⟨Nat.le_of_ble_eq_true rfl, Nat.le_of_ble_eq_true rfl⟩) hD hS hA (fun S6 H5 locs h7 hP hD hS => ?_)
          have E := zl_s E h7.1
          have gS6 := h7.2
          exact hJ129 H5 locs ls S6 x91_1 x91_2 x91_3 x91_4 x91_5 x91_6 r_x91_1 r_x91_2 r_x91_3 r_x91_6 gS6 hm35_91 E hP hD hS (lv_sub hl [0, 1, 2, 3, 4, 5, 6] rfl)
        · have r_k2 : zr 0 47 k2 := zeq_x r_x91_7 c_99.symm
          refine z_iinc (lv' := fun v9 => [(5, .int v9), (0, .ref (o 5)), (1, .int x91_1), (2, .int x91_2), (3, .int x91_3), (4, .int x91_4), (6, .int x91_6), (7, .int x91_7), (8, .int x91_8)]) (cst := 1) hx hb dFR_carry_102 hl (k := 5) rfl (by decide) (by decide) (fun _ => rfl) E (fun k8 ls ek8 E hl => ?_)
          refine lv_goto (tgt := 129) hx hb dFR_carry_105 (by decide) ?_
          exact hJ129 H locs ls S_91 x91_1 x91_2 x91_3 x91_4 k8 x91_6 r_x91_1 r_x91_2 r_x91_3 r_x91_6 gS_91 hm35_91 E hP hD hS (lv_sub hl [1, 2, 3, 4, 5, 0, 6] rfl)
      refine lv_iload hx hb dFR_carry_35 (lv_at hl 6 rfl) ?_
      refine lv_sipush (v := 400) hx hb dFR_carry_37 (by decide) ?_
      refine z_icmp_ge (tgt := 135) hx hb dFR_carry_40 (by decide) E (fun c_40 E => ?_) (fun c_40 E => ?_)
      · have r_x35_6 : zr 400 401 x35_6 := zle_y (show zr 400 400 400 from by decide) r_x35_6 c_40 (by decide)
        exact hJ135 H locs ls S_35 x35_5 gS_35 E hP hD hS (lv_sub hl [5] rfl)
      · have r_x35_6 : zr 0 399 x35_6 := zlt_x r_x35_6 (show zr 400 400 400 from by decide) (znle c_40) (by decide)
        refine lv_iload hx hb dFR_carry_43 (lv_at hl 6 rfl) ?_
        refine lv_aload_n hx hb dFR_carry_45 rfl (lv_at hl 0 rfl) ?_
        refine c_get_12 hx hb (hB.words zU_FR) hown hK hP (hB.word (zm1 k1_193) rfl) dFR_carry_46 E (fun k9 ek9 E => ?_)
        have r_k9 : zr 0 400 k9 := by rw [ek9]; exact gS_35.2.1 12
        refine z_icmp_ge (tgt := 135) hx hb dFR_carry_49 (by decide) E (fun c_49 E => ?_) (fun c_49 E => ?_)
        · have r_k9 : zr 0 399 k9 := zle_x r_k9 r_x35_6 c_49 (by decide)
          exact hJ135 H locs ls S_35 x35_5 gS_35 E hP hD hS (lv_sub hl [5] rfl)
        · have r_k9 : zr 1 400 k9 := zlt_y r_x35_6 r_k9 (znle c_49) (by decide)
          refine lv_aload_n hx hb dFR_carry_52 rfl (lv_at hl 0 rfl) ?_
          refine c_getA_24 hx hb (hB.words zU_FR) hown hK hP (hB.word (zm1 k1_191) rfl) dFR_carry_53 ?_
          refine lv_iload hx hb dFR_carry_56 (lv_at hl 6 rfl) ?_
          refine c_aldS hx hb hK hP 24 (by decide) rfl r_x35_6 (by decide) dFR_carry_58 E (fun k10 ek10 E => ?_)
          have r_k10 : zr 0 47 k10 := by rw [ek10]; exact gS_35.1 24 _
          refine lv_istore (lv' := [(7, .int k10), (0, .ref (o 5)), (1, .int x35_1), (2, .int x35_2), (3, .int x35_3), (4, .int x35_4), (5, .int x35_5), (6, .int x35_6)]) hx hb dFR_carry_59 hl (by decide) rfl (fun ls hl => ?_)
          refine lv_aload_n hx hb dFR_carry_61 rfl (lv_at hl 1 rfl) ?_
          refine c_getA_25 hx hb (hB.words zU_FR) hown hK hP (hB.word (zm1 k1_192) rfl) dFR_carry_62 ?_
          refine lv_iload hx hb dFR_carry_65 (lv_at hl 7 rfl) ?_
          refine c_aldS hx hb hK hP 25 (by decide) rfl r_x35_6 (by decide) dFR_carry_67 E (fun k11 ek11 E => ?_)
          have r_k11 : zr (-1) 59 k11 := by rw [ek11]; exact gS_35.1 25 _
          refine lv_istore (lv' := [(8, .int k11), (7, .int k10), (0, .ref (o 5)), (1, .int x35_1), (2, .int x35_2), (3, .int x35_3), (4, .int x35_4), (5, .int x35_5), (6, .int x35_6)]) hx hb dFR_carry_68 hl (by decide) rfl (fun ls hl => ?_)
          refine lv_iload hx hb dFR_carry_70 (lv_at hl 0 rfl) ?_
          refine lv_iconst (v := (-1)) hx hb dFR_carry_72 (by decide) ?_
          refine z_icmp_eq (tgt := 91) hx hb dFR_carry_73 (by decide) E (fun c_73 E => ?_) (fun c_73 E => ?_)
          · have r_k11 : zr (-1) (-1) k11 := zeq_x (show zr (-1) (-1) (-1) from by decide) c_73
            exact hJ91 H locs ls S_35 x35_1 x35_2 x35_3 x35_4 x35_5 x35_6 k10 k11 r_x35_1 r_x35_2 r_x35_3 (zr_mono r_x35_6 (by decide)) r_k10 (zr_mono r_k11 (by decide)) gS_35 hm35 E hP hD hS (lv_sub hl [2, 3, 4, 5, 6, 7, 8, 1, 0] rfl)
          · have r_k11 : zr 0 59 k11 := zne_lo r_k11 c_73 (by decide)
            refine lv_aload_n hx hb dFR_carry_76 rfl (lv_at hl 2 rfl) ?_
            refine c_getO_FR_tables hx hb (hB.words zU_FR) hown hK hP (hB.word (zm1 k1_188) rfl) dFR_carry_77 ?_
            refine lv_iload hx hb dFR_carry_80 (lv_at hl 1 rfl) ?_
            refine lv_iload_n hx hb dFR_carry_82 rfl (lv_at hl 5 rfl) ?_
            refine lv_iload_n hx hb dFR_carry_83 rfl (lv_at hl 3 rfl) ?_
            refine lv_iload hx hb dFR_carry_84 (lv_at hl 0 rfl) ?_
            refine lv_iload hx hb dFR_carry_86 (lv_at hl 6 rfl) ?_
            refine zcV (va_runV (As := [.int k10, .int x35_3, .int x35_1, .int k11, .int x35_4]) (rest := []) ⟨hx, hb, hml, hown, zno⟩ (tTA_learn l dC dI cI cZ cJ cA a0 s0 o b P S_35 H.size k10 x35_3 x35_1 k11 x35_4 gP gS_35 r_k10 r_x35_3 r_x35_1) (zcw 5 (hB.word (zm4 k4_60) rfl) (hB.word (zm1 k1_5) rfl) (hB.word (zm4 k4_57) rfl) (hB.word (zm4 k4_58) rfl) (hB.word (zm4 k4_59) rfl) rfl rfl (by decide +kernel) ⟨Nat.le_of_ble_eq_true rfl, Nat.le_of_ble_eq_true rfl⟩) ⟨zP_blind, va_recv hK hP (ci := 3) (q0 := 3) rfl rfl, zP_pre hP hK hD hAD (zB_on hB hA0 hS)⟩ rfl rfl hl.1 rfl (lv_room (Nat.le_of_ble_eq_true rfl)) dFR_carry_88 ⟨Nat.le_of_ble_eq_true rfl, Nat.le_of_ble_eq_true rfl⟩) hD hS hA (fun S13 H12 locs h14 hP hD hS => ?_)
            have E := zl_s E h14.1
            have gS13 := h14.2
            exact hJ91 H12 locs ls S13 x35_1 x35_2 x35_3 x35_4 x35_5 x35_6 k10 k11 r_x35_1 r_x35_2 r_x35_3 (zr_mono r_x35_6 (by decide)) r_k10 (zr_mono r_k11 (by decide)) gS13 hm35 E hP hD hS (lv_sub hl [2, 3, 4, 5, 6, 7, 8, 1, 0] rfl)
  refine lv_aload_n hx hb dFR_carry_0 rfl (lv_at hl 0 rfl) ?_
  refine c_getA_26 hx hb (hB.words zU_FR) hown hK hP (hB.word (zm1 k1_194) rfl) dFR_carry_1 ?_
  refine lv_iconst (v := 0) hx hb dFR_carry_4 (by decide) ?_
  have hkF : 9 ≤ 26 ∧ 26 < 76 := (by decide)
  have hPF := c_fillP (N := 120) (cI := cI) (cZ := cZ) hkF rfl rfl hP
  have hDF := c_fillD (N := 120) (cI := cI) (cZ := cZ) hkF rfl rfl hD
  refine c_fill (k := 26) (N := 120) (v := 0) hkF rfl rfl hP hD hS hA (va_runS (As := [.ref (b 26), .int 0]) (rest := []) ⟨hx, hb, hml, hown, zno⟩ (zw_fill l dC dI cI cZ cJ cA a0 s0 (b 26) 120 s.heap.size (S.F 26) 0 (by decide)) ⟨zcb 2 (hB.word (zm1 k1_33) rfl) (hB.word (zm1 k1_3) rfl) (hB.word (zm1 k1_185) rfl) rfl rfl (by decide +kernel) ⟨Nat.le_of_ble_eq_true rfl, Nat.le_of_ble_eq_true rfl⟩, hB.word (zm1 k1_32) rfl⟩ ⟨zP_blind, zP_pre hPF hK hDF hAD (zB_on hB hA0 hS)⟩ rfl rfl hl.1 rfl (lv_room (Nat.le_of_ble_eq_true rfl)) dFR_carry_5 ⟨Nat.le_of_ble_eq_true rfl, Nat.le_of_ble_eq_true rfl⟩) E (fun S15 H16 locs eS15 E hP hD hS => ?_)
  have gS15 : cok S15 := by rw [eS15]; exact gS.row (k := 26) (fun j => (show zr (-2147483648) 2147483647 0 from by decide)) (Or.inl rfl)
  refine lv_aload_n hx hb dFR_carry_8 rfl (lv_at hl 0 rfl) ?_
  refine lv_iconst (v := 0) hx hb dFR_carry_9 (by decide) ?_
  refine c_put_13 hx hb (hB.words zU_FR) hown hK hP hD hS (hB.word (zm1 k1_195) rfl) dFR_carry_10 E (fun S17 H18 locs eS17 E hP hD hS => ?_)
  have gS17 : cok S17 := by rw [eS17]; exact gS15.setI (t := 13) (show zr (-2147483648) 2147483647 0 from by decide)
  refine lv_aload_n hx hb dFR_carry_13 rfl (lv_at hl 0 rfl) ?_
  refine lv_iconst (v := 0) hx hb dFR_carry_14 (by decide) ?_
  refine c_put_12 hx hb (hB.words zU_FR) hown hK hP hD hS (hB.word (zm1 k1_193) rfl) dFR_carry_15 E (fun S19 H20 locs eS19 E hP hD hS => ?_)
  have gS19 : cok S19 := by rw [eS19]; exact gS17.setI (t := 12) (show zr 0 400 0 from by decide)
  refine lv_aload_n hx hb dFR_carry_18 rfl (lv_at hl 0 rfl) ?_
  refine lv_aload_n hx hb dFR_carry_19 rfl (lv_at hl 0 rfl) ?_
  refine c_getA_23 hx hb (hB.words zU_FR) hown hK hP (hB.word (zm1 k1_189) rfl) dFR_carry_20 ?_
  refine lv_iload_n hx hb dFR_carry_23 rfl (lv_at hl 1 rfl) ?_
  refine c_aldS hx hb hK hP 23 (by decide) rfl r_x0 (by decide) dFR_carry_24 E (fun k21 ek21 E => ?_)
  have r_k21 : zr (-1) 47 k21 := by rw [ek21]; exact gS19.1 23 _
  have r_k212 : zr 0 47 k21 := zne_lo r_k21 (by rw [ek21, eS19, eS17, eS15]; exact h0) (by decide)
  refine lv_iconst (v := (-1)) hx hb dFR_carry_25 (by decide) ?_
  refine zcV (va_runV (As := [.int k21, .int (-1)]) (rest := []) ⟨hx, hb, hml, hown, zno⟩ (tFR_addStep l dC dI cI cZ cJ cA a0 s0 o b P S19 H20.size k21 (-1) gP gS19 r_k212 (show zr (-1) 59 (-1) from by decide)) (zcw 2 (hB.word (zm4 k4_56) rfl) (hB.word (zm1 k1_7) rfl) (hB.word (zm4 k4_53) rfl) (hB.word (zm4 k4_55) rfl) (k2_selects_private (by decide) (hB.word (zm1 k1_180) rfl) (hB.word (zm4 k4_54) rfl) (hB.word (zm4 k4_55) rfl)) rfl rfl (by decide +kernel) ⟨Nat.le_of_ble_eq_true rfl, Nat.le_of_ble_eq_true rfl⟩) ⟨zP_blind, va_recv hK hP (ci := 5) (q0 := 5) rfl rfl, zP_pre hP hK hD hAD (zB_on hB hA0 hS)⟩ rfl rfl hl.1 rfl (lv_room (Nat.le_of_ble_eq_true rfl)) dFR_carry_26 ⟨Nat.le_of_ble_eq_true rfl, Nat.le_of_ble_eq_true rfl⟩) hD hS hA (fun S23 H22 locs h24 hP hD hS => ?_)
  have E := zl_s E h24.1
  have gS23 := h24.2
  refine lv_iconst (v := 0) hx hb dFR_carry_29 (by decide) ?_
  refine lv_istore (lv' := [(5, .int 0), (0, .ref (o 5)), (1, .int x0), (2, .int x1), (3, .int x2), (4, .int x3)]) hx hb dFR_carry_30 hl (by decide) rfl (fun ls hl => ?_)
  refine lv_iconst (v := 0) hx hb dFR_carry_32 (by decide) ?_
  refine lv_istore (lv' := [(6, .int 0), (5, .int 0), (0, .ref (o 5)), (1, .int x0), (2, .int x1), (3, .int x2), (4, .int x3)]) hx hb dFR_carry_33 hl (by decide) rfl (fun ls hl => ?_)
  exact hL35 402 H22 locs ls S23 x0 x1 x2 x3 0 0 r_x0 r_x1 r_x2 (show zr 0 401 0 from by decide) gS23 (by have h9 := (show zr 0 0 0 from by decide); exact zfuelU h9 (by decide)) E hP hD hS (lv_sub hl [2, 3, 4, 5, 6, 1, 0] rfl)
noncomputable def fRG_groupByOpenLinks_76 (P : ZS) (rc21 : ZS → Int32 → (ZS)) (S_76 : ZS) (x76_1 : Int32) : ZS := zl (x76_1 + 1) (fun k1 => rc21 S_76 k1)
noncomputable def fRG_groupByOpenLinks_21 (P : ZS) (rc21 : ZS → Int32 → (ZS)) (S_21 : ZS) (x21_1 : Int32) : ZS := zl (P.I 1) (fun k2 => (if k2 ≤ x21_1 then S_21 else zl (fPR_isOpen P S_21 x21_1) (fun k4 => (if k4 = 0 then fRG_groupByOpenLinks_76 P rc21 S_21 x21_1 else zl (P.F 0 (x21_1 : Int32).toNatClampNeg) (fun k5 => zl (P.F 1 (x21_1 : Int32).toNatClampNeg) (fun k6 => zl2 (fGR_join P S_21 k5 k6) (fun S9 k8 => (if k8 = 0 then zl (S9.setI 6 1) (fun S11 => fRG_groupByOpenLinks_76 P rc21 S11 x21_1) else fRG_groupByOpenLinks_76 P rc21 S9 x21_1))))))))
noncomputable def fRG_groupByOpenLinks (P S : ZS) : ZS := zl (P.I 0) (fun k13 => zl (fGR_separate P S k13) (fun S15 => zl (S15.setI 6 0) (fun S17 => zfix (fun S9 _ => S9) (fRG_groupByOpenLinks_21 P) 61 S17 0)))
set_option maxHeartbeats 4000000 in
set_option maxRecDepth 100000 in
theorem tRG_groupByOpenLinks (l : Launch) (dC : Nat → ClassId) (dI : Nat → Nat → Nat) (cI cZ cJ cA : ClassId) (a0 : Array Value) (s0 : State) (o b : Nat → Nat) (P S : ZS) (sz : Nat) (gP : cok P) (gS : cok S) : Met l yRG_groupByOpenLinks [Cond.code yRG_groupByOpenLinks bRG_groupByOpenLinks 2 none] ({ frames := 1, cells := 0, slots := 0, locals := 25 } : Room) (zP zCl dC dI (zTZ cI cZ cJ cA) a0 s0 [.ref (o 0)] sz (CW cI cZ cA o b P S)) (zQG zCl dC dI (fun (x9 : ZS) => x9 = fRG_groupByOpenLinks P S  ∧ cok x9) (fun x9 : ZS => (CW cI cZ cA o b P x9)) (va_A (CW cI cZ cA o b P S) sz)) 0 0 (va_A (CW cI cZ cA o b P S) sz) := by
  refine Met.ofW (cc := bRG_groupByOpenLinks) (maxL := 2) (ret := none) (by decide) rfl ?_
  intro p e s m args below meth c s₁ B hml hv
  obtain ⟨rfl, hsz, hP, hK, hD0, hB⟩ := hv
  have hx := B.exec
  have hb := B.bytes
  have hr := B.returns
  have hown : s.vm.findClass "RingGuard" = some m.cls := findClass_of_methodNamed B.named
  have hlocks := B.notSynchronized
  subst hsz
  have hD := hD0.self (sz := s.heap.size)
  have hA0 := zA0 hD0 hB
  generalize hAe : va_A (CW cI cZ cA o b P S) s.heap.size = A at hD hA0 ⊢
  have hAD := hA0
  have hA : ∀ q : Nat, s.heap.size ≤ q → A q := fun q h => by rw [← hAe]; exact Or.inr h
  have hS : va_S A s.heap s.heap [] := va_S.rf
  have hl := lv_entry ([.ref (o 0)]) (n := 2) (Nat.le_of_ble_eq_true rfl)
  rw [lg_entry_eq]
  generalize (lg_sl ([.ref (o 0)]) ++ List.replicate (2 - (lg_sl ([.ref (o 0)])).length) Slot.unset).toArray = ls at hl ⊢
  have hl : lv_has ls 2 [(0, .ref (o 0))] := hl
  refine zgenQ (fun Q hQe => ?_)
  obtain ⟨tg, etg⟩ : ∃ z, z = fRG_groupByOpenLinks P S  := ⟨_, rfl⟩
  have E := etg
  unfold fRG_groupByOpenLinks at E
  have hL21 : ∀ (n21 : Nat) (H : Heap) (locs : List Loc) (ls : Array Slot) (S_21 : ZS) (x21_1 : Int32), zr 0 60 x21_1 → cok S_21 → 60 + 1 - x21_1.toInt ≤ (n21 : Int) → tg = zfix (fun S9 _ => S9) (fRG_groupByOpenLinks_21 P) n21 S_21 x21_1 → va_P (dC, dI) zCl (CW cI cZ cA o b P S_21) H → va_D A (CW cI cZ cA o b P S_21) → va_S A s.heap H locs → lv_has ls 2 [(0, .ref (o 0)), (1, .int x21_1)] → W p l e ({ frames := 1, cells := 0, slots := 0, locals := 25 } : Room) s m ([.ref (o 0)] : List Value).toArray below meth c H locs 0 0 Q (F0 m 21 ls []) := by
    intro n21
    induction n21 with
    | zero => intro H locs ls S_21 x21_1 r_x21_1 gS_21 hm21 E hP hD hS hl; exact absurd hm21 (zfuel0U r_x21_1)
    | succ n21 ih21 =>
      intro H locs ls S_21 x21_1 r_x21_1 gS_21 hm21 E hP hD hS hl
      rw [zfix_s] at E
      generalize zfix (fun S9 _ => S9) (fRG_groupByOpenLinks_21 P) n21 = rc21 at ih21 E
      unfold fRG_groupByOpenLinks_21 at E
      have hJ76 : ∀ (H : Heap) (locs : List Loc) (ls : Array Slot) (S_76 : ZS) (x76_1 : Int32), zr 0 59 x76_1 → cok S_76 → 60 + 1 - x76_1.toInt ≤ ((n21 + 1 : Nat) : Int) → tg = fRG_groupByOpenLinks_76 P rc21 S_76 x76_1 → va_P (dC, dI) zCl (CW cI cZ cA o b P S_76) H → va_D A (CW cI cZ cA o b P S_76) → va_S A s.heap H locs → lv_has ls 2 [(0, .ref (o 0)), (1, .int x76_1)] → W p l e ({ frames := 1, cells := 0, slots := 0, locals := 25 } : Room) s m ([.ref (o 0)] : List Value).toArray below meth c H locs 0 0 Q (F0 m 76 ls []) := by
        intro H locs ls S_76 x76_1 r_x76_1 gS_76 hm21_76 E hP hD hS hl
        unfold fRG_groupByOpenLinks_76 at E
        refine z_iinc (lv' := fun v9 => [(1, .int v9), (0, .ref (o 0))]) (cst := 1) hx hb dRG_groupByOpenLinks_76 hl (k := 1) rfl (by decide) (by decide) (fun _ => rfl) E (fun k1 ls ek1 E hl => ?_)
        have r_k1 : zr 1 60 k1 := zr_add r_x76_1 (show zr 1 1 1 from by decide) ek1 (by decide)
        refine lv_goto (tgt := 21) hx hb dRG_groupByOpenLinks_79 (by decide) ?_
        exact ih21 H locs ls S_76 k1 (zr_mono r_k1 (by decide)) gS_76 (zstepU ek1 r_x76_1 (by decide) hm21_76) E hP hD hS (lv_sub hl [1, 0] rfl)
      refine lv_iload_n hx hb dRG_groupByOpenLinks_21 rfl (lv_at hl 1 rfl) ?_
      refine lv_aload_n hx hb dRG_groupByOpenLinks_22 rfl (lv_at hl 0 rfl) ?_
      refine c_getO_RG_plan hx hb (hB.words zU_RG) hown hK hP (hB.word (zm1 k1_235) rfl) dRG_groupByOpenLinks_23 ?_
      refine c_get_1 hx hb (hB.words zU_PL) hown hK hP (hB.word (zm1 k1_39) rfl) dRG_groupByOpenLinks_26 E (fun k2 ek2 E => ?_)
      have r_k2 : zr 0 60 k2 := by rw [ek2]; exact gP.2.1 1
      refine z_icmp_ge (tgt := 82) hx hb dRG_groupByOpenLinks_29 (by decide) E (fun c_29 E => ?_) (fun c_29 E => ?_)
      · rw [hQe]
        exact W.vret hx hb hr (fun t ht hW => ⟨⟨S_21, rfl, ⟨E.symm.trans etg, gS_21⟩, by rw [ht]; exact hP, hD⟩, hS.F ht⟩) hS.2.2 dRG_groupByOpenLinks_82
      · have r_x21_1 : zr 0 59 x21_1 := zlt_x r_x21_1 r_k2 (znle c_29) (by decide)
        have r_k2 : zr 1 60 k2 := zlt_y r_x21_1 r_k2 (znle c_29) (by decide)
        refine lv_aload_n hx hb dRG_groupByOpenLinks_32 rfl (lv_at hl 0 rfl) ?_
        refine c_getO_RG_protocol hx hb (hB.words zU_RG) hown hK hP (hB.word (zm1 k1_238) rfl) dRG_groupByOpenLinks_33 ?_
        refine lv_iload_n hx hb dRG_groupByOpenLinks_36 rfl (lv_at hl 1 rfl) ?_
        refine zcallp (va_runV (As := [.int x21_1]) (rest := []) ⟨hx, hb, hml, hown, zno⟩ (tPR_isOpen l dC dI cI cZ cJ cA a0 s0 o b P S_21 H.size x21_1 gP gS_21 r_x21_1) (zcw 1 (hB.word (zm3 k3_92) rfl) (hB.word (zm1 k1_6) rfl) (hB.word (zm3 k3_89) rfl) (hB.word (zm3 k3_90) rfl) (hB.word (zm3 k3_91) rfl) rfl rfl (by decide +kernel) ⟨Nat.le_of_ble_eq_true rfl, Nat.le_of_ble_eq_true rfl⟩) ⟨zP_blind, va_recv hK hP (ci := 4) (q0 := 4) rfl rfl, zP_pre hP hK hD hAD (zB_on hB hA0 hS)⟩ rfl rfl hl.1 rfl (lv_room (Nat.le_of_ble_eq_true rfl)) dRG_groupByOpenLinks_37 ⟨Nat.le_of_ble_eq_true rfl, Nat.le_of_ble_eq_true rfl⟩) hS hA (fun k4 H3 locs hk4 hz1 hk1 hS => ?_)
        have hP := zKeep hP hk1
        have E := zl_s E hk4.1
        refine z_if_eq (tgt := 76) hx hb dRG_groupByOpenLinks_40 (by decide) E (fun c_40 E => ?_) (fun c_40 E => ?_)
        · have r_k4 : zr 0 0 k4 := zeq_x (show zr 0 0 0 from by decide) c_40
          exact hJ76 H3 locs ls S_21 x21_1 r_x21_1 gS_21 hm21 E hP hD hS (lv_sub hl [0, 1] rfl)
        · have r_k4 : zr 1 1 k4 := zne_lo hk4.2 c_40 (by decide)
          refine lv_aload_n hx hb dRG_groupByOpenLinks_43 rfl (lv_at hl 0 rfl) ?_
          refine c_getO_RG_groups hx hb (hB.words zU_RG) hown hK hP (hB.word (zm2 k2_0) rfl) dRG_groupByOpenLinks_44 ?_
          refine lv_aload_n hx hb dRG_groupByOpenLinks_47 rfl (lv_at hl 0 rfl) ?_
          refine c_getO_RG_plan hx hb (hB.words zU_RG) hown hK hP (hB.word (zm1 k1_235) rfl) dRG_groupByOpenLinks_48 ?_
          refine c_getA_0 hx hb (hB.words zU_PL) hown hK hP (hB.word (zm1 k1_42) rfl) dRG_groupByOpenLinks_51 ?_
          refine lv_iload_n hx hb dRG_groupByOpenLinks_54 rfl (lv_at hl 1 rfl) ?_
          refine c_aldP hx hb hK hP 0 (by decide) rfl r_x21_1 (by decide) dRG_groupByOpenLinks_55 E (fun k5 ek5 E => ?_)
          have r_k5 : zr 0 47 k5 := by rw [ek5]; exact gP.1 0 _
          refine lv_aload_n hx hb dRG_groupByOpenLinks_56 rfl (lv_at hl 0 rfl) ?_
          refine c_getO_RG_plan hx hb (hB.words zU_RG) hown hK hP (hB.word (zm1 k1_235) rfl) dRG_groupByOpenLinks_57 ?_
          refine c_getA_1 hx hb (hB.words zU_PL) hown hK hP (hB.word (zm1 k1_44) rfl) dRG_groupByOpenLinks_60 ?_
          refine lv_iload_n hx hb dRG_groupByOpenLinks_63 rfl (lv_at hl 1 rfl) ?_
          refine c_aldP hx hb hK hP 1 (by decide) rfl r_x21_1 (by decide) dRG_groupByOpenLinks_64 E (fun k6 ek6 E => ?_)
          have r_k6 : zr 0 47 k6 := by rw [ek6]; exact gP.1 1 _
          refine zcI (va_runV (As := [.int k5, .int k6]) (rest := []) ⟨hx, hb, hml, hown, zno⟩ (tGR_join l dC dI cI cZ cJ cA a0 s0 o b P S_21 H3.size k5 k6 gP gS_21 r_k5 r_k6) (zcw 2 (hB.word (zm2 k2_236) rfl) (hB.word (zm1 k1_8) rfl) (hB.word (zm3 k3_93) rfl) (hB.word (zm2 k2_234) rfl) (hB.word (zm2 k2_235) rfl) rfl rfl (by decide +kernel) ⟨Nat.le_of_ble_eq_true rfl, Nat.le_of_ble_eq_true rfl⟩) ⟨zP_blind, va_recv hK hP (ci := 6) (q0 := 6) rfl rfl, zP_pre hP hK hD hAD (zB_on hB hA0 hS)⟩ rfl rfl hl.1 rfl (lv_room (Nat.le_of_ble_eq_true rfl)) dRG_groupByOpenLinks_65 ⟨Nat.le_of_ble_eq_true rfl, Nat.le_of_ble_eq_true rfl⟩) hD hS hA (fun k8 S9 H7 locs h10 hP hD hS => ?_)
          have E := zl2_s E h10.1
          have gS9 := h10.2.1
          refine z_if_ne (tgt := 76) hx hb dRG_groupByOpenLinks_68 (by decide) E (fun c_68 E => ?_) (fun c_68 E => ?_)
          · have r_k8 : zr 1 1 k8 := zne_lo h10.2.2 c_68 (by decide)
            exact hJ76 H7 locs ls S9 x21_1 r_x21_1 gS9 hm21 E hP hD hS (lv_sub hl [0, 1] rfl)
          · have r_k8 : zr 0 0 k8 := zeq_x (show zr 0 0 0 from by decide) c_68
            refine lv_aload_n hx hb dRG_groupByOpenLinks_71 rfl (lv_at hl 0 rfl) ?_
            refine lv_iconst (v := 1) hx hb dRG_groupByOpenLinks_72 (by decide) ?_
            refine c_put_6 hx hb (hB.words zU_RG) hown hK hP hD hS (hB.word (zm2 k2_5) rfl) (show zr 0 1 1 from by decide) dRG_groupByOpenLinks_73 E (fun S11 H12 locs eS11 E hP hD hS => ?_)
            have gS11 : cok S11 := by rw [eS11]; exact gS9.setI (t := 6) (show zr 0 1 1 from by decide)
            exact hJ76 H12 locs ls S11 x21_1 r_x21_1 gS11 hm21 E hP hD hS (lv_sub hl [0, 1] rfl)
  refine lv_aload_n hx hb dRG_groupByOpenLinks_0 rfl (lv_at hl 0 rfl) ?_
  refine c_getO_RG_groups hx hb (hB.words zU_RG) hown hK hP (hB.word (zm2 k2_0) rfl) dRG_groupByOpenLinks_1 ?_
  refine lv_aload_n hx hb dRG_groupByOpenLinks_4 rfl (lv_at hl 0 rfl) ?_
  refine c_getO_RG_plan hx hb (hB.words zU_RG) hown hK hP (hB.word (zm1 k1_235) rfl) dRG_groupByOpenLinks_5 ?_
  refine c_get_0 hx hb (hB.words zU_PL) hown hK hP (hB.word (zm1 k1_34) rfl) dRG_groupByOpenLinks_8 E (fun k13 ek13 E => ?_)
  have r_k13 : zr 0 48 k13 := by rw [ek13]; exact gP.2.1 0
  refine zcV (va_runV (As := [.int k13]) (rest := []) ⟨hx, hb, hml, hown, zno⟩ (tGR_separate l dC dI cI cZ cJ cA a0 s0 o b P S s.heap.size k13 gP gS r_k13) (zcw 1 (hB.word (zm2 k2_232) rfl) (hB.word (zm1 k1_8) rfl) (hB.word (zm3 k3_88) rfl) (hB.word (zm2 k2_230) rfl) (hB.word (zm2 k2_231) rfl) rfl rfl (by decide +kernel) ⟨Nat.le_of_ble_eq_true rfl, Nat.le_of_ble_eq_true rfl⟩) ⟨zP_blind, va_recv hK hP (ci := 6) (q0 := 6) rfl rfl, zP_pre hP hK hD hAD (zB_on hB hA0 hS)⟩ rfl rfl hl.1 rfl (lv_room (Nat.le_of_ble_eq_true rfl)) dRG_groupByOpenLinks_11 ⟨Nat.le_of_ble_eq_true rfl, Nat.le_of_ble_eq_true rfl⟩) hD hS hA (fun S15 H14 locs h16 hP hD hS => ?_)
  have E := zl_s E h16.1
  have gS15 := h16.2
  refine lv_aload_n hx hb dRG_groupByOpenLinks_14 rfl (lv_at hl 0 rfl) ?_
  refine lv_iconst (v := 0) hx hb dRG_groupByOpenLinks_15 (by decide) ?_
  refine c_put_6 hx hb (hB.words zU_RG) hown hK hP hD hS (hB.word (zm2 k2_5) rfl) (show zr 0 1 0 from by decide) dRG_groupByOpenLinks_16 E (fun S17 H18 locs eS17 E hP hD hS => ?_)
  have gS17 : cok S17 := by rw [eS17]; exact gS15.setI (t := 6) (show zr 0 1 0 from by decide)
  refine lv_iconst (v := 0) hx hb dRG_groupByOpenLinks_19 (by decide) ?_
  refine lv_istore_n (lv' := [(1, .int 0), (0, .ref (o 0))]) hx hb dRG_groupByOpenLinks_20 rfl hl (by decide) rfl (fun ls hl => ?_)
  exact hL21 61 H18 locs ls S17 0 (show zr 0 60 0 from by decide) gS17 (by have h9 := (show zr 0 0 0 from by decide); exact zfuelU h9 (by decide)) E hP hD hS (lv_sub hl [1, 0] rfl)
noncomputable def fRG_countCircle_22 (P : ZS) (S_22 : ZS) : ZS := zl (S_22.I 6) (fun k1 => (if k1 = 0 then S_22 else zl (S_22.I 7) (fun k2 => zl (k2 + 1) (fun k3 => zl (S_22.setI 7 k3) (fun S4 => S4)))))
noncomputable def fRG_countCircle (P S : ZS) : ZS := zl (S.I 11) (fun k6 => (if k6 = 0 then fRG_countCircle_22 P S else zl (fRG_groupByOpenLinks P S) (fun S8 => zl (S8.setI 11 0) (fun S10 => fRG_countCircle_22 P S10))))
set_option maxHeartbeats 4000000 in
set_option maxRecDepth 100000 in
theorem tRG_countCircle (l : Launch) (dC : Nat → ClassId) (dI : Nat → Nat → Nat) (cI cZ cJ cA : ClassId) (a0 : Array Value) (s0 : State) (o b : Nat → Nat) (P S : ZS) (sz : Nat) (gP : cok P) (gS : cok S) : Met l yRG_countCircle [Cond.code yRG_countCircle bRG_countCircle 1 none] ({ frames := 2, cells := 0, slots := 0, locals := 46 } : Room) (zP zCl dC dI (zTZ cI cZ cJ cA) a0 s0 [.ref (o 0)] sz (CW cI cZ cA o b P S)) (zQG zCl dC dI (fun (x9 : ZS) => x9 = fRG_countCircle P S  ∧ cok x9) (fun x9 : ZS => (CW cI cZ cA o b P x9)) (va_A (CW cI cZ cA o b P S) sz)) 0 0 (va_A (CW cI cZ cA o b P S) sz) := by
  refine Met.ofW (cc := bRG_countCircle) (maxL := 1) (ret := none) (by decide) rfl ?_
  intro p e s m args below meth c s₁ B hml hv
  obtain ⟨rfl, hsz, hP, hK, hD0, hB⟩ := hv
  have hx := B.exec
  have hb := B.bytes
  have hr := B.returns
  have hown : s.vm.findClass "RingGuard" = some m.cls := findClass_of_methodNamed B.named
  have hlocks := B.notSynchronized
  subst hsz
  have hD := hD0.self (sz := s.heap.size)
  have hA0 := zA0 hD0 hB
  generalize hAe : va_A (CW cI cZ cA o b P S) s.heap.size = A at hD hA0 ⊢
  have hAD := hA0
  have hA : ∀ q : Nat, s.heap.size ≤ q → A q := fun q h => by rw [← hAe]; exact Or.inr h
  have hS : va_S A s.heap s.heap [] := va_S.rf
  have hl := lv_entry ([.ref (o 0)]) (n := 1) (Nat.le_of_ble_eq_true rfl)
  rw [lg_entry_eq]
  generalize (lg_sl ([.ref (o 0)]) ++ List.replicate (1 - (lg_sl ([.ref (o 0)])).length) Slot.unset).toArray = ls at hl ⊢
  have hl : lv_has ls 1 [(0, .ref (o 0))] := hl
  refine zgenQ (fun Q hQe => ?_)
  obtain ⟨tg, etg⟩ : ∃ z, z = fRG_countCircle P S  := ⟨_, rfl⟩
  have E := etg
  unfold fRG_countCircle at E
  have hJ22 : ∀ (H : Heap) (locs : List Loc) (ls : Array Slot) (S_22 : ZS), cok S_22 → tg = fRG_countCircle_22 P S_22 → va_P (dC, dI) zCl (CW cI cZ cA o b P S_22) H → va_D A (CW cI cZ cA o b P S_22) → va_S A s.heap H locs → lv_has ls 1 [(0, .ref (o 0))] → W p l e ({ frames := 2, cells := 0, slots := 0, locals := 46 } : Room) s m ([.ref (o 0)] : List Value).toArray below meth c H locs 0 0 Q (F0 m 22 ls []) := by
    intro H locs ls S_22 gS_22 E hP hD hS hl
    unfold fRG_countCircle_22 at E
    refine lv_aload_n hx hb dRG_countCircle_22 rfl (lv_at hl 0 rfl) ?_
    refine c_get_6 hx hb (hB.words zU_RG) hown hK hP (hB.word (zm2 k2_5) rfl) dRG_countCircle_23 E (fun k1 ek1 E => ?_)
    have r_k1 : zr 0 1 k1 := by rw [ek1]; exact gS_22.2.1 6
    refine z_if_eq (tgt := 39) hx hb dRG_countCircle_26 (by decide) E (fun c_26 E => ?_) (fun c_26 E => ?_)
    · have r_k1 : zr 0 0 k1 := zeq_x (show zr 0 0 0 from by decide) c_26
      rw [hQe]
      exact W.vret hx hb hr (fun t ht hW => ⟨⟨S_22, rfl, ⟨E.symm.trans etg, gS_22⟩, by rw [ht]; exact hP, hD⟩, hS.F ht⟩) hS.2.2 dRG_countCircle_39
    · have r_k1 : zr 1 1 k1 := zne_lo r_k1 c_26 (by decide)
      refine lv_aload_n hx hb dRG_countCircle_29 rfl (lv_at hl 0 rfl) ?_
      refine lv_dup hx hb dRG_countCircle_30 rfl ?_
      refine c_get_7 hx hb (hB.words zU_RG) hown hK hP (hB.word (zm2 k2_6) rfl) dRG_countCircle_31 E (fun k2 ek2 E => ?_)
      refine lv_iconst (v := 1) hx hb dRG_countCircle_34 (by decide) ?_
      refine z_iadd hx hb dRG_countCircle_35 E (fun k3 ek3 E => ?_)
      refine c_put_7 hx hb (hB.words zU_RG) hown hK hP hD hS (hB.word (zm2 k2_6) rfl) dRG_countCircle_36 E (fun S4 H5 locs eS4 E hP hD hS => ?_)
      have gS4 : cok S4 := by rw [eS4]; exact gS_22.setI (t := 7) (zr_any k3)
      rw [hQe]
      exact W.vret hx hb hr (fun t ht hW => ⟨⟨S4, rfl, ⟨E.symm.trans etg, gS4⟩, by rw [ht]; exact hP, hD⟩, hS.F ht⟩) hS.2.2 dRG_countCircle_39
  refine lv_aload_n hx hb dRG_countCircle_0 rfl (lv_at hl 0 rfl) ?_
  refine c_getO_RG_protocol hx hb (hB.words zU_RG) hown hK hP (hB.word (zm1 k1_238) rfl) dRG_countCircle_1 ?_
  refine c_get_11 hx hb (hB.words zU_PR) hown hK hP (hB.word (zm1 k1_149) rfl) dRG_countCircle_4 E (fun k6 ek6 E => ?_)
  have r_k6 : zr 0 1 k6 := by rw [ek6]; exact gS.2.1 11
  refine z_if_eq (tgt := 22) hx hb dRG_countCircle_7 (by decide) E (fun c_7 E => ?_) (fun c_7 E => ?_)
  · have r_k6 : zr 0 0 k6 := zeq_x (show zr 0 0 0 from by decide) c_7
    exact hJ22 s.heap [] ls S gS E hP hD hS (lv_sub hl [0] rfl)
  · have r_k6 : zr 1 1 k6 := zne_lo r_k6 c_7 (by decide)
    refine lv_aload_n hx hb dRG_countCircle_10 rfl (lv_at hl 0 rfl) ?_
    refine zcV (va_runV (As := []) (rest := []) ⟨hx, hb, hml, hown, zno⟩ (tRG_groupByOpenLinks l dC dI cI cZ cJ cA a0 s0 o b P S s.heap.size gP gS) (zcw 0 (hB.word (zm3 k3_87) rfl) (hB.word (zm1 k1_1) rfl) (hB.word (zm3 k3_84) rfl) (hB.word (zm3 k3_86) rfl) (k2_selects_private (by decide) (hB.word (zm1 k1_18) rfl) (hB.word (zm3 k3_85) rfl) (hB.word (zm3 k3_86) rfl)) rfl rfl (by decide +kernel) ⟨Nat.le_of_ble_eq_true rfl, Nat.le_of_ble_eq_true rfl⟩) ⟨zP_blind, va_recv hK hP (ci := 0) (q0 := 0) rfl rfl, zP_pre hP hK hD hAD (zB_on hB hA0 hS)⟩ rfl rfl hl.1 rfl (lv_room (Nat.le_of_ble_eq_true rfl)) dRG_countCircle_11 ⟨Nat.le_of_ble_eq_true rfl, Nat.le_of_ble_eq_true rfl⟩) hD hS hA (fun S8 H7 locs h9 hP hD hS => ?_)
    have E := zl_s E h9.1
    have gS8 := h9.2
    refine lv_aload_n hx hb dRG_countCircle_14 rfl (lv_at hl 0 rfl) ?_
    refine c_getO_RG_protocol hx hb (hB.words zU_RG) hown hK hP (hB.word (zm1 k1_238) rfl) dRG_countCircle_15 ?_
    refine lv_iconst (v := 0) hx hb dRG_countCircle_18 (by decide) ?_
    refine c_put_11 hx hb (hB.words zU_PR) hown hK hP hD hS (hB.word (zm1 k1_149) rfl) (show zr 0 1 0 from by decide) dRG_countCircle_19 E (fun S10 H11 locs eS10 E hP hD hS => ?_)
    have gS10 : cok S10 := by rw [eS10]; exact gS8.setI (t := 11) (show zr 0 1 0 from by decide)
    exact hJ22 H11 locs ls S10 gS10 E hP hD hS (lv_sub hl [0] rfl)
noncomputable def fRG_countApart (P S : ZS) : ZS := zl (S.I 14) (fun k1 => (if k1 ≤ 1 then S else zl (S.I 4) (fun k2 => zl (P.I 0) (fun k3 => zl (4 * k3) (fun k4 => zl (k4 + 80) (fun k5 => (if k2 < k5 then S else zl (fPR_hasAnyCommand P S) (fun k7 => (if k7 = 0 then zl (fPR_hasRingWithTwoFailures P S) (fun k9 => (if k9 = 0 then zl (S.I 8) (fun k10 => zl (k10 + 1) (fun k11 => zl (S.setI 8 k11) (fun S12 => S12))) else S)) else S)))))))))
set_option maxHeartbeats 4000000 in
set_option maxRecDepth 100000 in
theorem tRG_countApart (l : Launch) (dC : Nat → ClassId) (dI : Nat → Nat → Nat) (cI cZ cJ cA : ClassId) (a0 : Array Value) (s0 : State) (o b : Nat → Nat) (P S : ZS) (sz : Nat) (gP : cok P) (gS : cok S) : Met l yRG_countApart [Cond.code yRG_countApart bRG_countApart 1 none] ({ frames := 3, cells := 0, slots := 0, locals := 65 } : Room) (zP zCl dC dI (zTZ cI cZ cJ cA) a0 s0 [.ref (o 0)] sz (CW cI cZ cA o b P S)) (zQG zCl dC dI (fun (x9 : ZS) => x9 = fRG_countApart P S  ∧ cok x9) (fun x9 : ZS => (CW cI cZ cA o b P x9)) (va_A (CW cI cZ cA o b P S) sz)) 0 0 (va_A (CW cI cZ cA o b P S) sz) := by
  refine Met.ofW (cc := bRG_countApart) (maxL := 1) (ret := none) (by decide) rfl ?_
  intro p e s m args below meth c s₁ B hml hv
  obtain ⟨rfl, hsz, hP, hK, hD0, hB⟩ := hv
  have hx := B.exec
  have hb := B.bytes
  have hr := B.returns
  have hown : s.vm.findClass "RingGuard" = some m.cls := findClass_of_methodNamed B.named
  have hlocks := B.notSynchronized
  subst hsz
  have hD := hD0.self (sz := s.heap.size)
  have hA0 := zA0 hD0 hB
  generalize hAe : va_A (CW cI cZ cA o b P S) s.heap.size = A at hD hA0 ⊢
  have hAD := hA0
  have hA : ∀ q : Nat, s.heap.size ≤ q → A q := fun q h => by rw [← hAe]; exact Or.inr h
  have hS : va_S A s.heap s.heap [] := va_S.rf
  have hl := lv_entry ([.ref (o 0)]) (n := 1) (Nat.le_of_ble_eq_true rfl)
  rw [lg_entry_eq]
  generalize (lg_sl ([.ref (o 0)]) ++ List.replicate (1 - (lg_sl ([.ref (o 0)])).length) Slot.unset).toArray = ls at hl ⊢
  have hl : lv_has ls 1 [(0, .ref (o 0))] := hl
  refine zgenQ (fun Q hQe => ?_)
  obtain ⟨tg, etg⟩ : ∃ z, z = fRG_countApart P S  := ⟨_, rfl⟩
  have E := etg
  unfold fRG_countApart at E
  refine lv_aload_n hx hb dRG_countApart_0 rfl (lv_at hl 0 rfl) ?_
  refine c_getO_RG_groups hx hb (hB.words zU_RG) hown hK hP (hB.word (zm2 k2_0) rfl) dRG_countApart_1 ?_
  refine c_get_14 hx hb (hB.words zU_GR) hown hK hP (hB.word (zm1 k1_226) rfl) dRG_countApart_4 E (fun k1 ek1 E => ?_)
  refine lv_iconst (v := 1) hx hb dRG_countApart_7 (by decide) ?_
  refine z_icmp_le (tgt := 60) hx hb dRG_countApart_8 (by decide) E (fun c_8 E => ?_) (fun c_8 E => ?_)
  · have r_k1 : zr (-2147483648) 1 k1 := zle_x (zr_any k1) (show zr 1 1 1 from by decide) c_8 (by decide)
    rw [hQe]
    exact W.vret hx hb hr (fun t ht hW => ⟨⟨S, rfl, ⟨E.symm.trans etg, gS⟩, by rw [ht]; exact hP, hD⟩, hS.F ht⟩) hS.2.2 dRG_countApart_60
  · have r_k1 : zr 2 2147483647 k1 := zlt_y (show zr 1 1 1 from by decide) (zr_any k1) (znle c_8) (by decide)
    refine lv_aload_n hx hb dRG_countApart_11 rfl (lv_at hl 0 rfl) ?_
    refine c_get_4 hx hb (hB.words zU_RG) hown hK hP (hB.word (zm2 k2_3) rfl) dRG_countApart_12 E (fun k2 ek2 E => ?_)
    refine lv_iconst (v := 4) hx hb dRG_countApart_15 (by decide) ?_
    refine lv_aload_n hx hb dRG_countApart_16 rfl (lv_at hl 0 rfl) ?_
    refine c_getO_RG_plan hx hb (hB.words zU_RG) hown hK hP (hB.word (zm1 k1_235) rfl) dRG_countApart_17 ?_
    refine c_get_0 hx hb (hB.words zU_PL) hown hK hP (hB.word (zm1 k1_34) rfl) dRG_countApart_20 E (fun k3 ek3 E => ?_)
    have r_k3 : zr 0 48 k3 := by rw [ek3]; exact gP.2.1 0
    refine z_imul hx hb dRG_countApart_23 E (fun k4 ek4 E => ?_)
    have r_k4 : zr 0 192 k4 := zr_mul (show zr 4 4 4 from by decide) r_k3 ek4 (by decide)
    refine lv_bipush (v := 80) hx hb dRG_countApart_24 (by decide) ?_
    refine z_iadd hx hb dRG_countApart_26 E (fun k5 ek5 E => ?_)
    have r_k5 : zr 80 272 k5 := zr_add r_k4 (show zr 80 80 80 from by decide) ek5 (by decide)
    refine z_icmp_lt (tgt := 60) hx hb dRG_countApart_27 (by decide) E (fun c_27 E => ?_) (fun c_27 E => ?_)
    · have r_k2 : zr (-2147483648) 271 k2 := zlt_x (zr_any k2) r_k5 c_27 (by decide)
      rw [hQe]
      exact W.vret hx hb hr (fun t ht hW => ⟨⟨S, rfl, ⟨E.symm.trans etg, gS⟩, by rw [ht]; exact hP, hD⟩, hS.F ht⟩) hS.2.2 dRG_countApart_60
    · have r_k2 : zr 80 2147483647 k2 := zle_y r_k5 (zr_any k2) (znlt c_27) (by decide)
      refine lv_aload_n hx hb dRG_countApart_30 rfl (lv_at hl 0 rfl) ?_
      refine c_getO_RG_protocol hx hb (hB.words zU_RG) hown hK hP (hB.word (zm1 k1_238) rfl) dRG_countApart_31 ?_
      refine zcallp (va_runV (As := []) (rest := []) ⟨hx, hb, hml, hown, zno⟩ (tPR_hasAnyCommand l dC dI cI cZ cJ cA a0 s0 o b P S s.heap.size gP gS) (zcw 0 (hB.word (zm4 k4_14) rfl) (hB.word (zm1 k1_6) rfl) (hB.word (zm4 k4_11) rfl) (hB.word (zm4 k4_12) rfl) (hB.word (zm4 k4_13) rfl) rfl rfl (by decide +kernel) ⟨Nat.le_of_ble_eq_true rfl, Nat.le_of_ble_eq_true rfl⟩) ⟨zP_blind, va_recv hK hP (ci := 4) (q0 := 4) rfl rfl, zP_pre hP hK hD hAD (zB_on hB hA0 hS)⟩ rfl rfl hl.1 rfl (lv_room (Nat.le_of_ble_eq_true rfl)) dRG_countApart_34 ⟨Nat.le_of_ble_eq_true rfl, Nat.le_of_ble_eq_true rfl⟩) hS hA (fun k7 H6 locs hk7 hz1 hk1 hS => ?_)
      have hP := zKeep hP hk1
      have E := zl_s E hk7.1
      refine z_if_ne (tgt := 60) hx hb dRG_countApart_37 (by decide) E (fun c_37 E => ?_) (fun c_37 E => ?_)
      · have r_k7 : zr 1 1 k7 := zne_lo hk7.2 c_37 (by decide)
        rw [hQe]
        exact W.vret hx hb hr (fun t ht hW => ⟨⟨S, rfl, ⟨E.symm.trans etg, gS⟩, by rw [ht]; exact hP, hD⟩, hS.F ht⟩) hS.2.2 dRG_countApart_60
      · have r_k7 : zr 0 0 k7 := zeq_x (show zr 0 0 0 from by decide) c_37
        refine lv_aload_n hx hb dRG_countApart_40 rfl (lv_at hl 0 rfl) ?_
        refine c_getO_RG_protocol hx hb (hB.words zU_RG) hown hK hP (hB.word (zm1 k1_238) rfl) dRG_countApart_41 ?_
        refine zcallp (va_runV (As := []) (rest := []) ⟨hx, hb, hml, hown, zno⟩ (tPR_hasRingWithTwoFailures l dC dI cI cZ cJ cA a0 s0 o b P S H6.size gP gS) (zcw 0 (hB.word (zm4 k4_18) rfl) (hB.word (zm1 k1_6) rfl) (hB.word (zm4 k4_15) rfl) (hB.word (zm4 k4_16) rfl) (hB.word (zm4 k4_17) rfl) rfl rfl (by decide +kernel) ⟨Nat.le_of_ble_eq_true rfl, Nat.le_of_ble_eq_true rfl⟩) ⟨zP_blind, va_recv hK hP (ci := 4) (q0 := 4) rfl rfl, zP_pre hP hK hD hAD (zB_on hB hA0 hS)⟩ rfl rfl hl.1 rfl (lv_room (Nat.le_of_ble_eq_true rfl)) dRG_countApart_44 ⟨Nat.le_of_ble_eq_true rfl, Nat.le_of_ble_eq_true rfl⟩) hS hA (fun k9 H8 locs hk9 hz1 hk1 hS => ?_)
        have hP := zKeep hP hk1
        have E := zl_s E hk9.1
        refine z_if_ne (tgt := 60) hx hb dRG_countApart_47 (by decide) E (fun c_47 E => ?_) (fun c_47 E => ?_)
        · have r_k9 : zr 1 1 k9 := zne_lo hk9.2 c_47 (by decide)
          rw [hQe]
          exact W.vret hx hb hr (fun t ht hW => ⟨⟨S, rfl, ⟨E.symm.trans etg, gS⟩, by rw [ht]; exact hP, hD⟩, hS.F ht⟩) hS.2.2 dRG_countApart_60
        · have r_k9 : zr 0 0 k9 := zeq_x (show zr 0 0 0 from by decide) c_47
          refine lv_aload_n hx hb dRG_countApart_50 rfl (lv_at hl 0 rfl) ?_
          refine lv_dup hx hb dRG_countApart_51 rfl ?_
          refine c_get_8 hx hb (hB.words zU_RG) hown hK hP (hB.word (zm2 k2_7) rfl) dRG_countApart_52 E (fun k10 ek10 E => ?_)
          refine lv_iconst (v := 1) hx hb dRG_countApart_55 (by decide) ?_
          refine z_iadd hx hb dRG_countApart_56 E (fun k11 ek11 E => ?_)
          refine c_put_8 hx hb (hB.words zU_RG) hown hK hP hD hS (hB.word (zm2 k2_7) rfl) dRG_countApart_57 E (fun S12 H13 locs eS12 E hP hD hS => ?_)
          have gS12 : cok S12 := by rw [eS12]; exact gS.setI (t := 8) (zr_any k11)
          rw [hQe]
          exact W.vret hx hb hr (fun t ht hW => ⟨⟨S12, rfl, ⟨E.symm.trans etg, gS12⟩, by rw [ht]; exact hP, hD⟩, hS.F ht⟩) hS.2.2 dRG_countApart_60
noncomputable def fRG_countStirs (P S : ZS) : Int32 := zl (S.I 10) (fun k1 => zl (S.I 9) (fun k2 => zl (k1 + k2) (fun k3 => k3)))
set_option maxHeartbeats 4000000 in
set_option maxRecDepth 100000 in
theorem tRG_countStirs (l : Launch) (dC : Nat → ClassId) (dI : Nat → Nat → Nat) (cI cZ cJ cA : ClassId) (a0 : Array Value) (s0 : State) (o b : Nat → Nat) (P S : ZS) (sz : Nat) (gP : cok P) (gS : cok S) : Met l yRG_countStirs [Cond.code yRG_countStirs bRG_countStirs 1 (some .int)] ({ frames := 0, cells := 0, slots := 0, locals := 0 } : Room) (zP zCl dC dI (zTZ cI cZ cJ cA) a0 s0 [.ref (o 0)] sz (CW cI cZ cA o b P S)) (zQp (fun r => r = fRG_countStirs P S  ∧ True) sz) 0 0 (zN sz) := by
  refine Met.ofW (cc := bRG_countStirs) (maxL := 1) (ret := (some .int)) (by decide) rfl ?_
  intro p e s m args below meth c s₁ B hml hv
  obtain ⟨rfl, hsz, hP, hK, hD0, hB⟩ := hv
  have hx := B.exec
  have hb := B.bytes
  have hr := B.returns
  have hown : s.vm.findClass "RingGuard" = some m.cls := findClass_of_methodNamed B.named
  have hlocks := B.notSynchronized
  subst hsz
  have hD := hD0
  have hA0 : ∀ q, zN s.heap.size q → s0.heap.size ≤ q := zA1 hB
  have hAD : ∀ q, zN s0.heap.size q → s0.heap.size ≤ q := fun _ h => h
  have hA : ∀ q : Nat, s.heap.size ≤ q → zN s.heap.size q := fun _ h => h
  have hS : va_S (zN s.heap.size) s.heap s.heap [] := va_S.rf
  have hl := lv_entry ([.ref (o 0)]) (n := 1) (Nat.le_of_ble_eq_true rfl)
  rw [lg_entry_eq]
  generalize (lg_sl ([.ref (o 0)]) ++ List.replicate (1 - (lg_sl ([.ref (o 0)])).length) Slot.unset).toArray = ls at hl ⊢
  have hl : lv_has ls 1 [(0, .ref (o 0))] := hl
  refine zgenQ (fun Q hQe => ?_)
  obtain ⟨tg, etg⟩ : ∃ z, z = fRG_countStirs P S  := ⟨_, rfl⟩
  have E := etg
  unfold fRG_countStirs at E
  refine lv_aload_n hx hb dRG_countStirs_0 rfl (lv_at hl 0 rfl) ?_
  refine c_getO_RG_protocol hx hb (hB.words zU_RG) hown hK hP (hB.word (zm1 k1_238) rfl) dRG_countStirs_1 ?_
  refine c_get_10 hx hb (hB.words zU_PR) hown hK hP (hB.word (zm1 k1_147) rfl) dRG_countStirs_4 E (fun k1 ek1 E => ?_)
  refine lv_aload_n hx hb dRG_countStirs_7 rfl (lv_at hl 0 rfl) ?_
  refine c_getO_RG_wires hx hb (hB.words zU_RG) hown hK hP (hB.word (zm1 k1_236) rfl) dRG_countStirs_8 ?_
  refine c_get_9 hx hb (hB.words zU_WI) hown hK hP (hB.word (zm1 k1_97) rfl) dRG_countStirs_11 E (fun k2 ek2 E => ?_)
  refine z_iadd hx hb dRG_countStirs_14 E (fun k3 ek3 E => ?_)
  rw [hQe]
  exact W.iret (v := k3) hx hb hr (fun t ht hW => ⟨⟨k3, (), rfl, ⟨E.symm.trans etg, trivial⟩, trivial⟩, hS.F ht⟩) hS.2.2 dRG_countStirs_15
