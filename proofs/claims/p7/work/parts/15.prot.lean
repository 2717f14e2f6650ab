theorem k1_4 : tables_1_1[4]? = some (Jvm.Cond.initialized "RingGuard$Wires") := by decide +kernel
theorem k1_5 : tables_1_1[5]? = some (Jvm.Cond.initialized "RingGuard$Tables") := by decide +kernel
theorem k1_6 : tables_1_1[6]? = some (Jvm.Cond.initialized "RingGuard$Protocol") := by decide +kernel
theorem k1_15 : tables_1_1[15]? = some (Jvm.Cond.initialized "RingGuard$Cast") := by decide +kernel
theorem k1_36 : tables_1_1[36]? = some (Jvm.Cond.fieldLink "RingGuard$Protocol" (104 : Nat) "RingGuard$Plan" "bridgeCount" "I") := by decide +kernel
theorem k1_40 : tables_1_1[40]? = some (Jvm.Cond.fieldLink "RingGuard$Protocol" (110 : Nat) "RingGuard$Plan" "linkCount" "I") := by decide +kernel
theorem k1_46 : tables_1_1[46]? = some (Jvm.Cond.fieldLink "RingGuard$Protocol" (116 : Nat) "RingGuard$Plan" "ringOf" "[I") := by decide +kernel
theorem k1_53 : tables_1_1[53]? = some (Jvm.Cond.fieldLink "RingGuard$Protocol" (74 : Nat) "RingGuard$Plan" "placeOf" "[I") := by decide +kernel
theorem k1_55 : tables_1_1[55]? = some (Jvm.Cond.fieldLink "RingGuard$Protocol" (61 : Nat) "RingGuard$Plan" "ownerPort" "[I") := by decide +kernel
theorem k1_57 : tables_1_1[57]? = some (Jvm.Cond.fieldLink "RingGuard$Protocol" (94 : Nat) "RingGuard$Plan" "portsAt" "[I") := by decide +kernel
theorem k1_125 : tables_1_1[125]? = some (Jvm.Cond.instantiable "RingGuard$Protocol" (14 : Nat)) := by decide +kernel
theorem k1_130 : tables_1_1[130]? = some (Jvm.Cond.fieldLink "RingGuard$Protocol" (45 : Nat) "RingGuard$Protocol" "plan" "LRingGuard$Plan;") := by decide +kernel
theorem k1_131 : tables_1_1[131]? = some (Jvm.Cond.fieldLink "RingGuard$Protocol" (49 : Nat) "RingGuard$Protocol" "wires" "LRingGuard$Wires;") := by decide +kernel
theorem k1_132 : tables_1_1[132]? = some (Jvm.Cond.fieldLink "RingGuard$Protocol" (53 : Nat) "RingGuard$Protocol" "tables" "LRingGuard$Tables;") := by decide +kernel
theorem k1_133 : tables_1_1[133]? = some (Jvm.Cond.fieldLink "RingGuard$Protocol" (9 : Nat) "RingGuard$Protocol" "holdsOf" "[I") := by decide +kernel
theorem k1_135 : tables_1_1[135]? = some (Jvm.Cond.fieldLink "RingGuard$Protocol" (15 : Nat) "RingGuard$Protocol" "guard" "[I") := by decide +kernel
theorem k1_137 : tables_1_1[137]? = some (Jvm.Cond.fieldLink "RingGuard$Protocol" (18 : Nat) "RingGuard$Protocol" "phase" "[I") := by decide +kernel
theorem k1_138 : tables_1_1[138]? = some (Jvm.Cond.fieldLink "RingGuard$Protocol" (21 : Nat) "RingGuard$Protocol" "clock" "[I") := by decide +kernel
theorem k1_143 : tables_1_1[143]? = some (Jvm.Cond.fieldLink "RingGuard$Protocol" (35 : Nat) "RingGuard$Protocol" "greatestTold" "[I") := by decide +kernel
theorem k1_144 : tables_1_1[144]? = some (Jvm.Cond.fieldLink "RingGuard$Protocol" (38 : Nat) "RingGuard$Protocol" "flushCount" "[I") := by decide +kernel
theorem k1_146 : tables_1_1[146]? = some (Jvm.Cond.fieldLink "RingGuard$Protocol" (100 : Nat) "RingGuard$Protocol" "stirs" "I") := by decide +kernel
theorem k1_148 : tables_1_1[148]? = some (Jvm.Cond.fieldLink "RingGuard$Protocol" (41 : Nat) "RingGuard$Protocol" "holdsChanged" "Z") := by decide +kernel
theorem k3_21 : tables_1_3[21]? = some (Jvm.Cond.methodLink "RingGuard$Protocol" (70 : Nat) ({ cls := "RingGuard$Protocol", name := "setHolds", desc := "(II)V" } : Jvm.MethodName)) := by decide +kernel
theorem k3_22 : tables_1_3[22]? = some (Jvm.Cond.privateMethod ({ cls := "RingGuard$Protocol", name := "setHolds", desc := "(II)V" } : Jvm.MethodName)) := by decide +kernel
theorem k3_23 : tables_1_3[23]? = some (Jvm.Cond.instanceMethod ({ cls := "RingGuard$Protocol", name := "setHolds", desc := "(II)V" } : Jvm.MethodName)) := by decide +kernel
theorem k3_24 : tables_1_3[24]? = some (Jvm.Cond.code ({ cls := "RingGuard$Protocol", name := "setHolds", desc := "(II)V" } : Jvm.MethodName) prog_6_method_12_code (3 : Nat) (Option.none : Option Jvm.ClassFile.FieldType)) := rfl
theorem k3_29 : tables_1_3[29]? = some (Jvm.Cond.methodLink "RingGuard$Protocol" (170 : Nat) ({ cls := "RingGuard$Tables", name := "forgetAll", desc := "(I)V" } : Jvm.MethodName)) := by decide +kernel
theorem k3_30 : tables_1_3[30]? = some (Jvm.Cond.instanceMethod ({ cls := "RingGuard$Tables", name := "forgetAll", desc := "(I)V" } : Jvm.MethodName)) := by decide +kernel
theorem k3_31 : tables_1_3[31]? = some (Jvm.Cond.selects "RingGuard$Tables" ({ cls := "RingGuard$Tables", name := "forgetAll", desc := "(I)V" } : Jvm.MethodName) ({ cls := "RingGuard$Tables", name := "forgetAll", desc := "(I)V" } : Jvm.MethodName)) := by decide +kernel
theorem k3_32 : tables_1_3[32]? = some (Jvm.Cond.code ({ cls := "RingGuard$Tables", name := "forgetAll", desc := "(I)V" } : Jvm.MethodName) prog_7_method_4_code (2 : Nat) (Option.none : Option Jvm.ClassFile.FieldType)) := rfl
theorem k3_33 : tables_1_3[33]? = some (Jvm.Cond.methodLink "RingGuard$Protocol" (175 : Nat) ({ cls := "RingGuard$Cast", name := "of", desc := "(IIII)I" } : Jvm.MethodName)) := by decide +kernel
theorem k3_34 : tables_1_3[34]? = some (Jvm.Cond.static ({ cls := "RingGuard$Cast", name := "of", desc := "(IIII)I" } : Jvm.MethodName)) := by decide +kernel
theorem k3_35 : tables_1_3[35]? = some (Jvm.Cond.code ({ cls := "RingGuard$Cast", name := "of", desc := "(IIII)I" } : Jvm.MethodName) prog_2_method_2_code (4 : Nat) (Option.some Jvm.ClassFile.FieldType.int)) := rfl
theorem k3_36 : tables_1_3[36]? = some (Jvm.Cond.methodLink "RingGuard$Protocol" (179 : Nat) ({ cls := "RingGuard$Protocol", name := "putFromPorts", desc := "(II)V" } : Jvm.MethodName)) := by decide +kernel
theorem k3_37 : tables_1_3[37]? = some (Jvm.Cond.privateMethod ({ cls := "RingGuard$Protocol", name := "putFromPorts", desc := "(II)V" } : Jvm.MethodName)) := by decide +kernel
theorem k3_38 : tables_1_3[38]? = some (Jvm.Cond.instanceMethod ({ cls := "RingGuard$Protocol", name := "putFromPorts", desc := "(II)V" } : Jvm.MethodName)) := by decide +kernel
theorem k3_39 : tables_1_3[39]? = some (Jvm.Cond.code ({ cls := "RingGuard$Protocol", name := "putFromPorts", desc := "(II)V" } : Jvm.MethodName) prog_6_method_26_code (5 : Nat) (Option.none : Option Jvm.ClassFile.FieldType)) := rfl
theorem k3_40 : tables_1_3[40]? = some (Jvm.Cond.methodLink "RingGuard$Protocol" (57 : Nat) ({ cls := "RingGuard$Protocol", name := "isDown", desc := "(I)Z" } : Jvm.MethodName)) := by decide +kernel
theorem k3_41 : tables_1_3[41]? = some (Jvm.Cond.privateMethod ({ cls := "RingGuard$Protocol", name := "isDown", desc := "(I)Z" } : Jvm.MethodName)) := by decide +kernel
theorem k3_42 : tables_1_3[42]? = some (Jvm.Cond.instanceMethod ({ cls := "RingGuard$Protocol", name := "isDown", desc := "(I)Z" } : Jvm.MethodName)) := by decide +kernel
theorem k3_43 : tables_1_3[43]? = some (Jvm.Cond.code ({ cls := "RingGuard$Protocol", name := "isDown", desc := "(I)Z" } : Jvm.MethodName) prog_6_method_4_code (2 : Nat) (Option.some Jvm.ClassFile.FieldType.boolean)) := rfl
theorem k3_44 : tables_1_3[44]? = some (Jvm.Cond.methodLink "RingGuard$Protocol" (146 : Nat) ({ cls := "RingGuard$Wires", name := "put", desc := "(II)V" } : Jvm.MethodName)) := by decide +kernel
theorem k3_45 : tables_1_3[45]? = some (Jvm.Cond.instanceMethod ({ cls := "RingGuard$Wires", name := "put", desc := "(II)V" } : Jvm.MethodName)) := by decide +kernel
theorem k3_46 : tables_1_3[46]? = some (Jvm.Cond.selects "RingGuard$Wires" ({ cls := "RingGuard$Wires", name := "put", desc := "(II)V" } : Jvm.MethodName) ({ cls := "RingGuard$Wires", name := "put", desc := "(II)V" } : Jvm.MethodName)) := by decide +kernel
theorem k3_47 : tables_1_3[47]? = some (Jvm.Cond.code ({ cls := "RingGuard$Wires", name := "put", desc := "(II)V" } : Jvm.MethodName) prog_8_method_2_code (4 : Nat) (Option.none : Option Jvm.ClassFile.FieldType)) := rfl
theorem k3_61 : tables_1_3[61]? = some (Jvm.Cond.instanceMethod ({ cls := "RingGuard$Protocol", name := "hasFailed", desc := "(I)Z" } : Jvm.MethodName)) := by decide +kernel
theorem k3_62 : tables_1_3[62]? = some (Jvm.Cond.selects "RingGuard$Protocol" ({ cls := "RingGuard$Protocol", name := "hasFailed", desc := "(I)Z" } : Jvm.MethodName) ({ cls := "RingGuard$Protocol", name := "hasFailed", desc := "(I)Z" } : Jvm.MethodName)) := by decide +kernel
theorem k3_63 : tables_1_3[63]? = some (Jvm.Cond.code ({ cls := "RingGuard$Protocol", name := "hasFailed", desc := "(I)Z" } : Jvm.MethodName) prog_6_method_2_code (2 : Nat) (Option.some Jvm.ClassFile.FieldType.boolean)) := rfl
theorem k3_72 : tables_1_3[72]? = some (Jvm.Cond.methodLink "RingGuard$Protocol" (97 : Nat) ({ cls := "RingGuard$Protocol", name := "endOwnerHold", desc := "(I)V" } : Jvm.MethodName)) := by decide +kernel
theorem k3_73 : tables_1_3[73]? = some (Jvm.Cond.privateMethod ({ cls := "RingGuard$Protocol", name := "endOwnerHold", desc := "(I)V" } : Jvm.MethodName)) := by decide +kernel
theorem k3_74 : tables_1_3[74]? = some (Jvm.Cond.instanceMethod ({ cls := "RingGuard$Protocol", name := "endOwnerHold", desc := "(I)V" } : Jvm.MethodName)) := by decide +kernel
theorem k3_75 : tables_1_3[75]? = some (Jvm.Cond.code ({ cls := "RingGuard$Protocol", name := "endOwnerHold", desc := "(I)V" } : Jvm.MethodName) prog_6_method_15_code (3 : Nat) (Option.none : Option Jvm.ClassFile.FieldType)) := rfl
theorem k3_76 : tables_1_3[76]? = some (Jvm.Cond.methodLink "RingGuard$Protocol" (107 : Nat) ({ cls := "RingGuard$Plan", name := "isOwner", desc := "(I)Z" } : Jvm.MethodName)) := by decide +kernel
theorem k3_77 : tables_1_3[77]? = some (Jvm.Cond.instanceMethod ({ cls := "RingGuard$Plan", name := "isOwner", desc := "(I)Z" } : Jvm.MethodName)) := by decide +kernel
theorem k3_78 : tables_1_3[78]? = some (Jvm.Cond.selects "RingGuard$Plan" ({ cls := "RingGuard$Plan", name := "isOwner", desc := "(I)Z" } : Jvm.MethodName) ({ cls := "RingGuard$Plan", name := "isOwner", desc := "(I)Z" } : Jvm.MethodName)) := by decide +kernel
theorem k3_79 : tables_1_3[79]? = some (Jvm.Cond.code ({ cls := "RingGuard$Plan", name := "isOwner", desc := "(I)Z" } : Jvm.MethodName) prog_5_method_5_code (2 : Nat) (Option.some Jvm.ClassFile.FieldType.boolean)) := rfl
theorem k3_105 : tables_1_3[105]? = some (Jvm.Cond.methodLink "RingGuard$Protocol" (84 : Nat) ({ cls := "RingGuard$Protocol", name := "endHold", desc := "(II)V" } : Jvm.MethodName)) := by decide +kernel
theorem k3_106 : tables_1_3[106]? = some (Jvm.Cond.privateMethod ({ cls := "RingGuard$Protocol", name := "endHold", desc := "(II)V" } : Jvm.MethodName)) := by decide +kernel
theorem k3_107 : tables_1_3[107]? = some (Jvm.Cond.instanceMethod ({ cls := "RingGuard$Protocol", name := "endHold", desc := "(II)V" } : Jvm.MethodName)) := by decide +kernel
theorem k3_108 : tables_1_3[108]? = some (Jvm.Cond.code ({ cls := "RingGuard$Protocol", name := "endHold", desc := "(II)V" } : Jvm.MethodName) prog_6_method_14_code (3 : Nat) (Option.none : Option Jvm.ClassFile.FieldType)) := rfl
theorem k3_138 : tables_1_3[138]? = some (Jvm.Cond.methodLink "RingGuard$Protocol" (90 : Nat) ({ cls := "RingGuard$Protocol", name := "commandPort", desc := "(I)I" } : Jvm.MethodName)) := by decide +kernel
theorem k3_139 : tables_1_3[139]? = some (Jvm.Cond.privateMethod ({ cls := "RingGuard$Protocol", name := "commandPort", desc := "(I)I" } : Jvm.MethodName)) := by decide +kernel
theorem k3_140 : tables_1_3[140]? = some (Jvm.Cond.instanceMethod ({ cls := "RingGuard$Protocol", name := "commandPort", desc := "(I)I" } : Jvm.MethodName)) := by decide +kernel
theorem k3_141 : tables_1_3[141]? = some (Jvm.Cond.code ({ cls := "RingGuard$Protocol", name := "commandPort", desc := "(I)I" } : Jvm.MethodName) prog_6_method_11_code (4 : Nat) (Option.some Jvm.ClassFile.FieldType.int)) := rfl
theorem k4_19 : tables_1_4[19]? = some (Jvm.Cond.methodLink "RingGuard$Protocol" (113 : Nat) ({ cls := "RingGuard$Protocol", name := "hasFailed", desc := "(I)Z" } : Jvm.MethodName)) := by decide +kernel
abbrev yPR_isDown : MethodName := ⟨"RingGuard$Protocol", "isDown", "(I)Z"⟩
abbrev bPR_isDown : ByteArray := prog_6_method_4_code
abbrev yPR_hasFailed : MethodName := ⟨"RingGuard$Protocol", "hasFailed", "(I)Z"⟩
abbrev bPR_hasFailed : ByteArray := prog_6_method_2_code
abbrev yPR_isOpen : MethodName := ⟨"RingGuard$Protocol", "isOpen", "(I)Z"⟩
abbrev bPR_isOpen : ByteArray := prog_6_method_3_code
abbrev yPR_setHolds : MethodName := ⟨"RingGuard$Protocol", "setHolds", "(II)V"⟩
abbrev bPR_setHolds : ByteArray := prog_6_method_12_code
abbrev yPR_commandPort : MethodName := ⟨"RingGuard$Protocol", "commandPort", "(I)I"⟩
abbrev bPR_commandPort : ByteArray := prog_6_method_11_code
abbrev yPR_endHold : MethodName := ⟨"RingGuard$Protocol", "endHold", "(II)V"⟩
abbrev bPR_endHold : ByteArray := prog_6_method_14_code
abbrev yPR_endCommand : MethodName := ⟨"RingGuard$Protocol", "endCommand", "(I)Z"⟩
abbrev bPR_endCommand : ByteArray := prog_6_method_10_code
abbrev yPR_endOwnerHold : MethodName := ⟨"RingGuard$Protocol", "endOwnerHold", "(I)V"⟩
abbrev bPR_endOwnerHold : ByteArray := prog_6_method_15_code
abbrev yPR_beginHold : MethodName := ⟨"RingGuard$Protocol", "beginHold", "(II)V"⟩
abbrev bPR_beginHold : ByteArray := prog_6_method_13_code
abbrev yPR_endWaiting : MethodName := ⟨"RingGuard$Protocol", "endWaiting", "(I)V"⟩
abbrev bPR_endWaiting : ByteArray := prog_6_method_16_code
abbrev yPR_allHolds : MethodName := ⟨"RingGuard$Protocol", "allHolds", "(I)I"⟩
abbrev bPR_allHolds : ByteArray := prog_6_method_17_code
abbrev yPR_hasAnyCommand : MethodName := ⟨"RingGuard$Protocol", "hasAnyCommand", "()Z"⟩
abbrev bPR_hasAnyCommand : ByteArray := prog_6_method_18_code
abbrev yPR_hasRingWithTwoFailures : MethodName := ⟨"RingGuard$Protocol", "hasRingWithTwoFailures", "()Z"⟩
abbrev bPR_hasRingWithTwoFailures : ByteArray := prog_6_method_19_code
abbrev yPR_putFromPorts : MethodName := ⟨"RingGuard$Protocol", "putFromPorts", "(II)V"⟩
abbrev bPR_putFromPorts : ByteArray := prog_6_method_26_code
abbrev yPR_takeNews : MethodName := ⟨"RingGuard$Protocol", "takeNews", "(III)V"⟩
abbrev bPR_takeNews : ByteArray := prog_6_method_25_code
theorem dPR_allHolds_0 : decode bPR_allHolds 0 = .ok (.iconst 0, 1) := by decide +kernel
theorem dPR_allHolds_1 : decode bPR_allHolds 1 = .ok (.istore_n 2, 1) := by decide +kernel
theorem dPR_allHolds_2 : decode bPR_allHolds 2 = .ok (.iconst 2, 1) := by decide +kernel
theorem dPR_allHolds_3 : decode bPR_allHolds 3 = .ok (.iload_n 1, 1) := by decide +kernel
theorem dPR_allHolds_4 : decode bPR_allHolds 4 = .ok (.imul, 1) := by decide +kernel
theorem dPR_allHolds_5 : decode bPR_allHolds 5 = .ok (.istore_n 3, 1) := by decide +kernel
theorem dPR_allHolds_6 : decode bPR_allHolds 6 = .ok (.iload_n 3, 1) := by decide +kernel
theorem dPR_allHolds_7 : decode bPR_allHolds 7 = .ok (.iconst 2, 1) := by decide +kernel
theorem dPR_allHolds_8 : decode bPR_allHolds 8 = .ok (.iload_n 1, 1) := by decide +kernel
theorem dPR_allHolds_9 : decode bPR_allHolds 9 = .ok (.imul, 1) := by decide +kernel
theorem dPR_allHolds_10 : decode bPR_allHolds 10 = .ok (.iconst 1, 1) := by decide +kernel
theorem dPR_allHolds_11 : decode bPR_allHolds 11 = .ok (.iadd, 1) := by decide +kernel
theorem dPR_allHolds_12 : decode bPR_allHolds 12 = .ok (.if_icmp .gt 40, 3) := by decide +kernel
theorem dPR_allHolds_15 : decode bPR_allHolds 15 = .ok (.aload_n 0, 1) := by decide +kernel
theorem dPR_allHolds_16 : decode bPR_allHolds 16 = .ok (.getfield 45, 3) := by decide +kernel
theorem dPR_allHolds_19 : decode bPR_allHolds 19 = .ok (.getfield 94, 3) := by decide +kernel
theorem dPR_allHolds_22 : decode bPR_allHolds 22 = .ok (.iload_n 3, 1) := by decide +kernel
theorem dPR_allHolds_23 : decode bPR_allHolds 23 = .ok (.iaload, 1) := by decide +kernel
theorem dPR_allHolds_24 : decode bPR_allHolds 24 = .ok (.istore 4, 2) := by decide +kernel
theorem dPR_allHolds_26 : decode bPR_allHolds 26 = .ok (.iload_n 2, 1) := by decide +kernel
theorem dPR_allHolds_27 : decode bPR_allHolds 27 = .ok (.iload 4, 2) := by decide +kernel
theorem dPR_allHolds_29 : decode bPR_allHolds 29 = .ok (.iconst (-1), 1) := by decide +kernel
theorem dPR_allHolds_30 : decode bPR_allHolds 30 = .ok (.if_icmp .ne 7, 3) := by decide +kernel
theorem dPR_allHolds_33 : decode bPR_allHolds 33 = .ok (.iconst 0, 1) := by decide +kernel
theorem dPR_allHolds_34 : decode bPR_allHolds 34 = .ok (.goto 10, 3) := by decide +kernel
theorem dPR_allHolds_37 : decode bPR_allHolds 37 = .ok (.aload_n 0, 1) := by decide +kernel
theorem dPR_allHolds_38 : decode bPR_allHolds 38 = .ok (.getfield 9, 3) := by decide +kernel
theorem dPR_allHolds_41 : decode bPR_allHolds 41 = .ok (.iload 4, 2) := by decide +kernel
theorem dPR_allHolds_43 : decode bPR_allHolds 43 = .ok (.iaload, 1) := by decide +kernel
theorem dPR_allHolds_44 : decode bPR_allHolds 44 = .ok (.ior, 1) := by decide +kernel
theorem dPR_allHolds_45 : decode bPR_allHolds 45 = .ok (.istore_n 2, 1) := by decide +kernel
theorem dPR_allHolds_46 : decode bPR_allHolds 46 = .ok (.iinc 3 1, 3) := by decide +kernel
theorem dPR_allHolds_49 : decode bPR_allHolds 49 = .ok (.goto (-43), 3) := by decide +kernel
theorem dPR_allHolds_52 : decode bPR_allHolds 52 = .ok (.iload_n 2, 1) := by decide +kernel
theorem dPR_allHolds_53 : decode bPR_allHolds 53 = .ok (.ireturn, 1) := by decide +kernel
theorem dPR_beginHold_0 : decode bPR_beginHold 0 = .ok (.aload_n 0, 1) := by decide +kernel
theorem dPR_beginHold_1 : decode bPR_beginHold 1 = .ok (.iload_n 1, 1) := by decide +kernel
theorem dPR_beginHold_2 : decode bPR_beginHold 2 = .ok (.aload_n 0, 1) := by decide +kernel
theorem dPR_beginHold_3 : decode bPR_beginHold 3 = .ok (.getfield 9, 3) := by decide +kernel
theorem dPR_beginHold_6 : decode bPR_beginHold 6 = .ok (.iload_n 1, 1) := by decide +kernel
theorem dPR_beginHold_7 : decode bPR_beginHold 7 = .ok (.iaload, 1) := by decide +kernel
theorem dPR_beginHold_8 : decode bPR_beginHold 8 = .ok (.iload_n 2, 1) := by decide +kernel
theorem dPR_beginHold_9 : decode bPR_beginHold 9 = .ok (.ior, 1) := by decide +kernel
theorem dPR_beginHold_10 : decode bPR_beginHold 10 = .ok (.invokevirtual 70, 3) := by decide +kernel
theorem dPR_beginHold_13 : decode bPR_beginHold 13 = .ok (.aload_n 0, 1) := by decide +kernel
theorem dPR_beginHold_14 : decode bPR_beginHold 14 = .ok (.aload_n 0, 1) := by decide +kernel
theorem dPR_beginHold_15 : decode bPR_beginHold 15 = .ok (.getfield 45, 3) := by decide +kernel
theorem dPR_beginHold_18 : decode bPR_beginHold 18 = .ok (.getfield 74, 3) := by decide +kernel
theorem dPR_beginHold_21 : decode bPR_beginHold 21 = .ok (.iload_n 1, 1) := by decide +kernel
theorem dPR_beginHold_22 : decode bPR_beginHold 22 = .ok (.iaload, 1) := by decide +kernel
theorem dPR_beginHold_23 : decode bPR_beginHold 23 = .ok (.invokevirtual 97, 3) := by decide +kernel
theorem dPR_beginHold_26 : decode bPR_beginHold 26 = .ok (.aload_n 0, 1) := by decide +kernel
theorem dPR_beginHold_27 : decode bPR_beginHold 27 = .ok (.dup, 1) := by decide +kernel
theorem dPR_beginHold_28 : decode bPR_beginHold 28 = .ok (.getfield 100, 3) := by decide +kernel
theorem dPR_beginHold_31 : decode bPR_beginHold 31 = .ok (.iconst 1, 1) := by decide +kernel
theorem dPR_beginHold_32 : decode bPR_beginHold 32 = .ok (.iadd, 1) := by decide +kernel
theorem dPR_beginHold_33 : decode bPR_beginHold 33 = .ok (.putfield 100, 3) := by decide +kernel
theorem dPR_beginHold_36 : decode bPR_beginHold 36 = .ok (.return_, 1) := by decide +kernel
theorem dPR_commandPort_0 : decode bPR_commandPort 0 = .ok (.iconst 2, 1) := by decide +kernel
theorem dPR_commandPort_1 : decode bPR_commandPort 1 = .ok (.iload_n 1, 1) := by decide +kernel
theorem dPR_commandPort_2 : decode bPR_commandPort 2 = .ok (.imul, 1) := by decide +kernel
theorem dPR_commandPort_3 : decode bPR_commandPort 3 = .ok (.istore_n 2, 1) := by decide +kernel
theorem dPR_commandPort_4 : decode bPR_commandPort 4 = .ok (.iload_n 2, 1) := by decide +kernel
theorem dPR_commandPort_5 : decode bPR_commandPort 5 = .ok (.iconst 2, 1) := by decide +kernel
theorem dPR_commandPort_6 : decode bPR_commandPort 6 = .ok (.iload_n 1, 1) := by decide +kernel
theorem dPR_commandPort_7 : decode bPR_commandPort 7 = .ok (.imul, 1) := by decide +kernel
theorem dPR_commandPort_8 : decode bPR_commandPort 8 = .ok (.iconst 1, 1) := by decide +kernel
theorem dPR_commandPort_9 : decode bPR_commandPort 9 = .ok (.iadd, 1) := by decide +kernel
theorem dPR_commandPort_10 : decode bPR_commandPort 10 = .ok (.if_icmp .gt 38, 3) := by decide +kernel
theorem dPR_commandPort_13 : decode bPR_commandPort 13 = .ok (.aload_n 0, 1) := by decide +kernel
theorem dPR_commandPort_14 : decode bPR_commandPort 14 = .ok (.getfield 45, 3) := by decide +kernel
theorem dPR_commandPort_17 : decode bPR_commandPort 17 = .ok (.getfield 94, 3) := by decide +kernel
theorem dPR_commandPort_20 : decode bPR_commandPort 20 = .ok (.iload_n 2, 1) := by decide +kernel
theorem dPR_commandPort_21 : decode bPR_commandPort 21 = .ok (.iaload, 1) := by decide +kernel
theorem dPR_commandPort_22 : decode bPR_commandPort 22 = .ok (.istore_n 3, 1) := by decide +kernel
theorem dPR_commandPort_23 : decode bPR_commandPort 23 = .ok (.iload_n 3, 1) := by decide +kernel
theorem dPR_commandPort_24 : decode bPR_commandPort 24 = .ok (.iconst (-1), 1) := by decide +kernel
theorem dPR_commandPort_25 : decode bPR_commandPort 25 = .ok (.if_icmp .eq 17, 3) := by decide +kernel
theorem dPR_commandPort_28 : decode bPR_commandPort 28 = .ok (.aload_n 0, 1) := by decide +kernel
theorem dPR_commandPort_29 : decode bPR_commandPort 29 = .ok (.getfield 9, 3) := by decide +kernel
theorem dPR_commandPort_32 : decode bPR_commandPort 32 = .ok (.iload_n 3, 1) := by decide +kernel
theorem dPR_commandPort_33 : decode bPR_commandPort 33 = .ok (.iaload, 1) := by decide +kernel
theorem dPR_commandPort_34 : decode bPR_commandPort 34 = .ok (.bipush 6, 2) := by decide +kernel
theorem dPR_commandPort_36 : decode bPR_commandPort 36 = .ok (.iand, 1) := by decide +kernel
theorem dPR_commandPort_37 : decode bPR_commandPort 37 = .ok (.ifCond .eq 5, 3) := by decide +kernel
theorem dPR_commandPort_40 : decode bPR_commandPort 40 = .ok (.iload_n 3, 1) := by decide +kernel
theorem dPR_commandPort_41 : decode bPR_commandPort 41 = .ok (.ireturn, 1) := by decide +kernel
theorem dPR_commandPort_42 : decode bPR_commandPort 42 = .ok (.iinc 2 1, 3) := by decide +kernel
theorem dPR_commandPort_45 : decode bPR_commandPort 45 = .ok (.goto (-41), 3) := by decide +kernel
theorem dPR_commandPort_48 : decode bPR_commandPort 48 = .ok (.iconst (-1), 1) := by decide +kernel
theorem dPR_commandPort_49 : decode bPR_commandPort 49 = .ok (.ireturn, 1) := by decide +kernel
theorem dPR_endCommand_0 : decode bPR_endCommand 0 = .ok (.aload_n 0, 1) := by decide +kernel
theorem dPR_endCommand_1 : decode bPR_endCommand 1 = .ok (.iload_n 1, 1) := by decide +kernel
theorem dPR_endCommand_2 : decode bPR_endCommand 2 = .ok (.invokevirtual 90, 3) := by decide +kernel
theorem dPR_endCommand_5 : decode bPR_endCommand 5 = .ok (.istore_n 2, 1) := by decide +kernel
theorem dPR_endCommand_6 : decode bPR_endCommand 6 = .ok (.iload_n 2, 1) := by decide +kernel
theorem dPR_endCommand_7 : decode bPR_endCommand 7 = .ok (.iconst (-1), 1) := by decide +kernel
theorem dPR_endCommand_8 : decode bPR_endCommand 8 = .ok (.if_icmp .ne 5, 3) := by decide +kernel
theorem dPR_endCommand_11 : decode bPR_endCommand 11 = .ok (.iconst 0, 1) := by decide +kernel
theorem dPR_endCommand_12 : decode bPR_endCommand 12 = .ok (.ireturn, 1) := by decide +kernel
theorem dPR_endCommand_13 : decode bPR_endCommand 13 = .ok (.aload_n 0, 1) := by decide +kernel
theorem dPR_endCommand_14 : decode bPR_endCommand 14 = .ok (.iload_n 2, 1) := by decide +kernel
theorem dPR_endCommand_15 : decode bPR_endCommand 15 = .ok (.aload_n 0, 1) := by decide +kernel
theorem dPR_endCommand_16 : decode bPR_endCommand 16 = .ok (.getfield 9, 3) := by decide +kernel
theorem dPR_endCommand_19 : decode bPR_endCommand 19 = .ok (.iload_n 2, 1) := by decide +kernel
theorem dPR_endCommand_20 : decode bPR_endCommand 20 = .ok (.iaload, 1) := by decide +kernel
theorem dPR_endCommand_21 : decode bPR_endCommand 21 = .ok (.bipush 6, 2) := by decide +kernel
theorem dPR_endCommand_23 : decode bPR_endCommand 23 = .ok (.iand, 1) := by decide +kernel
theorem dPR_endCommand_24 : decode bPR_endCommand 24 = .ok (.invokevirtual 84, 3) := by decide +kernel
theorem dPR_endCommand_27 : decode bPR_endCommand 27 = .ok (.iconst 1, 1) := by decide +kernel
theorem dPR_endCommand_28 : decode bPR_endCommand 28 = .ok (.ireturn, 1) := by decide +kernel
theorem dPR_endHold_0 : decode bPR_endHold 0 = .ok (.aload_n 0, 1) := by decide +kernel
theorem dPR_endHold_1 : decode bPR_endHold 1 = .ok (.iload_n 1, 1) := by decide +kernel
theorem dPR_endHold_2 : decode bPR_endHold 2 = .ok (.aload_n 0, 1) := by decide +kernel
theorem dPR_endHold_3 : decode bPR_endHold 3 = .ok (.getfield 9, 3) := by decide +kernel
theorem dPR_endHold_6 : decode bPR_endHold 6 = .ok (.iload_n 1, 1) := by decide +kernel
theorem dPR_endHold_7 : decode bPR_endHold 7 = .ok (.iaload, 1) := by decide +kernel
theorem dPR_endHold_8 : decode bPR_endHold 8 = .ok (.iload_n 2, 1) := by decide +kernel
theorem dPR_endHold_9 : decode bPR_endHold 9 = .ok (.iconst (-1), 1) := by decide +kernel
theorem dPR_endHold_10 : decode bPR_endHold 10 = .ok (.ixor, 1) := by decide +kernel
theorem dPR_endHold_11 : decode bPR_endHold 11 = .ok (.iand, 1) := by decide +kernel
theorem dPR_endHold_12 : decode bPR_endHold 12 = .ok (.bipush 8, 2) := by decide +kernel
theorem dPR_endHold_14 : decode bPR_endHold 14 = .ok (.ior, 1) := by decide +kernel
theorem dPR_endHold_15 : decode bPR_endHold 15 = .ok (.invokevirtual 70, 3) := by decide +kernel
theorem dPR_endHold_18 : decode bPR_endHold 18 = .ok (.aload_n 0, 1) := by decide +kernel
theorem dPR_endHold_19 : decode bPR_endHold 19 = .ok (.getfield 15, 3) := by decide +kernel
theorem dPR_endHold_22 : decode bPR_endHold 22 = .ok (.aload_n 0, 1) := by decide +kernel
theorem dPR_endHold_23 : decode bPR_endHold 23 = .ok (.getfield 45, 3) := by decide +kernel
theorem dPR_endHold_26 : decode bPR_endHold 26 = .ok (.getfield 74, 3) := by decide +kernel
theorem dPR_endHold_29 : decode bPR_endHold 29 = .ok (.iload_n 1, 1) := by decide +kernel
theorem dPR_endHold_30 : decode bPR_endHold 30 = .ok (.iaload, 1) := by decide +kernel
theorem dPR_endHold_31 : decode bPR_endHold 31 = .ok (.iconst 2, 1) := by decide +kernel
theorem dPR_endHold_32 : decode bPR_endHold 32 = .ok (.aload_n 0, 1) := by decide +kernel
theorem dPR_endHold_33 : decode bPR_endHold 33 = .ok (.getfield 45, 3) := by decide +kernel
theorem dPR_endHold_36 : decode bPR_endHold 36 = .ok (.getfield 104, 3) := by decide +kernel
theorem dPR_endHold_39 : decode bPR_endHold 39 = .ok (.imul, 1) := by decide +kernel
theorem dPR_endHold_40 : decode bPR_endHold 40 = .ok (.iconst 4, 1) := by decide +kernel
theorem dPR_endHold_41 : decode bPR_endHold 41 = .ok (.iadd, 1) := by decide +kernel
theorem dPR_endHold_42 : decode bPR_endHold 42 = .ok (.iastore, 1) := by decide +kernel
theorem dPR_endHold_43 : decode bPR_endHold 43 = .ok (.aload_n 0, 1) := by decide +kernel
theorem dPR_endHold_44 : decode bPR_endHold 44 = .ok (.dup, 1) := by decide +kernel
theorem dPR_endHold_45 : decode bPR_endHold 45 = .ok (.getfield 100, 3) := by decide +kernel
theorem dPR_endHold_48 : decode bPR_endHold 48 = .ok (.iconst 1, 1) := by decide +kernel
theorem dPR_endHold_49 : decode bPR_endHold 49 = .ok (.iadd, 1) := by decide +kernel
theorem dPR_endHold_50 : decode bPR_endHold 50 = .ok (.putfield 100, 3) := by decide +kernel
theorem dPR_endHold_53 : decode bPR_endHold 53 = .ok (.return_, 1) := by decide +kernel
theorem dPR_endOwnerHold_0 : decode bPR_endOwnerHold 0 = .ok (.aload_n 0, 1) := by decide +kernel
theorem dPR_endOwnerHold_1 : decode bPR_endOwnerHold 1 = .ok (.getfield 45, 3) := by decide +kernel
theorem dPR_endOwnerHold_4 : decode bPR_endOwnerHold 4 = .ok (.iload_n 1, 1) := by decide +kernel
theorem dPR_endOwnerHold_5 : decode bPR_endOwnerHold 5 = .ok (.invokevirtual 107, 3) := by decide +kernel
theorem dPR_endOwnerHold_8 : decode bPR_endOwnerHold 8 = .ok (.ifCond .eq 40, 3) := by decide +kernel
theorem dPR_endOwnerHold_11 : decode bPR_endOwnerHold 11 = .ok (.aload_n 0, 1) := by decide +kernel
theorem dPR_endOwnerHold_12 : decode bPR_endOwnerHold 12 = .ok (.getfield 45, 3) := by decide +kernel
theorem dPR_endOwnerHold_15 : decode bPR_endOwnerHold 15 = .ok (.getfield 61, 3) := by decide +kernel
theorem dPR_endOwnerHold_18 : decode bPR_endOwnerHold 18 = .ok (.iload_n 1, 1) := by decide +kernel
theorem dPR_endOwnerHold_19 : decode bPR_endOwnerHold 19 = .ok (.bipush 6, 2) := by decide +kernel
theorem dPR_endOwnerHold_21 : decode bPR_endOwnerHold 21 = .ok (.irem, 1) := by decide +kernel
theorem dPR_endOwnerHold_22 : decode bPR_endOwnerHold 22 = .ok (.iaload, 1) := by decide +kernel
theorem dPR_endOwnerHold_23 : decode bPR_endOwnerHold 23 = .ok (.istore_n 2, 1) := by decide +kernel
theorem dPR_endOwnerHold_24 : decode bPR_endOwnerHold 24 = .ok (.aload_n 0, 1) := by decide +kernel
theorem dPR_endOwnerHold_25 : decode bPR_endOwnerHold 25 = .ok (.iload_n 2, 1) := by decide +kernel
theorem dPR_endOwnerHold_26 : decode bPR_endOwnerHold 26 = .ok (.aload_n 0, 1) := by decide +kernel
theorem dPR_endOwnerHold_27 : decode bPR_endOwnerHold 27 = .ok (.getfield 9, 3) := by decide +kernel
theorem dPR_endOwnerHold_30 : decode bPR_endOwnerHold 30 = .ok (.iload_n 2, 1) := by decide +kernel
theorem dPR_endOwnerHold_31 : decode bPR_endOwnerHold 31 = .ok (.iaload, 1) := by decide +kernel
theorem dPR_endOwnerHold_32 : decode bPR_endOwnerHold 32 = .ok (.bipush (-17), 2) := by decide +kernel
theorem dPR_endOwnerHold_34 : decode bPR_endOwnerHold 34 = .ok (.iand, 1) := by decide +kernel
theorem dPR_endOwnerHold_35 : decode bPR_endOwnerHold 35 = .ok (.invokevirtual 70, 3) := by decide +kernel
theorem dPR_endOwnerHold_38 : decode bPR_endOwnerHold 38 = .ok (.aload_n 0, 1) := by decide +kernel
theorem dPR_endOwnerHold_39 : decode bPR_endOwnerHold 39 = .ok (.getfield 21, 3) := by decide +kernel
theorem dPR_endOwnerHold_42 : decode bPR_endOwnerHold 42 = .ok (.iload_n 1, 1) := by decide +kernel
theorem dPR_endOwnerHold_43 : decode bPR_endOwnerHold 43 = .ok (.bipush 6, 2) := by decide +kernel
theorem dPR_endOwnerHold_45 : decode bPR_endOwnerHold 45 = .ok (.irem, 1) := by decide +kernel
theorem dPR_endOwnerHold_46 : decode bPR_endOwnerHold 46 = .ok (.iconst 0, 1) := by decide +kernel
theorem dPR_endOwnerHold_47 : decode bPR_endOwnerHold 47 = .ok (.iastore, 1) := by decide +kernel
theorem dPR_endOwnerHold_48 : decode bPR_endOwnerHold 48 = .ok (.return_, 1) := by decide +kernel
theorem dPR_endWaiting_0 : decode bPR_endWaiting 0 = .ok (.iconst 2, 1) := by decide +kernel
theorem dPR_endWaiting_1 : decode bPR_endWaiting 1 = .ok (.iload_n 1, 1) := by decide +kernel
theorem dPR_endWaiting_2 : decode bPR_endWaiting 2 = .ok (.imul, 1) := by decide +kernel
theorem dPR_endWaiting_3 : decode bPR_endWaiting 3 = .ok (.istore_n 2, 1) := by decide +kernel
theorem dPR_endWaiting_4 : decode bPR_endWaiting 4 = .ok (.iload_n 2, 1) := by decide +kernel
theorem dPR_endWaiting_5 : decode bPR_endWaiting 5 = .ok (.iconst 2, 1) := by decide +kernel
theorem dPR_endWaiting_6 : decode bPR_endWaiting 6 = .ok (.iload_n 1, 1) := by decide +kernel
theorem dPR_endWaiting_7 : decode bPR_endWaiting 7 = .ok (.imul, 1) := by decide +kernel
theorem dPR_endWaiting_8 : decode bPR_endWaiting 8 = .ok (.iconst 1, 1) := by decide +kernel
theorem dPR_endWaiting_9 : decode bPR_endWaiting 9 = .ok (.iadd, 1) := by decide +kernel
theorem dPR_endWaiting_10 : decode bPR_endWaiting 10 = .ok (.if_icmp .gt 38, 3) := by decide +kernel
theorem dPR_endWaiting_13 : decode bPR_endWaiting 13 = .ok (.aload_n 0, 1) := by decide +kernel
theorem dPR_endWaiting_14 : decode bPR_endWaiting 14 = .ok (.getfield 45, 3) := by decide +kernel
theorem dPR_endWaiting_17 : decode bPR_endWaiting 17 = .ok (.getfield 94, 3) := by decide +kernel
theorem dPR_endWaiting_20 : decode bPR_endWaiting 20 = .ok (.iload_n 2, 1) := by decide +kernel
theorem dPR_endWaiting_21 : decode bPR_endWaiting 21 = .ok (.iaload, 1) := by decide +kernel
theorem dPR_endWaiting_22 : decode bPR_endWaiting 22 = .ok (.istore_n 3, 1) := by decide +kernel
theorem dPR_endWaiting_23 : decode bPR_endWaiting 23 = .ok (.iload_n 3, 1) := by decide +kernel
theorem dPR_endWaiting_24 : decode bPR_endWaiting 24 = .ok (.iconst (-1), 1) := by decide +kernel
theorem dPR_endWaiting_25 : decode bPR_endWaiting 25 = .ok (.if_icmp .eq 17, 3) := by decide +kernel
theorem dPR_endWaiting_28 : decode bPR_endWaiting 28 = .ok (.aload_n 0, 1) := by decide +kernel
theorem dPR_endWaiting_29 : decode bPR_endWaiting 29 = .ok (.iload_n 3, 1) := by decide +kernel
theorem dPR_endWaiting_30 : decode bPR_endWaiting 30 = .ok (.aload_n 0, 1) := by decide +kernel
theorem dPR_endWaiting_31 : decode bPR_endWaiting 31 = .ok (.getfield 9, 3) := by decide +kernel
theorem dPR_endWaiting_34 : decode bPR_endWaiting 34 = .ok (.iload_n 3, 1) := by decide +kernel
theorem dPR_endWaiting_35 : decode bPR_endWaiting 35 = .ok (.iaload, 1) := by decide +kernel
theorem dPR_endWaiting_36 : decode bPR_endWaiting 36 = .ok (.bipush (-9), 2) := by decide +kernel
theorem dPR_endWaiting_38 : decode bPR_endWaiting 38 = .ok (.iand, 1) := by decide +kernel
theorem dPR_endWaiting_39 : decode bPR_endWaiting 39 = .ok (.invokevirtual 70, 3) := by decide +kernel
theorem dPR_endWaiting_42 : decode bPR_endWaiting 42 = .ok (.iinc 2 1, 3) := by decide +kernel
theorem dPR_endWaiting_45 : decode bPR_endWaiting 45 = .ok (.goto (-41), 3) := by decide +kernel
theorem dPR_endWaiting_48 : decode bPR_endWaiting 48 = .ok (.return_, 1) := by decide +kernel
theorem dPR_hasAnyCommand_0 : decode bPR_hasAnyCommand 0 = .ok (.iconst 0, 1) := by decide +kernel
theorem dPR_hasAnyCommand_1 : decode bPR_hasAnyCommand 1 = .ok (.istore_n 1, 1) := by decide +kernel
theorem dPR_hasAnyCommand_2 : decode bPR_hasAnyCommand 2 = .ok (.iload_n 1, 1) := by decide +kernel
theorem dPR_hasAnyCommand_3 : decode bPR_hasAnyCommand 3 = .ok (.iconst 2, 1) := by decide +kernel
theorem dPR_hasAnyCommand_4 : decode bPR_hasAnyCommand 4 = .ok (.aload_n 0, 1) := by decide +kernel
theorem dPR_hasAnyCommand_5 : decode bPR_hasAnyCommand 5 = .ok (.getfield 45, 3) := by decide +kernel
theorem dPR_hasAnyCommand_8 : decode bPR_hasAnyCommand 8 = .ok (.getfield 110, 3) := by decide +kernel
theorem dPR_hasAnyCommand_11 : decode bPR_hasAnyCommand 11 = .ok (.imul, 1) := by decide +kernel
theorem dPR_hasAnyCommand_12 : decode bPR_hasAnyCommand 12 = .ok (.if_icmp .ge 23, 3) := by decide +kernel
theorem dPR_hasAnyCommand_15 : decode bPR_hasAnyCommand 15 = .ok (.aload_n 0, 1) := by decide +kernel
theorem dPR_hasAnyCommand_16 : decode bPR_hasAnyCommand 16 = .ok (.getfield 9, 3) := by decide +kernel
theorem dPR_hasAnyCommand_19 : decode bPR_hasAnyCommand 19 = .ok (.iload_n 1, 1) := by decide +kernel
theorem dPR_hasAnyCommand_20 : decode bPR_hasAnyCommand 20 = .ok (.iaload, 1) := by decide +kernel
theorem dPR_hasAnyCommand_21 : decode bPR_hasAnyCommand 21 = .ok (.bipush 6, 2) := by decide +kernel
theorem dPR_hasAnyCommand_23 : decode bPR_hasAnyCommand 23 = .ok (.iand, 1) := by decide +kernel
theorem dPR_hasAnyCommand_24 : decode bPR_hasAnyCommand 24 = .ok (.ifCond .eq 5, 3) := by decide +kernel
theorem dPR_hasAnyCommand_27 : decode bPR_hasAnyCommand 27 = .ok (.iconst 1, 1) := by decide +kernel
theorem dPR_hasAnyCommand_28 : decode bPR_hasAnyCommand 28 = .ok (.ireturn, 1) := by decide +kernel
theorem dPR_hasAnyCommand_29 : decode bPR_hasAnyCommand 29 = .ok (.iinc 1 1, 3) := by decide +kernel
theorem dPR_hasAnyCommand_32 : decode bPR_hasAnyCommand 32 = .ok (.goto (-30), 3) := by decide +kernel
theorem dPR_hasAnyCommand_35 : decode bPR_hasAnyCommand 35 = .ok (.iconst 0, 1) := by decide +kernel
theorem dPR_hasAnyCommand_36 : decode bPR_hasAnyCommand 36 = .ok (.ireturn, 1) := by decide +kernel
theorem dPR_hasFailed_0 : decode bPR_hasFailed 0 = .ok (.aload_n 0, 1) := by decide +kernel
theorem dPR_hasFailed_1 : decode bPR_hasFailed 1 = .ok (.iconst 2, 1) := by decide +kernel
theorem dPR_hasFailed_2 : decode bPR_hasFailed 2 = .ok (.iload_n 1, 1) := by decide +kernel
theorem dPR_hasFailed_3 : decode bPR_hasFailed 3 = .ok (.imul, 1) := by decide +kernel
theorem dPR_hasFailed_4 : decode bPR_hasFailed 4 = .ok (.invokevirtual 57, 3) := by decide +kernel
theorem dPR_hasFailed_7 : decode bPR_hasFailed 7 = .ok (.ireturn, 1) := by decide +kernel
theorem dPR_hasRingWithTwoFailures_0 : decode bPR_hasRingWithTwoFailures 0 = .ok (.iconst 0, 1) := by decide +kernel
theorem dPR_hasRingWithTwoFailures_1 : decode bPR_hasRingWithTwoFailures 1 = .ok (.istore_n 1, 1) := by decide +kernel
theorem dPR_hasRingWithTwoFailures_2 : decode bPR_hasRingWithTwoFailures 2 = .ok (.iconst 0, 1) := by decide +kernel
theorem dPR_hasRingWithTwoFailures_3 : decode bPR_hasRingWithTwoFailures 3 = .ok (.istore_n 2, 1) := by decide +kernel
theorem dPR_hasRingWithTwoFailures_4 : decode bPR_hasRingWithTwoFailures 4 = .ok (.iload_n 2, 1) := by decide +kernel
theorem dPR_hasRingWithTwoFailures_5 : decode bPR_hasRingWithTwoFailures 5 = .ok (.aload_n 0, 1) := by decide +kernel
theorem dPR_hasRingWithTwoFailures_6 : decode bPR_hasRingWithTwoFailures 6 = .ok (.getfield 45, 3) := by decide +kernel
theorem dPR_hasRingWithTwoFailures_9 : decode bPR_hasRingWithTwoFailures 9 = .ok (.getfield 110, 3) := by decide +kernel
theorem dPR_hasRingWithTwoFailures_12 : decode bPR_hasRingWithTwoFailures 12 = .ok (.if_icmp .ge 41, 3) := by decide +kernel
theorem dPR_hasRingWithTwoFailures_15 : decode bPR_hasRingWithTwoFailures 15 = .ok (.aload_n 0, 1) := by decide +kernel
theorem dPR_hasRingWithTwoFailures_16 : decode bPR_hasRingWithTwoFailures 16 = .ok (.iload_n 2, 1) := by decide +kernel
theorem dPR_hasRingWithTwoFailures_17 : decode bPR_hasRingWithTwoFailures 17 = .ok (.invokevirtual 113, 3) := by decide +kernel
theorem dPR_hasRingWithTwoFailures_20 : decode bPR_hasRingWithTwoFailures 20 = .ok (.ifCond .eq 27, 3) := by decide +kernel
theorem dPR_hasRingWithTwoFailures_23 : decode bPR_hasRingWithTwoFailures 23 = .ok (.iconst 1, 1) := by decide +kernel
theorem dPR_hasRingWithTwoFailures_24 : decode bPR_hasRingWithTwoFailures 24 = .ok (.aload_n 0, 1) := by decide +kernel
theorem dPR_hasRingWithTwoFailures_25 : decode bPR_hasRingWithTwoFailures 25 = .ok (.getfield 45, 3) := by decide +kernel
theorem dPR_hasRingWithTwoFailures_28 : decode bPR_hasRingWithTwoFailures 28 = .ok (.getfield 116, 3) := by decide +kernel
theorem dPR_hasRingWithTwoFailures_31 : decode bPR_hasRingWithTwoFailures 31 = .ok (.iload_n 2, 1) := by decide +kernel
theorem dPR_hasRingWithTwoFailures_32 : decode bPR_hasRingWithTwoFailures 32 = .ok (.iaload, 1) := by decide +kernel
theorem dPR_hasRingWithTwoFailures_33 : decode bPR_hasRingWithTwoFailures 33 = .ok (.ishl, 1) := by decide +kernel
theorem dPR_hasRingWithTwoFailures_34 : decode bPR_hasRingWithTwoFailures 34 = .ok (.istore_n 3, 1) := by decide +kernel
theorem dPR_hasRingWithTwoFailures_35 : decode bPR_hasRingWithTwoFailures 35 = .ok (.iload_n 1, 1) := by decide +kernel
theorem dPR_hasRingWithTwoFailures_36 : decode bPR_hasRingWithTwoFailures 36 = .ok (.iload_n 3, 1) := by decide +kernel
theorem dPR_hasRingWithTwoFailures_37 : decode bPR_hasRingWithTwoFailures 37 = .ok (.iand, 1) := by decide +kernel
theorem dPR_hasRingWithTwoFailures_38 : decode bPR_hasRingWithTwoFailures 38 = .ok (.ifCond .eq 5, 3) := by decide +kernel
theorem dPR_hasRingWithTwoFailures_41 : decode bPR_hasRingWithTwoFailures 41 = .ok (.iconst 1, 1) := by decide +kernel
theorem dPR_hasRingWithTwoFailures_42 : decode bPR_hasRingWithTwoFailures 42 = .ok (.ireturn, 1) := by decide +kernel
theorem dPR_hasRingWithTwoFailures_43 : decode bPR_hasRingWithTwoFailures 43 = .ok (.iload_n 1, 1) := by decide +kernel
theorem dPR_hasRingWithTwoFailures_44 : decode bPR_hasRingWithTwoFailures 44 = .ok (.iload_n 3, 1) := by decide +kernel
theorem dPR_hasRingWithTwoFailures_45 : decode bPR_hasRingWithTwoFailures 45 = .ok (.ior, 1) := by decide +kernel
theorem dPR_hasRingWithTwoFailures_46 : decode bPR_hasRingWithTwoFailures 46 = .ok (.istore_n 1, 1) := by decide +kernel
theorem dPR_hasRingWithTwoFailures_47 : decode bPR_hasRingWithTwoFailures 47 = .ok (.iinc 2 1, 3) := by decide +kernel
theorem dPR_hasRingWithTwoFailures_50 : decode bPR_hasRingWithTwoFailures 50 = .ok (.goto (-46), 3) := by decide +kernel
theorem dPR_hasRingWithTwoFailures_53 : decode bPR_hasRingWithTwoFailures 53 = .ok (.iconst 0, 1) := by decide +kernel
theorem dPR_hasRingWithTwoFailures_54 : decode bPR_hasRingWithTwoFailures 54 = .ok (.ireturn, 1) := by decide +kernel
theorem dPR_isDown_0 : decode bPR_isDown 0 = .ok (.aload_n 0, 1) := by decide +kernel
theorem dPR_isDown_1 : decode bPR_isDown 1 = .ok (.getfield 9, 3) := by decide +kernel
theorem dPR_isDown_4 : decode bPR_isDown 4 = .ok (.iload_n 1, 1) := by decide +kernel
theorem dPR_isDown_5 : decode bPR_isDown 5 = .ok (.iaload, 1) := by decide +kernel
theorem dPR_isDown_6 : decode bPR_isDown 6 = .ok (.iconst 1, 1) := by decide +kernel
theorem dPR_isDown_7 : decode bPR_isDown 7 = .ok (.iand, 1) := by decide +kernel
theorem dPR_isDown_8 : decode bPR_isDown 8 = .ok (.ifCond .eq 7, 3) := by decide +kernel
theorem dPR_isDown_11 : decode bPR_isDown 11 = .ok (.iconst 1, 1) := by decide +kernel
theorem dPR_isDown_12 : decode bPR_isDown 12 = .ok (.goto 4, 3) := by decide +kernel
theorem dPR_isDown_15 : decode bPR_isDown 15 = .ok (.iconst 0, 1) := by decide +kernel
theorem dPR_isDown_16 : decode bPR_isDown 16 = .ok (.ireturn, 1) := by decide +kernel
theorem dPR_isOpen_0 : decode bPR_isOpen 0 = .ok (.aload_n 0, 1) := by decide +kernel
theorem dPR_isOpen_1 : decode bPR_isOpen 1 = .ok (.getfield 9, 3) := by decide +kernel
theorem dPR_isOpen_4 : decode bPR_isOpen 4 = .ok (.iconst 2, 1) := by decide +kernel
theorem dPR_isOpen_5 : decode bPR_isOpen 5 = .ok (.iload_n 1, 1) := by decide +kernel
theorem dPR_isOpen_6 : decode bPR_isOpen 6 = .ok (.imul, 1) := by decide +kernel
theorem dPR_isOpen_7 : decode bPR_isOpen 7 = .ok (.iaload, 1) := by decide +kernel
theorem dPR_isOpen_8 : decode bPR_isOpen 8 = .ok (.ifCond .ne 20, 3) := by decide +kernel
theorem dPR_isOpen_11 : decode bPR_isOpen 11 = .ok (.aload_n 0, 1) := by decide +kernel
theorem dPR_isOpen_12 : decode bPR_isOpen 12 = .ok (.getfield 9, 3) := by decide +kernel
theorem dPR_isOpen_15 : decode bPR_isOpen 15 = .ok (.iconst 2, 1) := by decide +kernel
theorem dPR_isOpen_16 : decode bPR_isOpen 16 = .ok (.iload_n 1, 1) := by decide +kernel
theorem dPR_isOpen_17 : decode bPR_isOpen 17 = .ok (.imul, 1) := by decide +kernel
theorem dPR_isOpen_18 : decode bPR_isOpen 18 = .ok (.iconst 1, 1) := by decide +kernel
theorem dPR_isOpen_19 : decode bPR_isOpen 19 = .ok (.iadd, 1) := by decide +kernel
theorem dPR_isOpen_20 : decode bPR_isOpen 20 = .ok (.iaload, 1) := by decide +kernel
theorem dPR_isOpen_21 : decode bPR_isOpen 21 = .ok (.ifCond .ne 7, 3) := by decide +kernel
theorem dPR_isOpen_24 : decode bPR_isOpen 24 = .ok (.iconst 1, 1) := by decide +kernel
theorem dPR_isOpen_25 : decode bPR_isOpen 25 = .ok (.goto 4, 3) := by decide +kernel
theorem dPR_isOpen_28 : decode bPR_isOpen 28 = .ok (.iconst 0, 1) := by decide +kernel
theorem dPR_isOpen_29 : decode bPR_isOpen 29 = .ok (.ireturn, 1) := by decide +kernel
theorem dPR_putFromPorts_0 : decode bPR_putFromPorts 0 = .ok (.iconst 2, 1) := by decide +kernel
theorem dPR_putFromPorts_1 : decode bPR_putFromPorts 1 = .ok (.iload_n 1, 1) := by decide +kernel
theorem dPR_putFromPorts_2 : decode bPR_putFromPorts 2 = .ok (.imul, 1) := by decide +kernel
theorem dPR_putFromPorts_3 : decode bPR_putFromPorts 3 = .ok (.istore_n 3, 1) := by decide +kernel
theorem dPR_putFromPorts_4 : decode bPR_putFromPorts 4 = .ok (.iload_n 3, 1) := by decide +kernel
theorem dPR_putFromPorts_5 : decode bPR_putFromPorts 5 = .ok (.iconst 2, 1) := by decide +kernel
theorem dPR_putFromPorts_6 : decode bPR_putFromPorts 6 = .ok (.iload_n 1, 1) := by decide +kernel
theorem dPR_putFromPorts_7 : decode bPR_putFromPorts 7 = .ok (.imul, 1) := by decide +kernel
theorem dPR_putFromPorts_8 : decode bPR_putFromPorts 8 = .ok (.iconst 1, 1) := by decide +kernel
theorem dPR_putFromPorts_9 : decode bPR_putFromPorts 9 = .ok (.iadd, 1) := by decide +kernel
theorem dPR_putFromPorts_10 : decode bPR_putFromPorts 10 = .ok (.if_icmp .gt 47, 3) := by decide +kernel
theorem dPR_putFromPorts_13 : decode bPR_putFromPorts 13 = .ok (.aload_n 0, 1) := by decide +kernel
theorem dPR_putFromPorts_14 : decode bPR_putFromPorts 14 = .ok (.getfield 45, 3) := by decide +kernel
theorem dPR_putFromPorts_17 : decode bPR_putFromPorts 17 = .ok (.getfield 94, 3) := by decide +kernel
theorem dPR_putFromPorts_20 : decode bPR_putFromPorts 20 = .ok (.iload_n 3, 1) := by decide +kernel
theorem dPR_putFromPorts_21 : decode bPR_putFromPorts 21 = .ok (.iaload, 1) := by decide +kernel
theorem dPR_putFromPorts_22 : decode bPR_putFromPorts 22 = .ok (.istore 4, 2) := by decide +kernel
theorem dPR_putFromPorts_24 : decode bPR_putFromPorts 24 = .ok (.iload 4, 2) := by decide +kernel
theorem dPR_putFromPorts_26 : decode bPR_putFromPorts 26 = .ok (.iconst (-1), 1) := by decide +kernel
theorem dPR_putFromPorts_27 : decode bPR_putFromPorts 27 = .ok (.if_icmp .eq 24, 3) := by decide +kernel
theorem dPR_putFromPorts_30 : decode bPR_putFromPorts 30 = .ok (.aload_n 0, 1) := by decide +kernel
theorem dPR_putFromPorts_31 : decode bPR_putFromPorts 31 = .ok (.iload 4, 2) := by decide +kernel
theorem dPR_putFromPorts_33 : decode bPR_putFromPorts 33 = .ok (.invokevirtual 57, 3) := by decide +kernel
theorem dPR_putFromPorts_36 : decode bPR_putFromPorts 36 = .ok (.ifCond .ne 15, 3) := by decide +kernel
theorem dPR_putFromPorts_39 : decode bPR_putFromPorts 39 = .ok (.aload_n 0, 1) := by decide +kernel
theorem dPR_putFromPorts_40 : decode bPR_putFromPorts 40 = .ok (.getfield 49, 3) := by decide +kernel
theorem dPR_putFromPorts_43 : decode bPR_putFromPorts 43 = .ok (.iload 4, 2) := by decide +kernel
theorem dPR_putFromPorts_45 : decode bPR_putFromPorts 45 = .ok (.iconst 1, 1) := by decide +kernel
theorem dPR_putFromPorts_46 : decode bPR_putFromPorts 46 = .ok (.ixor, 1) := by decide +kernel
theorem dPR_putFromPorts_47 : decode bPR_putFromPorts 47 = .ok (.iload_n 2, 1) := by decide +kernel
theorem dPR_putFromPorts_48 : decode bPR_putFromPorts 48 = .ok (.invokevirtual 146, 3) := by decide +kernel
theorem dPR_putFromPorts_51 : decode bPR_putFromPorts 51 = .ok (.iinc 3 1, 3) := by decide +kernel
theorem dPR_putFromPorts_54 : decode bPR_putFromPorts 54 = .ok (.goto (-50), 3) := by decide +kernel
theorem dPR_putFromPorts_57 : decode bPR_putFromPorts 57 = .ok (.return_, 1) := by decide +kernel
theorem dPR_setHolds_0 : decode bPR_setHolds 0 = .ok (.aload_n 0, 1) := by decide +kernel
theorem dPR_setHolds_1 : decode bPR_setHolds 1 = .ok (.getfield 9, 3) := by decide +kernel
theorem dPR_setHolds_4 : decode bPR_setHolds 4 = .ok (.iload_n 1, 1) := by decide +kernel
theorem dPR_setHolds_5 : decode bPR_setHolds 5 = .ok (.iaload, 1) := by decide +kernel
theorem dPR_setHolds_6 : decode bPR_setHolds 6 = .ok (.iload_n 2, 1) := by decide +kernel
theorem dPR_setHolds_7 : decode bPR_setHolds 7 = .ok (.if_icmp .eq 30, 3) := by decide +kernel
theorem dPR_setHolds_10 : decode bPR_setHolds 10 = .ok (.aload_n 0, 1) := by decide +kernel
theorem dPR_setHolds_11 : decode bPR_setHolds 11 = .ok (.getfield 9, 3) := by decide +kernel
theorem dPR_setHolds_14 : decode bPR_setHolds 14 = .ok (.iload_n 1, 1) := by decide +kernel
theorem dPR_setHolds_15 : decode bPR_setHolds 15 = .ok (.iload_n 2, 1) := by decide +kernel
theorem dPR_setHolds_16 : decode bPR_setHolds 16 = .ok (.iastore, 1) := by decide +kernel
theorem dPR_setHolds_17 : decode bPR_setHolds 17 = .ok (.aload_n 0, 1) := by decide +kernel
theorem dPR_setHolds_18 : decode bPR_setHolds 18 = .ok (.getfield 18, 3) := by decide +kernel
theorem dPR_setHolds_21 : decode bPR_setHolds 21 = .ok (.aload_n 0, 1) := by decide +kernel
theorem dPR_setHolds_22 : decode bPR_setHolds 22 = .ok (.getfield 45, 3) := by decide +kernel
theorem dPR_setHolds_25 : decode bPR_setHolds 25 = .ok (.getfield 74, 3) := by decide +kernel
theorem dPR_setHolds_28 : decode bPR_setHolds 28 = .ok (.iload_n 1, 1) := by decide +kernel
theorem dPR_setHolds_29 : decode bPR_setHolds 29 = .ok (.iaload, 1) := by decide +kernel
theorem dPR_setHolds_30 : decode bPR_setHolds 30 = .ok (.iconst 0, 1) := by decide +kernel
theorem dPR_setHolds_31 : decode bPR_setHolds 31 = .ok (.iastore, 1) := by decide +kernel
theorem dPR_setHolds_32 : decode bPR_setHolds 32 = .ok (.aload_n 0, 1) := by decide +kernel
theorem dPR_setHolds_33 : decode bPR_setHolds 33 = .ok (.iconst 1, 1) := by decide +kernel
theorem dPR_setHolds_34 : decode bPR_setHolds 34 = .ok (.putfield 41, 3) := by decide +kernel
theorem dPR_setHolds_37 : decode bPR_setHolds 37 = .ok (.return_, 1) := by decide +kernel
theorem dPR_takeNews_0 : decode bPR_takeNews 0 = .ok (.iload_n 1, 1) := by decide +kernel
theorem dPR_takeNews_1 : decode bPR_takeNews 1 = .ok (.bipush 6, 2) := by decide +kernel
theorem dPR_takeNews_3 : decode bPR_takeNews 3 = .ok (.idiv, 1) := by decide +kernel
theorem dPR_takeNews_4 : decode bPR_takeNews 4 = .ok (.istore 4, 2) := by decide +kernel
theorem dPR_takeNews_6 : decode bPR_takeNews 6 = .ok (.iload 4, 2) := by decide +kernel
theorem dPR_takeNews_8 : decode bPR_takeNews 8 = .ok (.bipush 114, 2) := by decide +kernel
theorem dPR_takeNews_10 : decode bPR_takeNews 10 = .ok (.imul, 1) := by decide +kernel
theorem dPR_takeNews_11 : decode bPR_takeNews 11 = .ok (.iload_n 2, 1) := by decide +kernel
theorem dPR_takeNews_12 : decode bPR_takeNews 12 = .ok (.iadd, 1) := by decide +kernel
theorem dPR_takeNews_13 : decode bPR_takeNews 13 = .ok (.istore 5, 2) := by decide +kernel
theorem dPR_takeNews_15 : decode bPR_takeNews 15 = .ok (.iload_n 3, 1) := by decide +kernel
theorem dPR_takeNews_16 : decode bPR_takeNews 16 = .ok (.aload_n 0, 1) := by decide +kernel
theorem dPR_takeNews_17 : decode bPR_takeNews 17 = .ok (.getfield 35, 3) := by decide +kernel
theorem dPR_takeNews_20 : decode bPR_takeNews 20 = .ok (.iload 5, 2) := by decide +kernel
theorem dPR_takeNews_22 : decode bPR_takeNews 22 = .ok (.iaload, 1) := by decide +kernel
theorem dPR_takeNews_23 : decode bPR_takeNews 23 = .ok (.if_icmp .gt 4, 3) := by decide +kernel
theorem dPR_takeNews_26 : decode bPR_takeNews 26 = .ok (.return_, 1) := by decide +kernel
theorem dPR_takeNews_27 : decode bPR_takeNews 27 = .ok (.aload_n 0, 1) := by decide +kernel
theorem dPR_takeNews_28 : decode bPR_takeNews 28 = .ok (.getfield 35, 3) := by decide +kernel
theorem dPR_takeNews_31 : decode bPR_takeNews 31 = .ok (.iload 5, 2) := by decide +kernel
theorem dPR_takeNews_33 : decode bPR_takeNews 33 = .ok (.iload_n 3, 1) := by decide +kernel
theorem dPR_takeNews_34 : decode bPR_takeNews 34 = .ok (.iastore, 1) := by decide +kernel
theorem dPR_takeNews_35 : decode bPR_takeNews 35 = .ok (.aload_n 0, 1) := by decide +kernel
theorem dPR_takeNews_36 : decode bPR_takeNews 36 = .ok (.getfield 38, 3) := by decide +kernel
theorem dPR_takeNews_39 : decode bPR_takeNews 39 = .ok (.iload 4, 2) := by decide +kernel
theorem dPR_takeNews_41 : decode bPR_takeNews 41 = .ok (.dup2, 1) := by decide +kernel
theorem dPR_takeNews_42 : decode bPR_takeNews 42 = .ok (.iaload, 1) := by decide +kernel
theorem dPR_takeNews_43 : decode bPR_takeNews 43 = .ok (.iconst 1, 1) := by decide +kernel
theorem dPR_takeNews_44 : decode bPR_takeNews 44 = .ok (.iadd, 1) := by decide +kernel
theorem dPR_takeNews_45 : decode bPR_takeNews 45 = .ok (.iastore, 1) := by decide +kernel
theorem dPR_takeNews_46 : decode bPR_takeNews 46 = .ok (.aload_n 0, 1) := by decide +kernel
theorem dPR_takeNews_47 : decode bPR_takeNews 47 = .ok (.getfield 53, 3) := by decide +kernel
theorem dPR_takeNews_50 : decode bPR_takeNews 50 = .ok (.iload 4, 2) := by decide +kernel
theorem dPR_takeNews_52 : decode bPR_takeNews 52 = .ok (.invokevirtual 170, 3) := by decide +kernel
theorem dPR_takeNews_55 : decode bPR_takeNews 55 = .ok (.iconst 5, 1) := by decide +kernel
theorem dPR_takeNews_56 : decode bPR_takeNews 56 = .ok (.iload 4, 2) := by decide +kernel
theorem dPR_takeNews_58 : decode bPR_takeNews 58 = .ok (.iload_n 2, 1) := by decide +kernel
theorem dPR_takeNews_59 : decode bPR_takeNews 59 = .ok (.iload_n 3, 1) := by decide +kernel
theorem dPR_takeNews_60 : decode bPR_takeNews 60 = .ok (.invokestatic 175, 3) := by decide +kernel
theorem dPR_takeNews_63 : decode bPR_takeNews 63 = .ok (.istore 6, 2) := by decide +kernel
theorem dPR_takeNews_65 : decode bPR_takeNews 65 = .ok (.iconst 0, 1) := by decide +kernel
theorem dPR_takeNews_66 : decode bPR_takeNews 66 = .ok (.istore 7, 2) := by decide +kernel
theorem dPR_takeNews_68 : decode bPR_takeNews 68 = .ok (.iload 7, 2) := by decide +kernel
theorem dPR_takeNews_70 : decode bPR_takeNews 70 = .ok (.bipush 6, 2) := by decide +kernel
theorem dPR_takeNews_72 : decode bPR_takeNews 72 = .ok (.if_icmp .ge 32, 3) := by decide +kernel
theorem dPR_takeNews_75 : decode bPR_takeNews 75 = .ok (.iload 7, 2) := by decide +kernel
theorem dPR_takeNews_77 : decode bPR_takeNews 77 = .ok (.iload_n 1, 1) := by decide +kernel
theorem dPR_takeNews_78 : decode bPR_takeNews 78 = .ok (.bipush 6, 2) := by decide +kernel
theorem dPR_takeNews_80 : decode bPR_takeNews 80 = .ok (.irem, 1) := by decide +kernel
theorem dPR_takeNews_81 : decode bPR_takeNews 81 = .ok (.if_icmp .eq 17, 3) := by decide +kernel
theorem dPR_takeNews_84 : decode bPR_takeNews 84 = .ok (.aload_n 0, 1) := by decide +kernel
theorem dPR_takeNews_85 : decode bPR_takeNews 85 = .ok (.iload 4, 2) := by decide +kernel
theorem dPR_takeNews_87 : decode bPR_takeNews 87 = .ok (.bipush 6, 2) := by decide +kernel
theorem dPR_takeNews_89 : decode bPR_takeNews 89 = .ok (.imul, 1) := by decide +kernel
theorem dPR_takeNews_90 : decode bPR_takeNews 90 = .ok (.iload 7, 2) := by decide +kernel
theorem dPR_takeNews_92 : decode bPR_takeNews 92 = .ok (.iadd, 1) := by decide +kernel
theorem dPR_takeNews_93 : decode bPR_takeNews 93 = .ok (.iload 6, 2) := by decide +kernel
theorem dPR_takeNews_95 : decode bPR_takeNews 95 = .ok (.invokevirtual 179, 3) := by decide +kernel
theorem dPR_takeNews_98 : decode bPR_takeNews 98 = .ok (.iinc 7 1, 3) := by decide +kernel
theorem dPR_takeNews_101 : decode bPR_takeNews 101 = .ok (.goto (-33), 3) := by decide +kernel
theorem dPR_takeNews_104 : decode bPR_takeNews 104 = .ok (.return_, 1) := by decide +kernel
noncomputable def fPR_isDown (P S : ZS) (x0 : Int32) : Int32 := zl (S.F 14 (x0 : Int32).toNatClampNeg) (fun k1 => zl (k1 &&& 1) (fun k2 => (if k2 = 0 then 0 else 1)))
set_option maxHeartbeats 4000000 in
set_option maxRecDepth 100000 in
theorem tPR_isDown (l : Launch) (dC : Nat → ClassId) (dI : Nat → Nat → Nat) (cI cZ cJ cA : ClassId) (a0 : Array Value) (s0 : State) (o b : Nat → Nat) (P S : ZS) (sz : Nat) (x0 : Int32) (gP : cok P) (gS : cok S) (r_x0 : zr 0 119 x0) : Met l yPR_isDown [Cond.code yPR_isDown bPR_isDown 2 (some .boolean)] ({ frames := 0, cells := 0, slots := 0, locals := 0 } : Room) (zP zCl dC dI (zTZ cI cZ cJ cA) a0 s0 [.ref (o 4), .int x0] sz (CW cI cZ cA o b P S)) (zQp (fun r => r = fPR_isDown P S x0 ∧ zr 0 1 r) sz) 0 0 (zN sz) := by
  refine Met.ofW (cc := bPR_isDown) (maxL := 2) (ret := (some .boolean)) (by decide) rfl ?_
  intro p e s m args below meth c s₁ B hml hv
  obtain ⟨rfl, hsz, hP, hK, hD0, hB⟩ := hv
  have hx := B.exec
  have hb := B.bytes
  have hr := B.returns
  have hown : s.vm.findClass "RingGuard$Protocol" = some m.cls := findClass_of_methodNamed B.named
  have hlocks := B.notSynchronized
  subst hsz
  have hD := hD0
  have hA0 : ∀ q, zN s.heap.size q → s0.heap.size ≤ q := zA1 hB
  have hAD : ∀ q, zN s0.heap.size q → s0.heap.size ≤ q := fun _ h => h
  have hA : ∀ q : Nat, s.heap.size ≤ q → zN s.heap.size q := fun _ h => h
  have hS : va_S (zN s.heap.size) s.heap s.heap [] := va_S.rf
  have hl := lv_entry ([.ref (o 4), .int x0]) (n := 2) (Nat.le_of_ble_eq_true rfl)
  rw [lg_entry_eq]
  generalize (lg_sl ([.ref (o 4), .int x0]) ++ List.replicate (2 - (lg_sl ([.ref (o 4), .int x0])).length) Slot.unset).toArray = ls at hl ⊢
  have hl : lv_has ls 2 [(0, .ref (o 4)), (1, .int x0)] := hl
  refine zgenQ (fun Q hQe => ?_)
  obtain ⟨tg, etg⟩ : ∃ z, z = fPR_isDown P S x0 := ⟨_, rfl⟩
  have E := etg
  unfold fPR_isDown at E
  refine lv_aload_n hx hb dPR_isDown_0 rfl (lv_at hl 0 rfl) ?_
  refine c_getA_14 hx hb (hB.words zU_PR) hown hK hP (hB.word (zm1 k1_133) rfl) dPR_isDown_1 ?_
  refine lv_iload_n hx hb dPR_isDown_4 rfl (lv_at hl 1 rfl) ?_
  refine c_aldS hx hb hK hP 14 (by decide) rfl r_x0 (by decide) dPR_isDown_5 E (fun k1 ek1 E => ?_)
  refine lv_iconst (v := 1) hx hb dPR_isDown_6 (by decide) ?_
  refine z_iand hx hb dPR_isDown_7 E (fun k2 ek2 E => ?_)
  have r_k2 : zr 0 1 k2 := zr_and (c := 1) (by decide) ek2 (by decide)
  refine z_if_eq (tgt := 15) hx hb dPR_isDown_8 (by decide) E (fun c_8 E => ?_) (fun c_8 E => ?_)
  · have r_k2 : zr 0 0 k2 := zeq_x (show zr 0 0 0 from by decide) c_8
    refine lv_iconst (v := 0) hx hb dPR_isDown_15 (by decide) ?_
    rw [hQe]
    exact W.zret (v := 0) (ty := .boolean) hx hb hr (znar (show zr 0 1 0 from by decide)) (fun t ht hW => ⟨⟨0, (), rfl, ⟨E.symm.trans etg, (show zr 0 1 0 from by decide)⟩, trivial⟩, hS.F ht⟩) hS.2.2 dPR_isDown_16
  · have r_k2 : zr 1 1 k2 := zne_lo r_k2 c_8 (by decide)
    refine lv_iconst (v := 1) hx hb dPR_isDown_11 (by decide) ?_
    refine lv_goto (tgt := 16) hx hb dPR_isDown_12 (by decide) ?_
    rw [hQe]
    exact W.zret (v := 1) (ty := .boolean) hx hb hr (znar (show zr 0 1 1 from by decide)) (fun t ht hW => ⟨⟨1, (), rfl, ⟨E.symm.trans etg, (show zr 0 1 1 from by decide)⟩, trivial⟩, hS.F ht⟩) hS.2.2 dPR_isDown_16
noncomputable def fPR_hasFailed (P S : ZS) (x0 : Int32) : Int32 := zl (2 * x0) (fun k1 => zl (fPR_isDown P S k1) (fun k3 => k3))
set_option maxHeartbeats 4000000 in
set_option maxRecDepth 100000 in
theorem tPR_hasFailed (l : Launch) (dC : Nat → ClassId) (dI : Nat → Nat → Nat) (cI cZ cJ cA : ClassId) (a0 : Array Value) (s0 : State) (o b : Nat → Nat) (P S : ZS) (sz : Nat) (x0 : Int32) (gP : cok P) (gS : cok S) (r_x0 : zr 0 59 x0) : Met l yPR_hasFailed [Cond.code yPR_hasFailed bPR_hasFailed 2 (some .boolean)] ({ frames := 1, cells := 0, slots := 0, locals := 21 } : Room) (zP zCl dC dI (zTZ cI cZ cJ cA) a0 s0 [.ref (o 4), .int x0] sz (CW cI cZ cA o b P S)) (zQp (fun r => r = fPR_hasFailed P S x0 ∧ zr 0 1 r) sz) 0 0 (zN sz) := by
  refine Met.ofW (cc := bPR_hasFailed) (maxL := 2) (ret := (some .boolean)) (by decide) rfl ?_
  intro p e s m args below meth c s₁ B hml hv
  obtain ⟨rfl, hsz, hP, hK, hD0, hB⟩ := hv
  have hx := B.exec
  have hb := B.bytes
  have hr := B.returns
  have hown : s.vm.findClass "RingGuard$Protocol" = some m.cls := findClass_of_methodNamed B.named
  have hlocks := B.notSynchronized
  subst hsz
  have hD := hD0
  have hA0 : ∀ q, zN s.heap.size q → s0.heap.size ≤ q := zA1 hB
  have hAD : ∀ q, zN s0.heap.size q → s0.heap.size ≤ q := fun _ h => h
  have hA : ∀ q : Nat, s.heap.size ≤ q → zN s.heap.size q := fun _ h => h
  have hS : va_S (zN s.heap.size) s.heap s.heap [] := va_S.rf
  have hl := lv_entry ([.ref (o 4), .int x0]) (n := 2) (Nat.le_of_ble_eq_true rfl)
  rw [lg_entry_eq]
  generalize (lg_sl ([.ref (o 4), .int x0]) ++ List.replicate (2 - (lg_sl ([.ref (o 4), .int x0])).length) Slot.unset).toArray = ls at hl ⊢
  have hl : lv_has ls 2 [(0, .ref (o 4)), (1, .int x0)] := hl
  refine zgenQ (fun Q hQe => ?_)
  obtain ⟨tg, etg⟩ : ∃ z, z = fPR_hasFailed P S x0 := ⟨_, rfl⟩
  have E := etg
  unfold fPR_hasFailed at E
  refine lv_aload_n hx hb dPR_hasFailed_0 rfl (lv_at hl 0 rfl) ?_
  refine lv_iconst (v := 2) hx hb dPR_hasFailed_1 (by decide) ?_
  refine lv_iload_n hx hb dPR_hasFailed_2 rfl (lv_at hl 1 rfl) ?_
  refine z_imul hx hb dPR_hasFailed_3 E (fun k1 ek1 E => ?_)
  have r_k1 : zr 0 118 k1 := zr_mul (show zr 2 2 2 from by decide) r_x0 ek1 (by decide)
  refine zcallp (va_runV (As := [.int k1]) (rest := []) ⟨hx, hb, hml, hown, zno⟩ (tPR_isDown l dC dI cI cZ cJ cA a0 s0 o b P S s.heap.size k1 gP gS (zr_mono r_k1 (by decide))) (zcw 1 (hB.word (zm3 k3_43) rfl) (hB.word (zm1 k1_6) rfl) (hB.word (zm3 k3_40) rfl) (hB.word (zm3 k3_42) rfl) (k2_selects_private (by decide) (hB.word (zm1 k1_125) rfl) (hB.word (zm3 k3_41) rfl) (hB.word (zm3 k3_42) rfl)) rfl rfl (by decide +kernel) ⟨Nat.le_of_ble_eq_true rfl, Nat.le_of_ble_eq_true rfl⟩) ⟨zP_blind, va_recv hK hP (ci := 4) (q0 := 4) rfl rfl, zP_pre hP hK hD hAD (zB_on hB hA0 hS)⟩ rfl rfl hl.1 rfl (lv_room (Nat.le_of_ble_eq_true rfl)) dPR_hasFailed_4 ⟨Nat.le_of_ble_eq_true rfl, Nat.le_of_ble_eq_true rfl⟩) hS hA (fun k3 H2 locs hk3 hz1 hk1 hS => ?_)
  have hP := zKeep hP hk1
  have E := zl_s E hk3.1
  rw [hQe]
  exact W.zret (v := k3) (ty := .boolean) hx hb hr (znar hk3.2) (fun t ht hW => ⟨⟨k3, (), rfl, ⟨E.symm.trans etg, hk3.2⟩, trivial⟩, hS.F ht⟩) hS.2.2 dPR_hasFailed_7
noncomputable def fPR_isOpen_28 (P : ZS) (S : ZS) : Int32 := 0
noncomputable def fPR_isOpen (P S : ZS) (x0 : Int32) : Int32 := zl (2 * x0) (fun k1 => zl (S.F 14 (k1 : Int32).toNatClampNeg) (fun k2 => (if k2 = 0 then zl (2 * x0) (fun k3 => zl (k3 + 1) (fun k4 => zl (S.F 14 (k4 : Int32).toNatClampNeg) (fun k5 => (if k5 = 0 then 1 else fPR_isOpen_28 P S)))) else fPR_isOpen_28 P S)))
set_option maxHeartbeats 4000000 in
set_option maxRecDepth 100000 in
theorem tPR_isOpen (l : Launch) (dC : Nat → ClassId) (dI : Nat → Nat → Nat) (cI cZ cJ cA : ClassId) (a0 : Array Value) (s0 : State) (o b : Nat → Nat) (P S : ZS) (sz : Nat) (x0 : Int32) (gP : cok P) (gS : cok S) (r_x0 : zr 0 59 x0) : Met l yPR_isOpen [Cond.code yPR_isOpen bPR_isOpen 2 (some .boolean)] ({ frames := 0, cells := 0, slots := 0, locals := 0 } : Room) (zP zCl dC dI (zTZ cI cZ cJ cA) a0 s0 [.ref (o 4), .int x0] sz (CW cI cZ cA o b P S)) (zQp (fun r => r = fPR_isOpen P S x0 ∧ zr 0 1 r) sz) 0 0 (zN sz) := by
  refine Met.ofW (cc := bPR_isOpen) (maxL := 2) (ret := (some .boolean)) (by decide) rfl ?_
  intro p e s m args below meth c s₁ B hml hv
  obtain ⟨rfl, hsz, hP, hK, hD0, hB⟩ := hv
  have hx := B.exec
  have hb := B.bytes
  have hr := B.returns
  have hown : s.vm.findClass "RingGuard$Protocol" = some m.cls := findClass_of_methodNamed B.named
  have hlocks := B.notSynchronized
  subst hsz
  have hD := hD0
  have hA0 : ∀ q, zN s.heap.size q → s0.heap.size ≤ q := zA1 hB
  have hAD : ∀ q, zN s0.heap.size q → s0.heap.size ≤ q := fun _ h => h
  have hA : ∀ q : Nat, s.heap.size ≤ q → zN s.heap.size q := fun _ h => h
  have hS : va_S (zN s.heap.size) s.heap s.heap [] := va_S.rf
  have hl := lv_entry ([.ref (o 4), .int x0]) (n := 2) (Nat.le_of_ble_eq_true rfl)
  rw [lg_entry_eq]
  generalize (lg_sl ([.ref (o 4), .int x0]) ++ List.replicate (2 - (lg_sl ([.ref (o 4), .int x0])).length) Slot.unset).toArray = ls at hl ⊢
  have hl : lv_has ls 2 [(0, .ref (o 4)), (1, .int x0)] := hl
  refine zgenQ (fun Q hQe => ?_)
  obtain ⟨tg, etg⟩ : ∃ z, z = fPR_isOpen P S x0 := ⟨_, rfl⟩
  have E := etg
  unfold fPR_isOpen at E
  have hJ28 : ∀ (H : Heap) (locs : List Loc) (ls : Array Slot), tg = fPR_isOpen_28 P S  → va_P (dC, dI) zCl (CW cI cZ cA o b P S) H → va_S (zN s.heap.size) s.heap H locs → lv_has ls 2 [] → W p l e ({ frames := 0, cells := 0, slots := 0, locals := 0 } : Room) s m ([.ref (o 4), .int x0] : List Value).toArray below meth c H locs 0 0 Q (F0 m 28 ls []) := by
    intro H locs ls E hP hS hl
    unfold fPR_isOpen_28 at E
    refine lv_iconst (v := 0) hx hb dPR_isOpen_28 (by decide) ?_
    rw [hQe]
    exact W.zret (v := 0) (ty := .boolean) hx hb hr (znar (show zr 0 1 0 from by decide)) (fun t ht hW => ⟨⟨0, (), rfl, ⟨E.symm.trans etg, (show zr 0 1 0 from by decide)⟩, trivial⟩, hS.F ht⟩) hS.2.2 dPR_isOpen_29
  refine lv_aload_n hx hb dPR_isOpen_0 rfl (lv_at hl 0 rfl) ?_
  refine c_getA_14 hx hb (hB.words zU_PR) hown hK hP (hB.word (zm1 k1_133) rfl) dPR_isOpen_1 ?_
  refine lv_iconst (v := 2) hx hb dPR_isOpen_4 (by decide) ?_
  refine lv_iload_n hx hb dPR_isOpen_5 rfl (lv_at hl 1 rfl) ?_
  refine z_imul hx hb dPR_isOpen_6 E (fun k1 ek1 E => ?_)
  have r_k1 : zr 0 118 k1 := zr_mul (show zr 2 2 2 from by decide) r_x0 ek1 (by decide)
  refine c_aldS hx hb hK hP 14 (by decide) rfl r_k1 (by decide) dPR_isOpen_7 E (fun k2 ek2 E => ?_)
  refine z_if_ne (tgt := 28) hx hb dPR_isOpen_8 (by decide) E (fun c_8 E => ?_) (fun c_8 E => ?_)
  · exact hJ28 s.heap [] ls  E hP hS (lv_sub hl [] rfl)
  · have r_k2 : zr 0 0 k2 := zeq_x (show zr 0 0 0 from by decide) c_8
    refine lv_aload_n hx hb dPR_isOpen_11 rfl (lv_at hl 0 rfl) ?_
    refine c_getA_14 hx hb (hB.words zU_PR) hown hK hP (hB.word (zm1 k1_133) rfl) dPR_isOpen_12 ?_
    refine lv_iconst (v := 2) hx hb dPR_isOpen_15 (by decide) ?_
    refine lv_iload_n hx hb dPR_isOpen_16 rfl (lv_at hl 1 rfl) ?_
    refine z_imul hx hb dPR_isOpen_17 E (fun k3 ek3 E => ?_)
    have r_k3 : zr 0 118 k3 := zr_mul (show zr 2 2 2 from by decide) r_x0 ek3 (by decide)
    refine lv_iconst (v := 1) hx hb dPR_isOpen_18 (by decide) ?_
    refine z_iadd hx hb dPR_isOpen_19 E (fun k4 ek4 E => ?_)
    have r_k4 : zr 1 119 k4 := zr_add r_k3 (show zr 1 1 1 from by decide) ek4 (by decide)
    refine c_aldS hx hb hK hP 14 (by decide) rfl r_k4 (by decide) dPR_isOpen_20 E (fun k5 ek5 E => ?_)
    refine z_if_ne (tgt := 28) hx hb dPR_isOpen_21 (by decide) E (fun c_21 E => ?_) (fun c_21 E => ?_)
    · exact hJ28 s.heap [] ls  E hP hS (lv_sub hl [] rfl)
    · have r_k5 : zr 0 0 k5 := zeq_x (show zr 0 0 0 from by decide) c_21
      refine lv_iconst (v := 1) hx hb dPR_isOpen_24 (by decide) ?_
      refine lv_goto (tgt := 29) hx hb dPR_isOpen_25 (by decide) ?_
      rw [hQe]
      exact W.zret (v := 1) (ty := .boolean) hx hb hr (znar (show zr 0 1 1 from by decide)) (fun t ht hW => ⟨⟨1, (), rfl, ⟨E.symm.trans etg, (show zr 0 1 1 from by decide)⟩, trivial⟩, hS.F ht⟩) hS.2.2 dPR_isOpen_29
noncomputable def fPR_setHolds (P S : ZS) (x0 : Int32) (x1 : Int32) : ZS := zl (S.F 14 (x0 : Int32).toNatClampNeg) (fun k1 => (if k1 = x1 then S else zl (S.setF 14 (x0 : Int32).toNatClampNeg x1) (fun S2 => zl (P.F 5 (x0 : Int32).toNatClampNeg) (fun k4 => zl (S2.setF 16 (k4 : Int32).toNatClampNeg 0) (fun S5 => zl (S5.setI 11 1) (fun S7 => S7))))))
set_option maxHeartbeats 4000000 in
set_option maxRecDepth 100000 in
theorem tPR_setHolds (l : Launch) (dC : Nat → ClassId) (dI : Nat → Nat → Nat) (cI cZ cJ cA : ClassId) (a0 : Array Value) (s0 : State) (o b : Nat → Nat) (P S : ZS) (sz : Nat) (x0 : Int32) (x1 : Int32) (gP : cok P) (gS : cok S) (r_x0 : zr 0 119 x0) : Met l yPR_setHolds [Cond.code yPR_setHolds bPR_setHolds 3 none] ({ frames := 0, cells := 0, slots := 0, locals := 0 } : Room) (zP zCl dC dI (zTZ cI cZ cJ cA) a0 s0 [.ref (o 4), .int x0, .int x1] sz (CW cI cZ cA o b P S)) (zQG zCl dC dI (fun (x9 : ZS) => x9 = fPR_setHolds P S x0 x1 ∧ cok x9) (fun x9 : ZS => (CW cI cZ cA o b P x9)) (va_A (CW cI cZ cA o b P S) sz)) 0 0 (va_A (CW cI cZ cA o b P S) sz) := by
  refine Met.ofW (cc := bPR_setHolds) (maxL := 3) (ret := none) (by decide) rfl ?_
  intro p e s m args below meth c s₁ B hml hv
  obtain ⟨rfl, hsz, hP, hK, hD0, hB⟩ := hv
  have hx := B.exec
  have hb := B.bytes
  have hr := B.returns
  have hown : s.vm.findClass "RingGuard$Protocol" = some m.cls := findClass_of_methodNamed B.named
  have hlocks := B.notSynchronized
  subst hsz
  have hD := hD0.self (sz := s.heap.size)
  have hA0 := zA0 hD0 hB
  generalize hAe : va_A (CW cI cZ cA o b P S) s.heap.size = A at hD hA0 ⊢
  have hAD := hA0
  have hA : ∀ q : Nat, s.heap.size ≤ q → A q := fun q h => by rw [← hAe]; exact Or.inr h
  have hS : va_S A s.heap s.heap [] := va_S.rf
  have hl := lv_entry ([.ref (o 4), .int x0, .int x1]) (n := 3) (Nat.le_of_ble_eq_true rfl)
  rw [lg_entry_eq]
  generalize (lg_sl ([.ref (o 4), .int x0, .int x1]) ++ List.replicate (3 - (lg_sl ([.ref (o 4), .int x0, .int x1])).length) Slot.unset).toArray = ls at hl ⊢
  have hl : lv_has ls 3 [(0, .ref (o 4)), (1, .int x0), (2, .int x1)] := hl
  refine zgenQ (fun Q hQe => ?_)
  obtain ⟨tg, etg⟩ : ∃ z, z = fPR_setHolds P S x0 x1 := ⟨_, rfl⟩
  have E := etg
  unfold fPR_setHolds at E
  refine lv_aload_n hx hb dPR_setHolds_0 rfl (lv_at hl 0 rfl) ?_
  refine c_getA_14 hx hb (hB.words zU_PR) hown hK hP (hB.word (zm1 k1_133) rfl) dPR_setHolds_1 ?_
  refine lv_iload_n hx hb dPR_setHolds_4 rfl (lv_at hl 1 rfl) ?_
  refine c_aldS hx hb hK hP 14 (by decide) rfl r_x0 (by decide) dPR_setHolds_5 E (fun k1 ek1 E => ?_)
  refine lv_iload_n hx hb dPR_setHolds_6 rfl (lv_at hl 2 rfl) ?_
  refine z_icmp_eq (tgt := 37) hx hb dPR_setHolds_7 (by decide) E (fun c_7 E => ?_) (fun c_7 E => ?_)
  · rw [hQe]
    exact W.vret hx hb hr (fun t ht hW => ⟨⟨S, rfl, ⟨E.symm.trans etg, gS⟩, by rw [ht]; exact hP, hD⟩, hS.F ht⟩) hS.2.2 dPR_setHolds_37
  · refine lv_aload_n hx hb dPR_setHolds_10 rfl (lv_at hl 0 rfl) ?_
    refine c_getA_14 hx hb (hB.words zU_PR) hown hK hP (hB.word (zm1 k1_133) rfl) dPR_setHolds_11 ?_
    refine lv_iload_n hx hb dPR_setHolds_14 rfl (lv_at hl 1 rfl) ?_
    refine lv_iload_n hx hb dPR_setHolds_15 rfl (lv_at hl 2 rfl) ?_
    refine c_astS hx hb hK hP hD hS 14 (by decide) rfl r_x0 (by decide) dPR_setHolds_16 E (fun S2 H3 locs eS2 E hP hD hS => ?_)
    have gS2 : cok S2 := by rw [eS2]; exact gS.setF (k := 14) (zr_any x1) (Or.inl (by decide))
    refine lv_aload_n hx hb dPR_setHolds_17 rfl (lv_at hl 0 rfl) ?_
    refine c_getA_16 hx hb (hB.words zU_PR) hown hK hP (hB.word (zm1 k1_137) rfl) dPR_setHolds_18 ?_
    refine lv_aload_n hx hb dPR_setHolds_21 rfl (lv_at hl 0 rfl) ?_
    refine c_getO_PR_plan hx hb (hB.words zU_PR) hown hK hP (hB.word (zm1 k1_130) rfl) dPR_setHolds_22 ?_
    refine c_getA_5 hx hb (hB.words zU_PL) hown hK hP (hB.word (zm1 k1_53) rfl) dPR_setHolds_25 ?_
    refine lv_iload_n hx hb dPR_setHolds_28 rfl (lv_at hl 1 rfl) ?_
    refine c_aldP hx hb hK hP 5 (by decide) rfl r_x0 (by decide) dPR_setHolds_29 E (fun k4 ek4 E => ?_)
    have r_k4 : zr 0 287 k4 := by rw [ek4]; exact gP.1 5 _
    refine lv_iconst (v := 0) hx hb dPR_setHolds_30 (by decide) ?_
    refine c_astS hx hb hK hP hD hS 16 (by decide) rfl r_k4 (by decide) dPR_setHolds_31 E (fun S5 H6 locs eS5 E hP hD hS => ?_)
    have gS5 : cok S5 := by rw [eS5]; exact gS2.setF (k := 16) (show zr (-2147483648) 2147483647 0 from by decide) (Or.inl (by decide))
    refine lv_aload_n hx hb dPR_setHolds_32 rfl (lv_at hl 0 rfl) ?_
    refine lv_iconst (v := 1) hx hb dPR_setHolds_33 (by decide) ?_
    refine c_put_11 hx hb (hB.words zU_PR) hown hK hP hD hS (hB.word (zm1 k1_148) rfl) (show zr 0 1 1 from by decide) dPR_setHolds_34 E (fun S7 H8 locs eS7 E hP hD hS => ?_)
    have gS7 : cok S7 := by rw [eS7]; exact gS5.setI (t := 11) (show zr 0 1 1 from by decide)
    rw [hQe]
    exact W.vret hx hb hr (fun t ht hW => ⟨⟨S7, rfl, ⟨E.symm.trans etg, gS7⟩, by rw [ht]; exact hP, hD⟩, hS.F ht⟩) hS.2.2 dPR_setHolds_37
noncomputable def fPR_commandPort_42 (P : ZS) (S : ZS) (rc4 : Int32 → Int32 → (Int32)) (x42_1 : Int32) (x42_2 : Int32) : Int32 := zl (x42_2 + 1) (fun k1 => rc4 x42_1 k1)
noncomputable def fPR_commandPort_4 (P : ZS) (S : ZS) (rc4 : Int32 → Int32 → (Int32)) (x4_1 : Int32) (x4_2 : Int32) : Int32 := zl (2 * x4_1) (fun k2 => zl (k2 + 1) (fun k3 => (if k3 < x4_2 then (-1) else zl (P.F 7 (x4_2 : Int32).toNatClampNeg) (fun k4 => (if k4 = (-1) then fPR_commandPort_42 P S rc4 x4_1 x4_2 else zl (S.F 14 (k4 : Int32).toNatClampNeg) (fun k5 => zl (k5 &&& 6) (fun k6 => (if k6 = 0 then fPR_commandPort_42 P S rc4 x4_1 x4_2 else k4))))))))
noncomputable def fPR_commandPort (P S : ZS) (x0 : Int32) : Int32 := zl (2 * x0) (fun k7 => zfix (fun _ _ => 0) (fPR_commandPort_4 P S) 577 x0 k7)
set_option maxHeartbeats 4000000 in
set_option maxRecDepth 100000 in
theorem tPR_commandPort (l : Launch) (dC : Nat → ClassId) (dI : Nat → Nat → Nat) (cI cZ cJ cA : ClassId) (a0 : Array Value) (s0 : State) (o b : Nat → Nat) (P S : ZS) (sz : Nat) (x0 : Int32) (gP : cok P) (gS : cok S) (gQ : zQ P) (r_x0 : zr 0 287 x0) : Met l yPR_commandPort [Cond.code yPR_commandPort bPR_commandPort 4 (some .int)] ({ frames := 0, cells := 0, slots := 0, locals := 0 } : Room) (zP zCl dC dI (zTZ cI cZ cJ cA) a0 s0 [.ref (o 4), .int x0] sz (CW cI cZ cA o b P S)) (zQp (fun r => r = fPR_commandPort P S x0 ∧ zr (-1) 119 r ∧ (r = -1 ∨ zgt P r)) sz) 0 0 (zN sz) := by
  refine Met.ofW (cc := bPR_commandPort) (maxL := 4) (ret := (some .int)) (by decide) rfl ?_
  intro p e s m args below meth c s₁ B hml hv
  obtain ⟨rfl, hsz, hP, hK, hD0, hB⟩ := hv
  have hx := B.exec
  have hb := B.bytes
  have hr := B.returns
  have hown : s.vm.findClass "RingGuard$Protocol" = some m.cls := findClass_of_methodNamed B.named
  have hlocks := B.notSynchronized
  subst hsz
  have hD := hD0
  have hA0 : ∀ q, zN s.heap.size q → s0.heap.size ≤ q := zA1 hB
  have hAD : ∀ q, zN s0.heap.size q → s0.heap.size ≤ q := fun _ h => h
  have hA : ∀ q : Nat, s.heap.size ≤ q → zN s.heap.size q := fun _ h => h
  have hS : va_S (zN s.heap.size) s.heap s.heap [] := va_S.rf
  have hl := lv_entry ([.ref (o 4), .int x0]) (n := 4) (Nat.le_of_ble_eq_true rfl)
  rw [lg_entry_eq]
  generalize (lg_sl ([.ref (o 4), .int x0]) ++ List.replicate (4 - (lg_sl ([.ref (o 4), .int x0])).length) Slot.unset).toArray = ls at hl ⊢
  have hl : lv_has ls 4 [(0, .ref (o 4)), (1, .int x0)] := hl
  refine zgenQ (fun Q hQe => ?_)
  obtain ⟨tg, etg⟩ : ∃ z, z = fPR_commandPort P S x0 := ⟨_, rfl⟩
  have E := etg
  unfold fPR_commandPort at E
  have hL4 : ∀ (n4 : Nat) (H : Heap) (locs : List Loc) (ls : Array Slot) (x4_1 : Int32) (x4_2 : Int32), zr 0 287 x4_1 → zr 0 576 x4_2 → 576 + 1 - x4_2.toInt ≤ (n4 : Int) → tg = zfix (fun _ _ => 0) (fPR_commandPort_4 P S) n4 x4_1 x4_2 → va_P (dC, dI) zCl (CW cI cZ cA o b P S) H → va_S (zN s.heap.size) s.heap H locs → lv_has ls 4 [(0, .ref (o 4)), (1, .int x4_1), (2, .int x4_2)] → W p l e ({ frames := 0, cells := 0, slots := 0, locals := 0 } : Room) s m ([.ref (o 4), .int x0] : List Value).toArray below meth c H locs 0 0 Q (F0 m 4 ls []) := by
    intro n4
    induction n4 with
    | zero => intro H locs ls x4_1 x4_2 r_x4_1 r_x4_2 hm4 E hP hS hl; exact absurd hm4 (zfuel0U r_x4_2)
    | succ n4 ih4 =>
      intro H locs ls x4_1 x4_2 r_x4_1 r_x4_2 hm4 E hP hS hl
      rw [zfix_s] at E
      generalize zfix (fun _ _ => 0) (fPR_commandPort_4 P S) n4 = rc4 at ih4 E
      unfold fPR_commandPort_4 at E
      have hJ42 : ∀ (H : Heap) (locs : List Loc) (ls : Array Slot) (x42_1 : Int32) (x42_2 : Int32), zr 0 287 x42_1 → zr 0 575 x42_2 → 576 + 1 - x42_2.toInt ≤ ((n4 + 1 : Nat) : Int) → tg = fPR_commandPort_42 P S rc4 x42_1 x42_2 → va_P (dC, dI) zCl (CW cI cZ cA o b P S) H → va_S (zN s.heap.size) s.heap H locs → lv_has ls 4 [(0, .ref (o 4)), (1, .int x42_1), (2, .int x42_2)] → W p l e ({ frames := 0, cells := 0, slots := 0, locals := 0 } : Room) s m ([.ref (o 4), .int x0] : List Value).toArray below meth c H locs 0 0 Q (F0 m 42 ls []) := by
        intro H locs ls x42_1 x42_2 r_x42_1 r_x42_2 hm4_42 E hP hS hl
        unfold fPR_commandPort_42 at E
        refine z_iinc (lv' := fun v9 => [(2, .int v9), (0, .ref (o 4)), (1, .int x42_1)]) (cst := 1) hx hb dPR_commandPort_42 hl (k := 2) rfl (by decide) (by decide) (fun _ => rfl) E (fun k1 ls ek1 E hl => ?_)
        have r_k1 : zr 1 576 k1 := zr_add r_x42_2 (show zr 1 1 1 from by decide) ek1 (by decide)
        refine lv_goto (tgt := 4) hx hb dPR_commandPort_45 (by decide) ?_
        exact ih4 H locs ls x42_1 k1 r_x42_1 (zr_mono r_k1 (by decide)) (zstepU ek1 r_x42_2 (by decide) hm4_42) E hP hS (lv_sub hl [1, 2, 0] rfl)
      refine lv_iload_n hx hb dPR_commandPort_4 rfl (lv_at hl 2 rfl) ?_
      refine lv_iconst (v := 2) hx hb dPR_commandPort_5 (by decide) ?_
      refine lv_iload_n hx hb dPR_commandPort_6 rfl (lv_at hl 1 rfl) ?_
      refine z_imul hx hb dPR_commandPort_7 E (fun k2 ek2 E => ?_)
      have r_k2 : zr 0 574 k2 := zr_mul (show zr 2 2 2 from by decide) r_x4_1 ek2 (by decide)
      refine lv_iconst (v := 1) hx hb dPR_commandPort_8 (by decide) ?_
      refine z_iadd hx hb dPR_commandPort_9 E (fun k3 ek3 E => ?_)
      have r_k3 : zr 1 575 k3 := zr_add r_k2 (show zr 1 1 1 from by decide) ek3 (by decide)
      refine z_icmp_gt (tgt := 48) hx hb dPR_commandPort_10 (by decide) E (fun c_10 E => ?_) (fun c_10 E => ?_)
      · have r_x4_2 : zr 2 576 x4_2 := zlt_y r_k3 r_x4_2 c_10 (by decide)
        refine lv_iconst (v := (-1)) hx hb dPR_commandPort_48 (by decide) ?_
        rw [hQe]
        exact W.iret (v := (-1)) hx hb hr (fun t ht hW => ⟨⟨(-1), (), rfl, ⟨E.symm.trans etg, (show zr (-1) 119 (-1) from by decide), (Or.inl rfl)⟩, trivial⟩, hS.F ht⟩) hS.2.2 dPR_commandPort_49
      · have r_x4_2 : zr 0 575 x4_2 := zle_x r_x4_2 r_k3 (znlt c_10) (by decide)
        refine lv_aload_n hx hb dPR_commandPort_13 rfl (lv_at hl 0 rfl) ?_
        refine c_getO_PR_plan hx hb (hB.words zU_PR) hown hK hP (hB.word (zm1 k1_130) rfl) dPR_commandPort_14 ?_
        refine c_getA_7 hx hb (hB.words zU_PL) hown hK hP (hB.word (zm1 k1_57) rfl) dPR_commandPort_17 ?_
        refine lv_iload_n hx hb dPR_commandPort_20 rfl (lv_at hl 2 rfl) ?_
        refine c_aldP hx hb hK hP 7 (by decide) rfl r_x4_2 (by decide) dPR_commandPort_21 E (fun k4 ek4 E => ?_)
        have r_k4 : zr (-1) 119 k4 := by rw [ek4]; exact gP.1 7 _
        have qogp_k4 : k4 = -1 ∨ zgt P k4 := by rw [ek4]; exact gQ.1 _
        refine lv_istore_n (lv' := [(3, .int k4), (0, .ref (o 4)), (1, .int x4_1), (2, .int x4_2)]) hx hb dPR_commandPort_22 rfl hl (by decide) rfl (fun ls hl => ?_)
        refine lv_iload_n hx hb dPR_commandPort_23 rfl (lv_at hl 0 rfl) ?_
        refine lv_iconst (v := (-1)) hx hb dPR_commandPort_24 (by decide) ?_
        refine z_icmp_eq (tgt := 42) hx hb dPR_commandPort_25 (by decide) E (fun c_25 E => ?_) (fun c_25 E => ?_)
        · have r_k4 : zr (-1) (-1) k4 := zeq_x (show zr (-1) (-1) (-1) from by decide) c_25
          exact hJ42 H locs ls x4_1 x4_2 r_x4_1 r_x4_2 hm4 E hP hS (lv_sub hl [1, 2, 3] rfl)
        · have qgp_k4 : zgt P k4 := (qogp_k4).resolve_left c_25
          have r_k4 : zr 0 119 k4 := zne_lo r_k4 c_25 (by decide)
          refine lv_aload_n hx hb dPR_commandPort_28 rfl (lv_at hl 1 rfl) ?_
          refine c_getA_14 hx hb (hB.words zU_PR) hown hK hP (hB.word (zm1 k1_133) rfl) dPR_commandPort_29 ?_
          refine lv_iload_n hx hb dPR_commandPort_32 rfl (lv_at hl 0 rfl) ?_
          refine c_aldS hx hb hK hP 14 (by decide) rfl r_k4 (by decide) dPR_commandPort_33 E (fun k5 ek5 E => ?_)
          refine lv_bipush (v := 6) hx hb dPR_commandPort_34 (by decide) ?_
          refine z_iand hx hb dPR_commandPort_36 E (fun k6 ek6 E => ?_)
          have r_k6 : zr 0 6 k6 := zr_and (c := 6) (by decide) ek6 (by decide)
          refine z_if_eq (tgt := 42) hx hb dPR_commandPort_37 (by decide) E (fun c_37 E => ?_) (fun c_37 E => ?_)
          · have r_k6 : zr 0 0 k6 := zeq_x (show zr 0 0 0 from by decide) c_37
            exact hJ42 H locs ls x4_1 x4_2 r_x4_1 r_x4_2 hm4 E hP hS (lv_sub hl [1, 2, 3] rfl)
          · have r_k6 : zr 1 6 k6 := zne_lo r_k6 c_37 (by decide)
            refine lv_iload_n hx hb dPR_commandPort_40 rfl (lv_at hl 0 rfl) ?_
            rw [hQe]
            exact W.iret (v := k4) hx hb hr (fun t ht hW => ⟨⟨k4, (), rfl, ⟨E.symm.trans etg, (zr_mono r_k4 (by decide)), qogp_k4⟩, trivial⟩, hS.F ht⟩) hS.2.2 dPR_commandPort_41
  refine lv_iconst (v := 2) hx hb dPR_commandPort_0 (by decide) ?_
  refine lv_iload_n hx hb dPR_commandPort_1 rfl (lv_at hl 1 rfl) ?_
  refine z_imul hx hb dPR_commandPort_2 E (fun k7 ek7 E => ?_)
  have r_k7 : zr 0 574 k7 := zr_mul (show zr 2 2 2 from by decide) r_x0 ek7 (by decide)
  refine lv_istore_n (lv' := [(2, .int k7), (0, .ref (o 4)), (1, .int x0)]) hx hb dPR_commandPort_3 rfl hl (by decide) rfl (fun ls hl => ?_)
  exact hL4 577 s.heap [] ls x0 k7 r_x0 (zr_mono r_k7 (by decide)) (by have h9 := r_k7; exact zfuelU h9 (by decide)) E hP hS (lv_sub hl [1, 2, 0] rfl)
noncomputable def fPR_endHold (P S : ZS) (x0 : Int32) (x1 : Int32) : ZS := zl (S.F 14 (x0 : Int32).toNatClampNeg) (fun k1 => zl (x1 ^^^ (-1)) (fun k2 => zl (k1 &&& k2) (fun k3 => zl (k3 ||| 8) (fun k4 => zl (fPR_setHolds P S x0 k4) (fun S6 => zl (P.F 5 (x0 : Int32).toNatClampNeg) (fun k8 => zl (P.I 0) (fun k9 => zl (2 * k9) (fun k10 => zl (k10 + 4) (fun k11 => zl (S6.setF 15 (k8 : Int32).toNatClampNeg k11) (fun S12 => zl (S12.I 10) (fun k14 => zl (k14 + 1) (fun k15 => zl (S12.setI 10 k15) (fun S16 => S16)))))))))))))
set_option maxHeartbeats 4000000 in
set_option maxRecDepth 100000 in
theorem tPR_endHold (l : Launch) (dC : Nat → ClassId) (dI : Nat → Nat → Nat) (cI cZ cJ cA : ClassId) (a0 : Array Value) (s0 : State) (o b : Nat → Nat) (P S : ZS) (sz : Nat) (x0 : Int32) (x1 : Int32) (gP : cok P) (gS : cok S) (r_x0 : zr 0 119 x0) : Met l yPR_endHold [Cond.code yPR_endHold bPR_endHold 3 none] ({ frames := 1, cells := 0, slots := 0, locals := 22 } : Room) (zP zCl dC dI (zTZ cI cZ cJ cA) a0 s0 [.ref (o 4), .int x0, .int x1] sz (CW cI cZ cA o b P S)) (zQG zCl dC dI (fun (x9 : ZS) => x9 = fPR_endHold P S x0 x1 ∧ cok x9) (fun x9 : ZS => (CW cI cZ cA o b P x9)) (va_A (CW cI cZ cA o b P S) sz)) 0 0 (va_A (CW cI cZ cA o b P S) sz) := by
  refine Met.ofW (cc := bPR_endHold) (maxL := 3) (ret := none) (by decide) rfl ?_
  intro p e s m args below meth c s₁ B hml hv
  obtain ⟨rfl, hsz, hP, hK, hD0, hB⟩ := hv
  have hx := B.exec
  have hb := B.bytes
  have hr := B.returns
  have hown : s.vm.findClass "RingGuard$Protocol" = some m.cls := findClass_of_methodNamed B.named
  have hlocks := B.notSynchronized
  subst hsz
  have hD := hD0.self (sz := s.heap.size)
  have hA0 := zA0 hD0 hB
  generalize hAe : va_A (CW cI cZ cA o b P S) s.heap.size = A at hD hA0 ⊢
  have hAD := hA0
  have hA : ∀ q : Nat, s.heap.size ≤ q → A q := fun q h => by rw [← hAe]; exact Or.inr h
  have hS : va_S A s.heap s.heap [] := va_S.rf
  have hl := lv_entry ([.ref (o 4), .int x0, .int x1]) (n := 3) (Nat.le_of_ble_eq_true rfl)
  rw [lg_entry_eq]
  generalize (lg_sl ([.ref (o 4), .int x0, .int x1]) ++ List.replicate (3 - (lg_sl ([.ref (o 4), .int x0, .int x1])).length) Slot.unset).toArray = ls at hl ⊢
  have hl : lv_has ls 3 [(0, .ref (o 4)), (1, .int x0), (2, .int x1)] := hl
  refine zgenQ (fun Q hQe => ?_)
  obtain ⟨tg, etg⟩ : ∃ z, z = fPR_endHold P S x0 x1 := ⟨_, rfl⟩
  have E := etg
  unfold fPR_endHold at E
  refine lv_aload_n hx hb dPR_endHold_0 rfl (lv_at hl 0 rfl) ?_
  refine lv_iload_n hx hb dPR_endHold_1 rfl (lv_at hl 1 rfl) ?_
  refine lv_aload_n hx hb dPR_endHold_2 rfl (lv_at hl 0 rfl) ?_
  refine c_getA_14 hx hb (hB.words zU_PR) hown hK hP (hB.word (zm1 k1_133) rfl) dPR_endHold_3 ?_
  refine lv_iload_n hx hb dPR_endHold_6 rfl (lv_at hl 1 rfl) ?_
  refine c_aldS hx hb hK hP 14 (by decide) rfl r_x0 (by decide) dPR_endHold_7 E (fun k1 ek1 E => ?_)
  refine lv_iload_n hx hb dPR_endHold_8 rfl (lv_at hl 2 rfl) ?_
  refine lv_iconst (v := (-1)) hx hb dPR_endHold_9 (by decide) ?_
  refine z_ixor hx hb dPR_endHold_10 E (fun k2 ek2 E => ?_)
  refine z_iand hx hb dPR_endHold_11 E (fun k3 ek3 E => ?_)
  refine lv_bipush (v := 8) hx hb dPR_endHold_12 (by decide) ?_
  refine z_ior hx hb dPR_endHold_14 E (fun k4 ek4 E => ?_)
  refine zcV (va_runV (As := [.int x0, .int k4]) (rest := []) ⟨hx, hb, hml, hown, zno⟩ (tPR_setHolds l dC dI cI cZ cJ cA a0 s0 o b P S s.heap.size x0 k4 gP gS r_x0) (zcw 2 (hB.word (zm3 k3_24) rfl) (hB.word (zm1 k1_6) rfl) (hB.word (zm3 k3_21) rfl) (hB.word (zm3 k3_23) rfl) (k2_selects_private (by decide) (hB.word (zm1 k1_125) rfl) (hB.word (zm3 k3_22) rfl) (hB.word (zm3 k3_23) rfl)) rfl rfl (by decide +kernel) ⟨Nat.le_of_ble_eq_true rfl, Nat.le_of_ble_eq_true rfl⟩) ⟨zP_blind, va_recv hK hP (ci := 4) (q0 := 4) rfl rfl, zP_pre hP hK hD hAD (zB_on hB hA0 hS)⟩ rfl rfl hl.1 rfl (lv_room (Nat.le_of_ble_eq_true rfl)) dPR_endHold_15 ⟨Nat.le_of_ble_eq_true rfl, Nat.le_of_ble_eq_true rfl⟩) hD hS hA (fun S6 H5 locs h7 hP hD hS => ?_)
  have E := zl_s E h7.1
  have gS6 := h7.2
  refine lv_aload_n hx hb dPR_endHold_18 rfl (lv_at hl 0 rfl) ?_
  refine c_getA_15 hx hb (hB.words zU_PR) hown hK hP (hB.word (zm1 k1_135) rfl) dPR_endHold_19 ?_
  refine lv_aload_n hx hb dPR_endHold_22 rfl (lv_at hl 0 rfl) ?_
  refine c_getO_PR_plan hx hb (hB.words zU_PR) hown hK hP (hB.word (zm1 k1_130) rfl) dPR_endHold_23 ?_
  refine c_getA_5 hx hb (hB.words zU_PL) hown hK hP (hB.word (zm1 k1_53) rfl) dPR_endHold_26 ?_
  refine lv_iload_n hx hb dPR_endHold_29 rfl (lv_at hl 1 rfl) ?_
  refine c_aldP hx hb hK hP 5 (by decide) rfl r_x0 (by decide) dPR_endHold_30 E (fun k8 ek8 E => ?_)
  have r_k8 : zr 0 287 k8 := by rw [ek8]; exact gP.1 5 _
  refine lv_iconst (v := 2) hx hb dPR_endHold_31 (by decide) ?_
  refine lv_aload_n hx hb dPR_endHold_32 rfl (lv_at hl 0 rfl) ?_
  refine c_getO_PR_plan hx hb (hB.words zU_PR) hown hK hP (hB.word (zm1 k1_130) rfl) dPR_endHold_33 ?_
  refine c_get_0 hx hb (hB.words zU_PL) hown hK hP (hB.word (zm1 k1_36) rfl) dPR_endHold_36 E (fun k9 ek9 E => ?_)
  have r_k9 : zr 0 48 k9 := by rw [ek9]; exact gP.2.1 0
  refine z_imul hx hb dPR_endHold_39 E (fun k10 ek10 E => ?_)
  have r_k10 : zr 0 96 k10 := zr_mul (show zr 2 2 2 from by decide) r_k9 ek10 (by decide)
  refine lv_iconst (v := 4) hx hb dPR_endHold_40 (by decide) ?_
  refine z_iadd hx hb dPR_endHold_41 E (fun k11 ek11 E => ?_)
  have r_k11 : zr 4 100 k11 := zr_add r_k10 (show zr 4 4 4 from by decide) ek11 (by decide)
  refine c_astS hx hb hK hP hD hS 15 (by decide) rfl r_k8 (by decide) dPR_endHold_42 E (fun S12 H13 locs eS12 E hP hD hS => ?_)
  have gS12 : cok S12 := by rw [eS12]; exact gS6.setF (k := 15) (zr_any k11) (Or.inl (by decide))
  refine lv_aload_n hx hb dPR_endHold_43 rfl (lv_at hl 0 rfl) ?_
  refine lv_dup hx hb dPR_endHold_44 rfl ?_
  refine c_get_10 hx hb (hB.words zU_PR) hown hK hP (hB.word (zm1 k1_146) rfl) dPR_endHold_45 E (fun k14 ek14 E => ?_)
  refine lv_iconst (v := 1) hx hb dPR_endHold_48 (by decide) ?_
  refine z_iadd hx hb dPR_endHold_49 E (fun k15 ek15 E => ?_)
  refine c_put_10 hx hb (hB.words zU_PR) hown hK hP hD hS (hB.word (zm1 k1_146) rfl) dPR_endHold_50 E (fun S16 H17 locs eS16 E hP hD hS => ?_)
  have gS16 : cok S16 := by rw [eS16]; exact gS12.setI (t := 10) (zr_any k15)
  rw [hQe]
  exact W.vret hx hb hr (fun t ht hW => ⟨⟨S16, rfl, ⟨E.symm.trans etg, gS16⟩, by rw [ht]; exact hP, hD⟩, hS.F ht⟩) hS.2.2 dPR_endHold_53
noncomputable def fPR_endCommand (P S : ZS) (x0 : Int32) : ZS × Int32 := zl (fPR_commandPort P S x0) (fun k2 => (if k2 = (-1) then (S, 0) else zl (S.F 14 (k2 : Int32).toNatClampNeg) (fun k3 => zl (k3 &&& 6) (fun k4 => zl (fPR_endHold P S k2 k4) (fun S6 => (S6, 1))))))
set_option maxHeartbeats 4000000 in
set_option maxRecDepth 100000 in
theorem tPR_endCommand (l : Launch) (dC : Nat → ClassId) (dI : Nat → Nat → Nat) (cI cZ cJ cA : ClassId) (a0 : Array Value) (s0 : State) (o b : Nat → Nat) (P S : ZS) (sz : Nat) (x0 : Int32) (gP : cok P) (gS : cok S) (gQ : zQ P) (r_x0 : zr 0 287 x0) : Met l yPR_endCommand [Cond.code yPR_endCommand bPR_endCommand 3 (some .boolean)] ({ frames := 2, cells := 0, slots := 0, locals := 44 } : Room) (zP zCl dC dI (zTZ cI cZ cJ cA) a0 s0 [.ref (o 4), .int x0] sz (CW cI cZ cA o b P S)) (zQH zCl dC dI (fun (r : Int32) (x9 : ZS) => (x9, r) = fPR_endCommand P S x0 ∧ cok x9 ∧ zr 0 1 r) (fun x9 : ZS => (CW cI cZ cA o b P x9)) (va_A (CW cI cZ cA o b P S) sz)) 0 0 (va_A (CW cI cZ cA o b P S) sz) := by
  refine Met.ofW (cc := bPR_endCommand) (maxL := 3) (ret := (some .boolean)) (by decide) rfl ?_
  intro p e s m args below meth c s₁ B hml hv
  obtain ⟨rfl, hsz, hP, hK, hD0, hB⟩ := hv
  have hx := B.exec
  have hb := B.bytes
  have hr := B.returns
  have hown : s.vm.findClass "RingGuard$Protocol" = some m.cls := findClass_of_methodNamed B.named
  have hlocks := B.notSynchronized
  subst hsz
  have hD := hD0.self (sz := s.heap.size)
  have hA0 := zA0 hD0 hB
  generalize hAe : va_A (CW cI cZ cA o b P S) s.heap.size = A at hD hA0 ⊢
  have hAD := hA0
  have hA : ∀ q : Nat, s.heap.size ≤ q → A q := fun q h => by rw [← hAe]; exact Or.inr h
  have hS : va_S A s.heap s.heap [] := va_S.rf
  have hl := lv_entry ([.ref (o 4), .int x0]) (n := 3) (Nat.le_of_ble_eq_true rfl)
  rw [lg_entry_eq]
  generalize (lg_sl ([.ref (o 4), .int x0]) ++ List.replicate (3 - (lg_sl ([.ref (o 4), .int x0])).length) Slot.unset).toArray = ls at hl ⊢
  have hl : lv_has ls 3 [(0, .ref (o 4)), (1, .int x0)] := hl
  refine zgenQ (fun Q hQe => ?_)
  obtain ⟨tg, etg⟩ : ∃ z, z = fPR_endCommand P S x0 := ⟨_, rfl⟩
  have E := etg
  unfold fPR_endCommand at E
  refine lv_aload_n hx hb dPR_endCommand_0 rfl (lv_at hl 0 rfl) ?_
  refine lv_iload_n hx hb dPR_endCommand_1 rfl (lv_at hl 1 rfl) ?_
  refine zcallp (va_runV (As := [.int x0]) (rest := []) ⟨hx, hb, hml, hown, zno⟩ (tPR_commandPort l dC dI cI cZ cJ cA a0 s0 o b P S s.heap.size x0 gP gS gQ r_x0) (zcw 1 (hB.word (zm3 k3_141) rfl) (hB.word (zm1 k1_6) rfl) (hB.word (zm3 k3_138) rfl) (hB.word (zm3 k3_140) rfl) (k2_selects_private (by decide) (hB.word (zm1 k1_125) rfl) (hB.word (zm3 k3_139) rfl) (hB.word (zm3 k3_140) rfl)) rfl rfl (by decide +kernel) ⟨Nat.le_of_ble_eq_true rfl, Nat.le_of_ble_eq_true rfl⟩) ⟨zP_blind, va_recv hK hP (ci := 4) (q0 := 4) rfl rfl, zP_pre hP hK hD hAD (zB_on hB hA0 hS)⟩ rfl rfl hl.1 rfl (lv_room (Nat.le_of_ble_eq_true rfl)) dPR_endCommand_2 ⟨Nat.le_of_ble_eq_true rfl, Nat.le_of_ble_eq_true rfl⟩) hS hA (fun k2 H1 locs hk2 hz1 hk1 hS => ?_)
  have hP := zKeep hP hk1
  have E := zl_s E hk2.1
  refine lv_istore_n (lv' := [(2, .int k2), (0, .ref (o 4)), (1, .int x0)]) hx hb dPR_endCommand_5 rfl hl (by decide) rfl (fun ls hl => ?_)
  refine lv_iload_n hx hb dPR_endCommand_6 rfl (lv_at hl 0 rfl) ?_
  refine lv_iconst (v := (-1)) hx hb dPR_endCommand_7 (by decide) ?_
  refine z_icmp_ne (tgt := 13) hx hb dPR_endCommand_8 (by decide) E (fun c_8 E => ?_) (fun c_8 E => ?_)
  · have qgp_k2 : zgt P k2 := (hk2.2.2).resolve_left c_8
    have r_k2 : zr 0 119 k2 := zne_lo hk2.2.1 c_8 (by decide)
    refine lv_aload_n hx hb dPR_endCommand_13 rfl (lv_at hl 1 rfl) ?_
    refine lv_iload_n hx hb dPR_endCommand_14 rfl (lv_at hl 0 rfl) ?_
    refine lv_aload_n hx hb dPR_endCommand_15 rfl (lv_at hl 1 rfl) ?_
    refine c_getA_14 hx hb (hB.words zU_PR) hown hK hP (hB.word (zm1 k1_133) rfl) dPR_endCommand_16 ?_
    refine lv_iload_n hx hb dPR_endCommand_19 rfl (lv_at hl 0 rfl) ?_
    refine c_aldS hx hb hK hP 14 (by decide) rfl r_k2 (by decide) dPR_endCommand_20 E (fun k3 ek3 E => ?_)
    refine lv_bipush (v := 6) hx hb dPR_endCommand_21 (by decide) ?_
    refine z_iand hx hb dPR_endCommand_23 E (fun k4 ek4 E => ?_)
    have r_k4 : zr 0 6 k4 := zr_and (c := 6) (by decide) ek4 (by decide)
    refine zcV (va_runV (As := [.int k2, .int k4]) (rest := []) ⟨hx, hb, hml, hown, zno⟩ (tPR_endHold l dC dI cI cZ cJ cA a0 s0 o b P S H1.size k2 k4 gP gS r_k2) (zcw 2 (hB.word (zm3 k3_108) rfl) (hB.word (zm1 k1_6) rfl) (hB.word (zm3 k3_105) rfl) (hB.word (zm3 k3_107) rfl) (k2_selects_private (by decide) (hB.word (zm1 k1_125) rfl) (hB.word (zm3 k3_106) rfl) (hB.word (zm3 k3_107) rfl)) rfl rfl (by decide +kernel) ⟨Nat.le_of_ble_eq_true rfl, Nat.le_of_ble_eq_true rfl⟩) ⟨zP_blind, va_recv hK hP (ci := 4) (q0 := 4) rfl rfl, zP_pre hP hK hD hAD (zB_on hB hA0 hS)⟩ rfl rfl hl.1 rfl (lv_room (Nat.le_of_ble_eq_true rfl)) dPR_endCommand_24 ⟨Nat.le_of_ble_eq_true rfl, Nat.le_of_ble_eq_true rfl⟩) hD hS hA (fun S6 H5 locs h7 hP hD hS => ?_)
    have E := zl_s E h7.1
    have gS6 := h7.2
    refine lv_iconst (v := 1) hx hb dPR_endCommand_27 (by decide) ?_
    rw [hQe]
    exact W.zret (v := 1) (ty := .boolean) hx hb hr (znar (show zr 0 1 1 from by decide)) (fun t ht hW => ⟨⟨1, S6, rfl, ⟨E.symm.trans etg, gS6, (show zr 0 1 1 from by decide)⟩, by rw [ht]; exact hP, hD⟩, hS.F ht⟩) hS.2.2 dPR_endCommand_28
  · have r_k2 : zr (-1) (-1) k2 := zeq_x (show zr (-1) (-1) (-1) from by decide) c_8
    refine lv_iconst (v := 0) hx hb dPR_endCommand_11 (by decide) ?_
    rw [hQe]
    exact W.zret (v := 0) (ty := .boolean) hx hb hr (znar (show zr 0 1 0 from by decide)) (fun t ht hW => ⟨⟨0, S, rfl, ⟨E.symm.trans etg, gS, (show zr 0 1 0 from by decide)⟩, by rw [ht]; exact hP, hD⟩, hS.F ht⟩) hS.2.2 dPR_endCommand_12
noncomputable def fPR_endOwnerHold (P S : ZS) (x0 : Int32) : ZS := zl (fPL_isOwner P S x0) (fun k2 => (if k2 = 0 then S else zl (x0 - x0 / 6 * 6) (fun k3 => zl (P.F 6 (k3 : Int32).toNatClampNeg) (fun k4 => zl (S.F 14 (k4 : Int32).toNatClampNeg) (fun k5 => zl (k5 &&& (-17)) (fun k6 => zl (fPR_setHolds P S k4 k6) (fun S8 => zl (x0 - x0 / 6 * 6) (fun k10 => zl (S8.setF 17 (k10 : Int32).toNatClampNeg 0) (fun S11 => S11)))))))))
set_option maxHeartbeats 4000000 in
set_option maxRecDepth 100000 in
theorem tPR_endOwnerHold (l : Launch) (dC : Nat → ClassId) (dI : Nat → Nat → Nat) (cI cZ cJ cA : ClassId) (a0 : Array Value) (s0 : State) (o b : Nat → Nat) (P S : ZS) (sz : Nat) (x0 : Int32) (gP : cok P) (gS : cok S) (gQ : zQ P) (r_x0 : zr 0 287 x0) (qgl_x0 : zgp P x0) : Met l yPR_endOwnerHold [Cond.code yPR_endOwnerHold bPR_endOwnerHold 3 none] ({ frames := 1, cells := 0, slots := 0, locals := 22 } : Room) (zP zCl dC dI (zTZ cI cZ cJ cA) a0 s0 [.ref (o 4), .int x0] sz (CW cI cZ cA o b P S)) (zQG zCl dC dI (fun (x9 : ZS) => x9 = fPR_endOwnerHold P S x0 ∧ cok x9) (fun x9 : ZS => (CW cI cZ cA o b P x9)) (va_A (CW cI cZ cA o b P S) sz)) 0 0 (va_A (CW cI cZ cA o b P S) sz) := by
  refine Met.ofW (cc := bPR_endOwnerHold) (maxL := 3) (ret := none) (by decide) rfl ?_
  intro p e s m args below meth c s₁ B hml hv
  obtain ⟨rfl, hsz, hP, hK, hD0, hB⟩ := hv
  have hx := B.exec
  have hb := B.bytes
  have hr := B.returns
  have hown : s.vm.findClass "RingGuard$Protocol" = some m.cls := findClass_of_methodNamed B.named
  have hlocks := B.notSynchronized
  subst hsz
  have hD := hD0.self (sz := s.heap.size)
  have hA0 := zA0 hD0 hB
  generalize hAe : va_A (CW cI cZ cA o b P S) s.heap.size = A at hD hA0 ⊢
  have hAD := hA0
  have hA : ∀ q : Nat, s.heap.size ≤ q → A q := fun q h => by rw [← hAe]; exact Or.inr h
  have hS : va_S A s.heap s.heap [] := va_S.rf
  have hl := lv_entry ([.ref (o 4), .int x0]) (n := 3) (Nat.le_of_ble_eq_true rfl)
  rw [lg_entry_eq]
  generalize (lg_sl ([.ref (o 4), .int x0]) ++ List.replicate (3 - (lg_sl ([.ref (o 4), .int x0])).length) Slot.unset).toArray = ls at hl ⊢
  have hl : lv_has ls 3 [(0, .ref (o 4)), (1, .int x0)] := hl
  refine zgenQ (fun Q hQe => ?_)
  obtain ⟨tg, etg⟩ : ∃ z, z = fPR_endOwnerHold P S x0 := ⟨_, rfl⟩
  have E := etg
  unfold fPR_endOwnerHold at E
  refine lv_aload_n hx hb dPR_endOwnerHold_0 rfl (lv_at hl 0 rfl) ?_
  refine c_getO_PR_plan hx hb (hB.words zU_PR) hown hK hP (hB.word (zm1 k1_130) rfl) dPR_endOwnerHold_1 ?_
  refine lv_iload_n hx hb dPR_endOwnerHold_4 rfl (lv_at hl 1 rfl) ?_
  refine zcallp (va_runV (As := [.int x0]) (rest := []) ⟨hx, hb, hml, hown, zno⟩ (tPL_isOwner l dC dI cI cZ cJ cA a0 s0 o b P S s.heap.size x0 gP gS r_x0) (zcw 1 (hB.word (zm3 k3_79) rfl) (hB.word (zm1 k1_2) rfl) (hB.word (zm3 k3_76) rfl) (hB.word (zm3 k3_77) rfl) (hB.word (zm3 k3_78) rfl) rfl rfl (by decide +kernel) ⟨Nat.le_of_ble_eq_true rfl, Nat.le_of_ble_eq_true rfl⟩) ⟨zP_blind, va_recv hK hP (ci := 1) (q0 := 1) rfl rfl, zP_pre hP hK hD hAD (zB_on hB hA0 hS)⟩ rfl rfl hl.1 rfl (lv_room (Nat.le_of_ble_eq_true rfl)) dPR_endOwnerHold_5 ⟨Nat.le_of_ble_eq_true rfl, Nat.le_of_ble_eq_true rfl⟩) hS hA (fun k2 H1 locs hk2 hz1 hk1 hS => ?_)
  have hP := zKeep hP hk1
  have E := zl_s E hk2.1
  refine z_if_eq (tgt := 48) hx hb dPR_endOwnerHold_8 (by decide) E (fun c_8 E => ?_) (fun c_8 E => ?_)
  · have r_k2 : zr 0 0 k2 := zeq_x (show zr 0 0 0 from by decide) c_8
    rw [hQe]
    exact W.vret hx hb hr (fun t ht hW => ⟨⟨S, rfl, ⟨E.symm.trans etg, gS⟩, by rw [ht]; exact hP, hD⟩, hS.F ht⟩) hS.2.2 dPR_endOwnerHold_48
  · have r_k2 : zr 1 1 k2 := zne_lo hk2.2 c_8 (by decide)
    refine lv_aload_n hx hb dPR_endOwnerHold_11 rfl (lv_at hl 0 rfl) ?_
    refine c_getO_PR_plan hx hb (hB.words zU_PR) hown hK hP (hB.word (zm1 k1_130) rfl) dPR_endOwnerHold_12 ?_
    refine c_getA_6 hx hb (hB.words zU_PL) hown hK hP (hB.word (zm1 k1_55) rfl) dPR_endOwnerHold_15 ?_
    refine lv_iload_n hx hb dPR_endOwnerHold_18 rfl (lv_at hl 1 rfl) ?_
    refine lv_bipush (v := 6) hx hb dPR_endOwnerHold_19 (by decide) ?_
    refine z_irem hx hb dPR_endOwnerHold_21 (by decide) E (fun k3 ek3 E => ?_)
    have r_k3 : zr 0 5 k3 := (zr_rem (lo := 0) (hi := 5) r_x0 (c := 6) (by decide) ek3 (by decide)).1
    have qgr_k3 : zgr P k3 := by rw [ek3]; exact qgl_x0
    refine c_aldP hx hb hK hP 6 (by decide) rfl r_k3 (by decide) dPR_endOwnerHold_22 E (fun k4 ek4 E => ?_)
    have r_k4 : zr (-1) 119 k4 := by rw [ek4]; exact gP.1 6 _
    have r_k42 : zr 0 119 k4 := by rw [ek4]; exact qgr_k3
    have qgp_k4 : zgt P k4 := by rw [ek4]; exact zgr_gp gQ qgr_k3
    refine lv_istore_n (lv' := [(2, .int k4), (0, .ref (o 4)), (1, .int x0)]) hx hb dPR_endOwnerHold_23 rfl hl (by decide) rfl (fun ls hl => ?_)
    refine lv_aload_n hx hb dPR_endOwnerHold_24 rfl (lv_at hl 1 rfl) ?_
    refine lv_iload_n hx hb dPR_endOwnerHold_25 rfl (lv_at hl 0 rfl) ?_
    refine lv_aload_n hx hb dPR_endOwnerHold_26 rfl (lv_at hl 1 rfl) ?_
    refine c_getA_14 hx hb (hB.words zU_PR) hown hK hP (hB.word (zm1 k1_133) rfl) dPR_endOwnerHold_27 ?_
    refine lv_iload_n hx hb dPR_endOwnerHold_30 rfl (lv_at hl 0 rfl) ?_
    refine c_aldS hx hb hK hP 14 (by decide) rfl r_k42 (by decide) dPR_endOwnerHold_31 E (fun k5 ek5 E => ?_)
    refine lv_bipush (v := (-17)) hx hb dPR_endOwnerHold_32 (by decide) ?_
    refine z_iand hx hb dPR_endOwnerHold_34 E (fun k6 ek6 E => ?_)
    refine zcV (va_runV (As := [.int k4, .int k6]) (rest := []) ⟨hx, hb, hml, hown, zno⟩ (tPR_setHolds l dC dI cI cZ cJ cA a0 s0 o b P S H1.size k4 k6 gP gS r_k42) (zcw 2 (hB.word (zm3 k3_24) rfl) (hB.word (zm1 k1_6) rfl) (hB.word (zm3 k3_21) rfl) (hB.word (zm3 k3_23) rfl) (k2_selects_private (by decide) (hB.word (zm1 k1_125) rfl) (hB.word (zm3 k3_22) rfl) (hB.word (zm3 k3_23) rfl)) rfl rfl (by decide +kernel) ⟨Nat.le_of_ble_eq_true rfl, Nat.le_of_ble_eq_true rfl⟩) ⟨zP_blind, va_recv hK hP (ci := 4) (q0 := 4) rfl rfl, zP_pre hP hK hD hAD (zB_on hB hA0 hS)⟩ rfl rfl hl.1 rfl (lv_room (Nat.le_of_ble_eq_true rfl)) dPR_endOwnerHold_35 ⟨Nat.le_of_ble_eq_true rfl, Nat.le_of_ble_eq_true rfl⟩) hD hS hA (fun S8 H7 locs h9 hP hD hS => ?_)
    have E := zl_s E h9.1
    have gS8 := h9.2
    refine lv_aload_n hx hb dPR_endOwnerHold_38 rfl (lv_at hl 1 rfl) ?_
    refine c_getA_17 hx hb (hB.words zU_PR) hown hK hP (hB.word (zm1 k1_138) rfl) dPR_endOwnerHold_39 ?_
    refine lv_iload_n hx hb dPR_endOwnerHold_42 rfl (lv_at hl 2 rfl) ?_
    refine lv_bipush (v := 6) hx hb dPR_endOwnerHold_43 (by decide) ?_
    refine z_irem hx hb dPR_endOwnerHold_45 (by decide) E (fun k10 ek10 E => ?_)
    have r_k10 : zr 0 5 k10 := (zr_rem (lo := 0) (hi := 5) r_x0 (c := 6) (by decide) ek10 (by decide)).1
    have qgr_k10 : zgr P k10 := by rw [ek10]; exact qgl_x0
    refine lv_iconst (v := 0) hx hb dPR_endOwnerHold_46 (by decide) ?_
    refine c_astS hx hb hK hP hD hS 17 (by decide) rfl r_k10 (by decide) dPR_endOwnerHold_47 E (fun S11 H12 locs eS11 E hP hD hS => ?_)
    have gS11 : cok S11 := by rw [eS11]; exact gS8.setF (k := 17) (show zr (-2147483648) 2147483647 0 from by decide) (Or.inl (by decide))
    rw [hQe]
    exact W.vret hx hb hr (fun t ht hW => ⟨⟨S11, rfl, ⟨E.symm.trans etg, gS11⟩, by rw [ht]; exact hP, hD⟩, hS.F ht⟩) hS.2.2 dPR_endOwnerHold_48
noncomputable def fPR_beginHold (P S : ZS) (x0 : Int32) (x1 : Int32) : ZS := zl (S.F 14 (x0 : Int32).toNatClampNeg) (fun k1 => zl (k1 ||| x1) (fun k2 => zl (fPR_setHolds P S x0 k2) (fun S4 => zl (P.F 5 (x0 : Int32).toNatClampNeg) (fun k6 => zl (fPR_endOwnerHold P S4 k6) (fun S8 => zl (S8.I 10) (fun k10 => zl (k10 + 1) (fun k11 => zl (S8.setI 10 k11) (fun S12 => S12))))))))
set_option maxHeartbeats 4000000 in
set_option maxRecDepth 100000 in
theorem tPR_beginHold (l : Launch) (dC : Nat → ClassId) (dI : Nat → Nat → Nat) (cI cZ cJ cA : ClassId) (a0 : Array Value) (s0 : State) (o b : Nat → Nat) (P S : ZS) (sz : Nat) (x0 : Int32) (x1 : Int32) (gP : cok P) (gS : cok S) (gQ : zQ P) (r_x0 : zr 0 119 x0) (qgp_x0 : zgt P x0) : Met l yPR_beginHold [Cond.code yPR_beginHold bPR_beginHold 3 none] ({ frames := 2, cells := 0, slots := 0, locals := 44 } : Room) (zP zCl dC dI (zTZ cI cZ cJ cA) a0 s0 [.ref (o 4), .int x0, .int x1] sz (CW cI cZ cA o b P S)) (zQG zCl dC dI (fun (x9 : ZS) => x9 = fPR_beginHold P S x0 x1 ∧ cok x9) (fun x9 : ZS => (CW cI cZ cA o b P x9)) (va_A (CW cI cZ cA o b P S) sz)) 0 0 (va_A (CW cI cZ cA o b P S) sz) := by
  refine Met.ofW (cc := bPR_beginHold) (maxL := 3) (ret := none) (by decide) rfl ?_
  intro p e s m args below meth c s₁ B hml hv
  obtain ⟨rfl, hsz, hP, hK, hD0, hB⟩ := hv
  have hx := B.exec
  have hb := B.bytes
  have hr := B.returns
  have hown : s.vm.findClass "RingGuard$Protocol" = some m.cls := findClass_of_methodNamed B.named
  have hlocks := B.notSynchronized
  subst hsz
  have hD := hD0.self (sz := s.heap.size)
  have hA0 := zA0 hD0 hB
  generalize hAe : va_A (CW cI cZ cA o b P S) s.heap.size = A at hD hA0 ⊢
  have hAD := hA0
  have hA : ∀ q : Nat, s.heap.size ≤ q → A q := fun q h => by rw [← hAe]; exact Or.inr h
  have hS : va_S A s.heap s.heap [] := va_S.rf
  have hl := lv_entry ([.ref (o 4), .int x0, .int x1]) (n := 3) (Nat.le_of_ble_eq_true rfl)
  rw [lg_entry_eq]
  generalize (lg_sl ([.ref (o 4), .int x0, .int x1]) ++ List.replicate (3 - (lg_sl ([.ref (o 4), .int x0, .int x1])).length) Slot.unset).toArray = ls at hl ⊢
  have hl : lv_has ls 3 [(0, .ref (o 4)), (1, .int x0), (2, .int x1)] := hl
  refine zgenQ (fun Q hQe => ?_)
  obtain ⟨tg, etg⟩ : ∃ z, z = fPR_beginHold P S x0 x1 := ⟨_, rfl⟩
  have E := etg
  unfold fPR_beginHold at E
  refine lv_aload_n hx hb dPR_beginHold_0 rfl (lv_at hl 0 rfl) ?_
  refine lv_iload_n hx hb dPR_beginHold_1 rfl (lv_at hl 1 rfl) ?_
  refine lv_aload_n hx hb dPR_beginHold_2 rfl (lv_at hl 0 rfl) ?_
  refine c_getA_14 hx hb (hB.words zU_PR) hown hK hP (hB.word (zm1 k1_133) rfl) dPR_beginHold_3 ?_
  refine lv_iload_n hx hb dPR_beginHold_6 rfl (lv_at hl 1 rfl) ?_
  refine c_aldS hx hb hK hP 14 (by decide) rfl r_x0 (by decide) dPR_beginHold_7 E (fun k1 ek1 E => ?_)
  refine lv_iload_n hx hb dPR_beginHold_8 rfl (lv_at hl 2 rfl) ?_
  refine z_ior hx hb dPR_beginHold_9 E (fun k2 ek2 E => ?_)
  refine zcV (va_runV (As := [.int x0, .int k2]) (rest := []) ⟨hx, hb, hml, hown, zno⟩ (tPR_setHolds l dC dI cI cZ cJ cA a0 s0 o b P S s.heap.size x0 k2 gP gS r_x0) (zcw 2 (hB.word (zm3 k3_24) rfl) (hB.word (zm1 k1_6) rfl) (hB.word (zm3 k3_21) rfl) (hB.word (zm3 k3_23) rfl) (k2_selects_private (by decide) (hB.word (zm1 k1_125) rfl) (hB.word (zm3 k3_22) rfl) (hB.word (zm3 k3_23) rfl)) rfl rfl (by decide +kernel) ⟨Nat.le_of_ble_eq_true rfl, Nat.le_of_ble_eq_true rfl⟩) ⟨zP_blind, va_recv hK hP (ci := 4) (q0 := 4) rfl rfl, zP_pre hP hK hD hAD (zB_on hB hA0 hS)⟩ rfl rfl hl.1 rfl (lv_room (Nat.le_of_ble_eq_true rfl)) dPR_beginHold_10 ⟨Nat.le_of_ble_eq_true rfl, Nat.le_of_ble_eq_true rfl⟩) hD hS hA (fun S4 H3 locs h5 hP hD hS => ?_)
  have E := zl_s E h5.1
  have gS4 := h5.2
  refine lv_aload_n hx hb dPR_beginHold_13 rfl (lv_at hl 0 rfl) ?_
  refine lv_aload_n hx hb dPR_beginHold_14 rfl (lv_at hl 0 rfl) ?_
  refine c_getO_PR_plan hx hb (hB.words zU_PR) hown hK hP (hB.word (zm1 k1_130) rfl) dPR_beginHold_15 ?_
  refine c_getA_5 hx hb (hB.words zU_PL) hown hK hP (hB.word (zm1 k1_53) rfl) dPR_beginHold_18 ?_
  refine lv_iload_n hx hb dPR_beginHold_21 rfl (lv_at hl 1 rfl) ?_
  refine c_aldP hx hb hK hP 5 (by decide) rfl r_x0 (by decide) dPR_beginHold_22 E (fun k6 ek6 E => ?_)
  have r_k6 : zr 0 287 k6 := by rw [ek6]; exact gP.1 5 _
  have qgl_k6 : zgp P k6 := by rw [ek6]; exact qgp_x0
  refine zcV (va_runV (As := [.int k6]) (rest := []) ⟨hx, hb, hml, hown, zno⟩ (tPR_endOwnerHold l dC dI cI cZ cJ cA a0 s0 o b P S4 H3.size k6 gP gS4 gQ r_k6 qgl_k6) (zcw 1 (hB.word (zm3 k3_75) rfl) (hB.word (zm1 k1_6) rfl) (hB.word (zm3 k3_72) rfl) (hB.word (zm3 k3_74) rfl) (k2_selects_private (by decide) (hB.word (zm1 k1_125) rfl) (hB.word (zm3 k3_73) rfl) (hB.word (zm3 k3_74) rfl)) rfl rfl (by decide +kernel) ⟨Nat.le_of_ble_eq_true rfl, Nat.le_of_ble_eq_true rfl⟩) ⟨zP_blind, va_recv hK hP (ci := 4) (q0 := 4) rfl rfl, zP_pre hP hK hD hAD (zB_on hB hA0 hS)⟩ rfl rfl hl.1 rfl (lv_room (Nat.le_of_ble_eq_true rfl)) dPR_beginHold_23 ⟨Nat.le_of_ble_eq_true rfl, Nat.le_of_ble_eq_true rfl⟩) hD hS hA (fun S8 H7 locs h9 hP hD hS => ?_)
  have E := zl_s E h9.1
  have gS8 := h9.2
  refine lv_aload_n hx hb dPR_beginHold_26 rfl (lv_at hl 0 rfl) ?_
  refine lv_dup hx hb dPR_beginHold_27 rfl ?_
  refine c_get_10 hx hb (hB.words zU_PR) hown hK hP (hB.word (zm1 k1_146) rfl) dPR_beginHold_28 E (fun k10 ek10 E => ?_)
  refine lv_iconst (v := 1) hx hb dPR_beginHold_31 (by decide) ?_
  refine z_iadd hx hb dPR_beginHold_32 E (fun k11 ek11 E => ?_)
  refine c_put_10 hx hb (hB.words zU_PR) hown hK hP hD hS (hB.word (zm1 k1_146) rfl) dPR_beginHold_33 E (fun S12 H13 locs eS12 E hP hD hS => ?_)
  have gS12 : cok S12 := by rw [eS12]; exact gS8.setI (t := 10) (zr_any k11)
  rw [hQe]
  exact W.vret hx hb hr (fun t ht hW => ⟨⟨S12, rfl, ⟨E.symm.trans etg, gS12⟩, by rw [ht]; exact hP, hD⟩, hS.F ht⟩) hS.2.2 dPR_beginHold_36
noncomputable def fPR_endWaiting_42 (P : ZS) (rc4 : ZS → Int32 → Int32 → (ZS)) (S_42 : ZS) (x42_1 : Int32) (x42_2 : Int32) : ZS := zl (x42_2 + 1) (fun k1 => rc4 S_42 x42_1 k1)
noncomputable def fPR_endWaiting_4 (P : ZS) (rc4 : ZS → Int32 → Int32 → (ZS)) (S_4 : ZS) (x4_1 : Int32) (x4_2 : Int32) : ZS := zl (2 * x4_1) (fun k2 => zl (k2 + 1) (fun k3 => (if k3 < x4_2 then S_4 else zl (P.F 7 (x4_2 : Int32).toNatClampNeg) (fun k4 => (if k4 = (-1) then fPR_endWaiting_42 P rc4 S_4 x4_1 x4_2 else zl (S_4.F 14 (k4 : Int32).toNatClampNeg) (fun k5 => zl (k5 &&& (-9)) (fun k6 => zl (fPR_setHolds P S_4 k4 k6) (fun S8 => fPR_endWaiting_42 P rc4 S8 x4_1 x4_2))))))))
noncomputable def fPR_endWaiting (P S : ZS) (x0 : Int32) : ZS := zl (2 * x0) (fun k10 => zfix (fun S9 _ _ => S9) (fPR_endWaiting_4 P) 577 S x0 k10)
set_option maxHeartbeats 4000000 in
set_option maxRecDepth 100000 in
theorem tPR_endWaiting (l : Launch) (dC : Nat → ClassId) (dI : Nat → Nat → Nat) (cI cZ cJ cA : ClassId) (a0 : Array Value) (s0 : State) (o b : Nat → Nat) (P S : ZS) (sz : Nat) (x0 : Int32) (gP : cok P) (gS : cok S) (r_x0 : zr 0 287 x0) : Met l yPR_endWaiting [Cond.code yPR_endWaiting bPR_endWaiting 4 none] ({ frames := 1, cells := 0, slots := 0, locals := 22 } : Room) (zP zCl dC dI (zTZ cI cZ cJ cA) a0 s0 [.ref (o 4), .int x0] sz (CW cI cZ cA o b P S)) (zQG zCl dC dI (fun (x9 : ZS) => x9 = fPR_endWaiting P S x0 ∧ cok x9) (fun x9 : ZS => (CW cI cZ cA o b P x9)) (va_A (CW cI cZ cA o b P S) sz)) 0 0 (va_A (CW cI cZ cA o b P S) sz) := by
  refine Met.ofW (cc := bPR_endWaiting) (maxL := 4) (ret := none) (by decide) rfl ?_
  intro p e s m args below meth c s₁ B hml hv
  obtain ⟨rfl, hsz, hP, hK, hD0, hB⟩ := hv
  have hx := B.exec
  have hb := B.bytes
  have hr := B.returns
  have hown : s.vm.findClass "RingGuard$Protocol" = some m.cls := findClass_of_methodNamed B.named
  have hlocks := B.notSynchronized
  subst hsz
  have hD := hD0.self (sz := s.heap.size)
  have hA0 := zA0 hD0 hB
  generalize hAe : va_A (CW cI cZ cA o b P S) s.heap.size = A at hD hA0 ⊢
  have hAD := hA0
  have hA : ∀ q : Nat, s.heap.size ≤ q → A q := fun q h => by rw [← hAe]; exact Or.inr h
  have hS : va_S A s.heap s.heap [] := va_S.rf
  have hl := lv_entry ([.ref (o 4), .int x0]) (n := 4) (Nat.le_of_ble_eq_true rfl)
  rw [lg_entry_eq]
  generalize (lg_sl ([.ref (o 4), .int x0]) ++ List.replicate (4 - (lg_sl ([.ref (o 4), .int x0])).length) Slot.unset).toArray = ls at hl ⊢
  have hl : lv_has ls 4 [(0, .ref (o 4)), (1, .int x0)] := hl
  refine zgenQ (fun Q hQe => ?_)
  obtain ⟨tg, etg⟩ : ∃ z, z = fPR_endWaiting P S x0 := ⟨_, rfl⟩
  have E := etg
  unfold fPR_endWaiting at E
  have hL4 : ∀ (n4 : Nat) (H : Heap) (locs : List Loc) (ls : Array Slot) (S_4 : ZS) (x4_1 : Int32) (x4_2 : Int32), zr 0 287 x4_1 → zr 0 576 x4_2 → cok S_4 → 576 + 1 - x4_2.toInt ≤ (n4 : Int) → tg = zfix (fun S9 _ _ => S9) (fPR_endWaiting_4 P) n4 S_4 x4_1 x4_2 → va_P (dC, dI) zCl (CW cI cZ cA o b P S_4) H → va_D A (CW cI cZ cA o b P S_4) → va_S A s.heap H locs → lv_has ls 4 [(0, .ref (o 4)), (1, .int x4_1), (2, .int x4_2)] → W p l e ({ frames := 1, cells := 0, slots := 0, locals := 22 } : Room) s m ([.ref (o 4), .int x0] : List Value).toArray below meth c H locs 0 0 Q (F0 m 4 ls []) := by
    intro n4
    induction n4 with
    | zero => intro H locs ls S_4 x4_1 x4_2 r_x4_1 r_x4_2 gS_4 hm4 E hP hD hS hl; exact absurd hm4 (zfuel0U r_x4_2)
    | succ n4 ih4 =>
      intro H locs ls S_4 x4_1 x4_2 r_x4_1 r_x4_2 gS_4 hm4 E hP hD hS hl
      rw [zfix_s] at E
      generalize zfix (fun S9 _ _ => S9) (fPR_endWaiting_4 P) n4 = rc4 at ih4 E
      unfold fPR_endWaiting_4 at E
      have hJ42 : ∀ (H : Heap) (locs : List Loc) (ls : Array Slot) (S_42 : ZS) (x42_1 : Int32) (x42_2 : Int32), zr 0 287 x42_1 → zr 0 575 x42_2 → cok S_42 → 576 + 1 - x42_2.toInt ≤ ((n4 + 1 : Nat) : Int) → tg = fPR_endWaiting_42 P rc4 S_42 x42_1 x42_2 → va_P (dC, dI) zCl (CW cI cZ cA o b P S_42) H → va_D A (CW cI cZ cA o b P S_42) → va_S A s.heap H locs → lv_has ls 4 [(0, .ref (o 4)), (1, .int x42_1), (2, .int x42_2)] → W p l e ({ frames := 1, cells := 0, slots := 0, locals := 22 } : Room) s m ([.ref (o 4), .int x0] : List Value).toArray below meth c H locs 0 0 Q (F0 m 42 ls []) := by
        intro H locs ls S_42 x42_1 x42_2 r_x42_1 r_x42_2 gS_42 hm4_42 E hP hD hS hl
        unfold fPR_endWaiting_42 at E
        refine z_iinc (lv' := fun v9 => [(2, .int v9), (0, .ref (o 4)), (1, .int x42_1)]) (cst := 1) hx hb dPR_endWaiting_42 hl (k := 2) rfl (by decide) (by decide) (fun _ => rfl) E (fun k1 ls ek1 E hl => ?_)
        have r_k1 : zr 1 576 k1 := zr_add r_x42_2 (show zr 1 1 1 from by decide) ek1 (by decide)
        refine lv_goto (tgt := 4) hx hb dPR_endWaiting_45 (by decide) ?_
        exact ih4 H locs ls S_42 x42_1 k1 r_x42_1 (zr_mono r_k1 (by decide)) gS_42 (zstepU ek1 r_x42_2 (by decide) hm4_42) E hP hD hS (lv_sub hl [1, 2, 0] rfl)
      refine lv_iload_n hx hb dPR_endWaiting_4 rfl (lv_at hl 2 rfl) ?_
      refine lv_iconst (v := 2) hx hb dPR_endWaiting_5 (by decide) ?_
      refine lv_iload_n hx hb dPR_endWaiting_6 rfl (lv_at hl 1 rfl) ?_
      refine z_imul hx hb dPR_endWaiting_7 E (fun k2 ek2 E => ?_)
      have r_k2 : zr 0 574 k2 := zr_mul (show zr 2 2 2 from by decide) r_x4_1 ek2 (by decide)
      refine lv_iconst (v := 1) hx hb dPR_endWaiting_8 (by decide) ?_
      refine z_iadd hx hb dPR_endWaiting_9 E (fun k3 ek3 E => ?_)
      have r_k3 : zr 1 575 k3 := zr_add r_k2 (show zr 1 1 1 from by decide) ek3 (by decide)
      refine z_icmp_gt (tgt := 48) hx hb dPR_endWaiting_10 (by decide) E (fun c_10 E => ?_) (fun c_10 E => ?_)
      · have r_x4_2 : zr 2 576 x4_2 := zlt_y r_k3 r_x4_2 c_10 (by decide)
        rw [hQe]
        exact W.vret hx hb hr (fun t ht hW => ⟨⟨S_4, rfl, ⟨E.symm.trans etg, gS_4⟩, by rw [ht]; exact hP, hD⟩, hS.F ht⟩) hS.2.2 dPR_endWaiting_48
      · have r_x4_2 : zr 0 575 x4_2 := zle_x r_x4_2 r_k3 (znlt c_10) (by decide)
        refine lv_aload_n hx hb dPR_endWaiting_13 rfl (lv_at hl 0 rfl) ?_
        refine c_getO_PR_plan hx hb (hB.words zU_PR) hown hK hP (hB.word (zm1 k1_130) rfl) dPR_endWaiting_14 ?_
        refine c_getA_7 hx hb (hB.words zU_PL) hown hK hP (hB.word (zm1 k1_57) rfl) dPR_endWaiting_17 ?_
        refine lv_iload_n hx hb dPR_endWaiting_20 rfl (lv_at hl 2 rfl) ?_
        refine c_aldP hx hb hK hP 7 (by decide) rfl r_x4_2 (by decide) dPR_endWaiting_21 E (fun k4 ek4 E => ?_)
        have r_k4 : zr (-1) 119 k4 := by rw [ek4]; exact gP.1 7 _
        refine lv_istore_n (lv' := [(3, .int k4), (0, .ref (o 4)), (1, .int x4_1), (2, .int x4_2)]) hx hb dPR_endWaiting_22 rfl hl (by decide) rfl (fun ls hl => ?_)
        refine lv_iload_n hx hb dPR_endWaiting_23 rfl (lv_at hl 0 rfl) ?_
        refine lv_iconst (v := (-1)) hx hb dPR_endWaiting_24 (by decide) ?_
        refine z_icmp_eq (tgt := 42) hx hb dPR_endWaiting_25 (by decide) E (fun c_25 E => ?_) (fun c_25 E => ?_)
        · have r_k4 : zr (-1) (-1) k4 := zeq_x (show zr (-1) (-1) (-1) from by decide) c_25
          exact hJ42 H locs ls S_4 x4_1 x4_2 r_x4_1 r_x4_2 gS_4 hm4 E hP hD hS (lv_sub hl [1, 2, 3] rfl)
        · have r_k4 : zr 0 119 k4 := zne_lo r_k4 c_25 (by decide)
          refine lv_aload_n hx hb dPR_endWaiting_28 rfl (lv_at hl 1 rfl) ?_
          refine lv_iload_n hx hb dPR_endWaiting_29 rfl (lv_at hl 0 rfl) ?_
          refine lv_aload_n hx hb dPR_endWaiting_30 rfl (lv_at hl 1 rfl) ?_
          refine c_getA_14 hx hb (hB.words zU_PR) hown hK hP (hB.word (zm1 k1_133) rfl) dPR_endWaiting_31 ?_
          refine lv_iload_n hx hb dPR_endWaiting_34 rfl (lv_at hl 0 rfl) ?_
          refine c_aldS hx hb hK hP 14 (by decide) rfl r_k4 (by decide) dPR_endWaiting_35 E (fun k5 ek5 E => ?_)
          refine lv_bipush (v := (-9)) hx hb dPR_endWaiting_36 (by decide) ?_
          refine z_iand hx hb dPR_endWaiting_38 E (fun k6 ek6 E => ?_)
          refine zcV (va_runV (As := [.int k4, .int k6]) (rest := []) ⟨hx, hb, hml, hown, zno⟩ (tPR_setHolds l dC dI cI cZ cJ cA a0 s0 o b P S_4 H.size k4 k6 gP gS_4 r_k4) (zcw 2 (hB.word (zm3 k3_24) rfl) (hB.word (zm1 k1_6) rfl) (hB.word (zm3 k3_21) rfl) (hB.word (zm3 k3_23) rfl) (k2_selects_private (by decide) (hB.word (zm1 k1_125) rfl) (hB.word (zm3 k3_22) rfl) (hB.word (zm3 k3_23) rfl)) rfl rfl (by decide +kernel) ⟨Nat.le_of_ble_eq_true rfl, Nat.le_of_ble_eq_true rfl⟩) ⟨zP_blind, va_recv hK hP (ci := 4) (q0 := 4) rfl rfl, zP_pre hP hK hD hAD (zB_on hB hA0 hS)⟩ rfl rfl hl.1 rfl (lv_room (Nat.le_of_ble_eq_true rfl)) dPR_endWaiting_39 ⟨Nat.le_of_ble_eq_true rfl, Nat.le_of_ble_eq_true rfl⟩) hD hS hA (fun S8 H7 locs h9 hP hD hS => ?_)
          have E := zl_s E h9.1
          have gS8 := h9.2
          exact hJ42 H7 locs ls S8 x4_1 x4_2 r_x4_1 r_x4_2 gS8 hm4 E hP hD hS (lv_sub hl [1, 2, 3] rfl)
  refine lv_iconst (v := 2) hx hb dPR_endWaiting_0 (by decide) ?_
  refine lv_iload_n hx hb dPR_endWaiting_1 rfl (lv_at hl 1 rfl) ?_
  refine z_imul hx hb dPR_endWaiting_2 E (fun k10 ek10 E => ?_)
  have r_k10 : zr 0 574 k10 := zr_mul (show zr 2 2 2 from by decide) r_x0 ek10 (by decide)
  refine lv_istore_n (lv' := [(2, .int k10), (0, .ref (o 4)), (1, .int x0)]) hx hb dPR_endWaiting_3 rfl hl (by decide) rfl (fun ls hl => ?_)
  exact hL4 577 s.heap [] ls S x0 k10 r_x0 (zr_mono r_k10 (by decide)) gS (by have h9 := r_k10; exact zfuelU h9 (by decide)) E hP hD hS (lv_sub hl [1, 2, 0] rfl)
noncomputable def fPR_allHolds_44 (P : ZS) (S : ZS) (rc6 : Int32 → Int32 → Int32 → (Int32)) (x44_1 : Int32) (x44_3 : Int32) (y44_0 : Int32) (y44_1 : Int32) : Int32 := zl (y44_1 ||| y44_0) (fun k1 => zl (x44_3 + 1) (fun k2 => rc6 x44_1 k1 k2))
noncomputable def fPR_allHolds_6 (P : ZS) (S : ZS) (rc6 : Int32 → Int32 → Int32 → (Int32)) (x6_1 : Int32) (x6_2 : Int32) (x6_3 : Int32) : Int32 := zl (2 * x6_1) (fun k3 => zl (k3 + 1) (fun k4 => (if k4 < x6_3 then x6_2 else zl (P.F 7 (x6_3 : Int32).toNatClampNeg) (fun k5 => (if k5 = (-1) then fPR_allHolds_44 P S rc6 x6_1 x6_3 0 x6_2 else zl (S.F 14 (k5 : Int32).toNatClampNeg) (fun k6 => fPR_allHolds_44 P S rc6 x6_1 x6_3 k6 x6_2))))))
noncomputable def fPR_allHolds (P S : ZS) (x0 : Int32) : Int32 := zl (2 * x0) (fun k7 => zfix (fun _ _ _ => 0) (fPR_allHolds_6 P S) 577 x0 0 k7)
set_option maxHeartbeats 4000000 in
set_option maxRecDepth 100000 in
theorem tPR_allHolds (l : Launch) (dC : Nat → ClassId) (dI : Nat → Nat → Nat) (cI cZ cJ cA : ClassId) (a0 : Array Value) (s0 : State) (o b : Nat → Nat) (P S : ZS) (sz : Nat) (x0 : Int32) (gP : cok P) (gS : cok S) (r_x0 : zr 0 287 x0) : Met l yPR_allHolds [Cond.code yPR_allHolds bPR_allHolds 5 (some .int)] ({ frames := 0, cells := 0, slots := 0, locals := 0 } : Room) (zP zCl dC dI (zTZ cI cZ cJ cA) a0 s0 [.ref (o 4), .int x0] sz (CW cI cZ cA o b P S)) (zQp (fun r => r = fPR_allHolds P S x0 ∧ True) sz) 0 0 (zN sz) := by
  refine Met.ofW (cc := bPR_allHolds) (maxL := 5) (ret := (some .int)) (by decide) rfl ?_
  intro p e s m args below meth c s₁ B hml hv
  obtain ⟨rfl, hsz, hP, hK, hD0, hB⟩ := hv
  have hx := B.exec
  have hb := B.bytes
  have hr := B.returns
  have hown : s.vm.findClass "RingGuard$Protocol" = some m.cls := findClass_of_methodNamed B.named
  have hlocks := B.notSynchronized
  subst hsz
  have hD := hD0
  have hA0 : ∀ q, zN s.heap.size q → s0.heap.size ≤ q := zA1 hB
  have hAD : ∀ q, zN s0.heap.size q → s0.heap.size ≤ q := fun _ h => h
  have hA : ∀ q : Nat, s.heap.size ≤ q → zN s.heap.size q := fun _ h => h
  have hS : va_S (zN s.heap.size) s.heap s.heap [] := va_S.rf
  have hl := lv_entry ([.ref (o 4), .int x0]) (n := 5) (Nat.le_of_ble_eq_true rfl)
  rw [lg_entry_eq]
  generalize (lg_sl ([.ref (o 4), .int x0]) ++ List.replicate (5 - (lg_sl ([.ref (o 4), .int x0])).length) Slot.unset).toArray = ls at hl ⊢
  have hl : lv_has ls 5 [(0, .ref (o 4)), (1, .int x0)] := hl
  refine zgenQ (fun Q hQe => ?_)
  obtain ⟨tg, etg⟩ : ∃ z, z = fPR_allHolds P S x0 := ⟨_, rfl⟩
  have E := etg
  unfold fPR_allHolds at E
  have hL6 : ∀ (n6 : Nat) (H : Heap) (locs : List Loc) (ls : Array Slot) (x6_1 : Int32) (x6_2 : Int32) (x6_3 : Int32), zr 0 287 x6_1 → zr 0 576 x6_3 → 576 + 1 - x6_3.toInt ≤ (n6 : Int) → tg = zfix (fun _ _ _ => 0) (fPR_allHolds_6 P S) n6 x6_1 x6_2 x6_3 → va_P (dC, dI) zCl (CW cI cZ cA o b P S) H → va_S (zN s.heap.size) s.heap H locs → lv_has ls 5 [(0, .ref (o 4)), (1, .int x6_1), (2, .int x6_2), (3, .int x6_3)] → W p l e ({ frames := 0, cells := 0, slots := 0, locals := 0 } : Room) s m ([.ref (o 4), .int x0] : List Value).toArray below meth c H locs 0 0 Q (F0 m 6 ls []) := by
    intro n6
    induction n6 with
    | zero => intro H locs ls x6_1 x6_2 x6_3 r_x6_1 r_x6_3 hm6 E hP hS hl; exact absurd hm6 (zfuel0U r_x6_3)
    | succ n6 ih6 =>
      intro H locs ls x6_1 x6_2 x6_3 r_x6_1 r_x6_3 hm6 E hP hS hl
      rw [zfix_s] at E
      generalize zfix (fun _ _ _ => 0) (fPR_allHolds_6 P S) n6 = rc6 at ih6 E
      unfold fPR_allHolds_6 at E
      have hJ44 : ∀ (H : Heap) (locs : List Loc) (ls : Array Slot) (x44_1 : Int32) (x44_3 : Int32) (y44_0 : Int32) (y44_1 : Int32), zr 0 287 x44_1 → zr 0 575 x44_3 → 576 + 1 - x44_3.toInt ≤ ((n6 + 1 : Nat) : Int) → tg = fPR_allHolds_44 P S rc6 x44_1 x44_3 y44_0 y44_1 → va_P (dC, dI) zCl (CW cI cZ cA o b P S) H → va_S (zN s.heap.size) s.heap H locs → lv_has ls 5 [(0, .ref (o 4)), (1, .int x44_1), (3, .int x44_3)] → W p l e ({ frames := 0, cells := 0, slots := 0, locals := 0 } : Room) s m ([.ref (o 4), .int x0] : List Value).toArray below meth c H locs 0 0 Q (F0 m 44 ls [.int y44_0, .int y44_1]) := by
        intro H locs ls x44_1 x44_3 y44_0 y44_1 r_x44_1 r_x44_3 hm6_44 E hP hS hl
        unfold fPR_allHolds_44 at E
        refine z_ior hx hb dPR_allHolds_44 E (fun k1 ek1 E => ?_)
        refine lv_istore_n (lv' := [(2, .int k1), (0, .ref (o 4)), (1, .int x44_1), (3, .int x44_3)]) hx hb dPR_allHolds_45 rfl hl (by decide) rfl (fun ls hl => ?_)
        refine z_iinc (lv' := fun v9 => [(3, .int v9), (2, .int k1), (0, .ref (o 4)), (1, .int x44_1)]) (cst := 1) hx hb dPR_allHolds_46 hl (k := 3) rfl (by decide) (by decide) (fun _ => rfl) E (fun k2 ls ek2 E hl => ?_)
        have r_k2 : zr 1 576 k2 := zr_add r_x44_3 (show zr 1 1 1 from by decide) ek2 (by decide)
        refine lv_goto (tgt := 6) hx hb dPR_allHolds_49 (by decide) ?_
        exact ih6 H locs ls x44_1 k1 k2 r_x44_1 (zr_mono r_k2 (by decide)) (zstepU ek2 r_x44_3 (by decide) hm6_44) E hP hS (lv_sub hl [2, 3, 1, 0] rfl)
      refine lv_iload_n hx hb dPR_allHolds_6 rfl (lv_at hl 3 rfl) ?_
      refine lv_iconst (v := 2) hx hb dPR_allHolds_7 (by decide) ?_
      refine lv_iload_n hx hb dPR_allHolds_8 rfl (lv_at hl 1 rfl) ?_
      refine z_imul hx hb dPR_allHolds_9 E (fun k3 ek3 E => ?_)
      have r_k3 : zr 0 574 k3 := zr_mul (show zr 2 2 2 from by decide) r_x6_1 ek3 (by decide)
      refine lv_iconst (v := 1) hx hb dPR_allHolds_10 (by decide) ?_
      refine z_iadd hx hb dPR_allHolds_11 E (fun k4 ek4 E => ?_)
      have r_k4 : zr 1 575 k4 := zr_add r_k3 (show zr 1 1 1 from by decide) ek4 (by decide)
      refine z_icmp_gt (tgt := 52) hx hb dPR_allHolds_12 (by decide) E (fun c_12 E => ?_) (fun c_12 E => ?_)
      · have r_x6_3 : zr 2 576 x6_3 := zlt_y r_k4 r_x6_3 c_12 (by decide)
        refine lv_iload_n hx hb dPR_allHolds_52 rfl (lv_at hl 2 rfl) ?_
        rw [hQe]
        exact W.iret (v := x6_2) hx hb hr (fun t ht hW => ⟨⟨x6_2, (), rfl, ⟨E.symm.trans etg, trivial⟩, trivial⟩, hS.F ht⟩) hS.2.2 dPR_allHolds_53
      · have r_x6_3 : zr 0 575 x6_3 := zle_x r_x6_3 r_k4 (znlt c_12) (by decide)
        refine lv_aload_n hx hb dPR_allHolds_15 rfl (lv_at hl 0 rfl) ?_
        refine c_getO_PR_plan hx hb (hB.words zU_PR) hown hK hP (hB.word (zm1 k1_130) rfl) dPR_allHolds_16 ?_
        refine c_getA_7 hx hb (hB.words zU_PL) hown hK hP (hB.word (zm1 k1_57) rfl) dPR_allHolds_19 ?_
        refine lv_iload_n hx hb dPR_allHolds_22 rfl (lv_at hl 3 rfl) ?_
        refine c_aldP hx hb hK hP 7 (by decide) rfl r_x6_3 (by decide) dPR_allHolds_23 E (fun k5 ek5 E => ?_)
        have r_k5 : zr (-1) 119 k5 := by rw [ek5]; exact gP.1 7 _
        refine lv_istore (lv' := [(4, .int k5), (0, .ref (o 4)), (1, .int x6_1), (2, .int x6_2), (3, .int x6_3)]) hx hb dPR_allHolds_24 hl (by decide) rfl (fun ls hl => ?_)
        refine lv_iload_n hx hb dPR_allHolds_26 rfl (lv_at hl 3 rfl) ?_
        refine lv_iload hx hb dPR_allHolds_27 (lv_at hl 0 rfl) ?_
        refine lv_iconst (v := (-1)) hx hb dPR_allHolds_29 (by decide) ?_
        refine z_icmp_ne (tgt := 37) hx hb dPR_allHolds_30 (by decide) E (fun c_30 E => ?_) (fun c_30 E => ?_)
        · have r_k5 : zr 0 119 k5 := zne_lo r_k5 c_30 (by decide)
          refine lv_aload_n hx hb dPR_allHolds_37 rfl (lv_at hl 1 rfl) ?_
          refine c_getA_14 hx hb (hB.words zU_PR) hown hK hP (hB.word (zm1 k1_133) rfl) dPR_allHolds_38 ?_
          refine lv_iload hx hb dPR_allHolds_41 (lv_at hl 0 rfl) ?_
          refine c_aldS hx hb hK hP 14 (by decide) rfl r_k5 (by decide) dPR_allHolds_43 E (fun k6 ek6 E => ?_)
          exact hJ44 H locs ls x6_1 x6_3 k6 x6_2 r_x6_1 r_x6_3 hm6 E hP hS (lv_sub hl [1, 2, 4] rfl)
        · have r_k5 : zr (-1) (-1) k5 := zeq_x (show zr (-1) (-1) (-1) from by decide) c_30
          refine lv_iconst (v := 0) hx hb dPR_allHolds_33 (by decide) ?_
          refine lv_goto (tgt := 44) hx hb dPR_allHolds_34 (by decide) ?_
          exact hJ44 H locs ls x6_1 x6_3 0 x6_2 r_x6_1 r_x6_3 hm6 E hP hS (lv_sub hl [1, 2, 4] rfl)
  refine lv_iconst (v := 0) hx hb dPR_allHolds_0 (by decide) ?_
  refine lv_istore_n (lv' := [(2, .int 0), (0, .ref (o 4)), (1, .int x0)]) hx hb dPR_allHolds_1 rfl hl (by decide) rfl (fun ls hl => ?_)
  refine lv_iconst (v := 2) hx hb dPR_allHolds_2 (by decide) ?_
  refine lv_iload_n hx hb dPR_allHolds_3 rfl (lv_at hl 2 rfl) ?_
  refine z_imul hx hb dPR_allHolds_4 E (fun k7 ek7 E => ?_)
  have r_k7 : zr 0 574 k7 := zr_mul (show zr 2 2 2 from by decide) r_x0 ek7 (by decide)
  refine lv_istore_n (lv' := [(3, .int k7), (2, .int 0), (0, .ref (o 4)), (1, .int x0)]) hx hb dPR_allHolds_5 rfl hl (by decide) rfl (fun ls hl => ?_)
  exact hL6 577 s.heap [] ls x0 0 k7 r_x0 (zr_mono r_k7 (by decide)) (by have h9 := r_k7; exact zfuelU h9 (by decide)) E hP hS (lv_sub hl [2, 3, 1, 0] rfl)
noncomputable def fPR_hasAnyCommand_2 (P : ZS) (S : ZS) (rc2 : Int32 → (Int32)) (x2_1 : Int32) : Int32 := zl (P.I 1) (fun k1 => zl (2 * k1) (fun k2 => (if k2 ≤ x2_1 then 0 else zl (S.F 14 (x2_1 : Int32).toNatClampNeg) (fun k3 => zl (k3 &&& 6) (fun k4 => (if k4 = 0 then zl (x2_1 + 1) (fun k5 => rc2 k5) else 1))))))
noncomputable def fPR_hasAnyCommand (P S : ZS) : Int32 := zfix (fun _ => 0) (fPR_hasAnyCommand_2 P S) 121 0
set_option maxHeartbeats 4000000 in
set_option maxRecDepth 100000 in
theorem tPR_hasAnyCommand (l : Launch) (dC : Nat → ClassId) (dI : Nat → Nat → Nat) (cI cZ cJ cA : ClassId) (a0 : Array Value) (s0 : State) (o b : Nat → Nat) (P S : ZS) (sz : Nat) (gP : cok P) (gS : cok S) : Met l yPR_hasAnyCommand [Cond.code yPR_hasAnyCommand bPR_hasAnyCommand 2 (some .boolean)] ({ frames := 0, cells := 0, slots := 0, locals := 0 } : Room) (zP zCl dC dI (zTZ cI cZ cJ cA) a0 s0 [.ref (o 4)] sz (CW cI cZ cA o b P S)) (zQp (fun r => r = fPR_hasAnyCommand P S  ∧ zr 0 1 r) sz) 0 0 (zN sz) := by
  refine Met.ofW (cc := bPR_hasAnyCommand) (maxL := 2) (ret := (some .boolean)) (by decide) rfl ?_
  intro p e s m args below meth c s₁ B hml hv
  obtain ⟨rfl, hsz, hP, hK, hD0, hB⟩ := hv
  have hx := B.exec
  have hb := B.bytes
  have hr := B.returns
  have hown : s.vm.findClass "RingGuard$Protocol" = some m.cls := findClass_of_methodNamed B.named
  have hlocks := B.notSynchronized
  subst hsz
  have hD := hD0
  have hA0 : ∀ q, zN s.heap.size q → s0.heap.size ≤ q := zA1 hB
  have hAD : ∀ q, zN s0.heap.size q → s0.heap.size ≤ q := fun _ h => h
  have hA : ∀ q : Nat, s.heap.size ≤ q → zN s.heap.size q := fun _ h => h
  have hS : va_S (zN s.heap.size) s.heap s.heap [] := va_S.rf
  have hl := lv_entry ([.ref (o 4)]) (n := 2) (Nat.le_of_ble_eq_true rfl)
  rw [lg_entry_eq]
  generalize (lg_sl ([.ref (o 4)]) ++ List.replicate (2 - (lg_sl ([.ref (o 4)])).length) Slot.unset).toArray = ls at hl ⊢
  have hl : lv_has ls 2 [(0, .ref (o 4))] := hl
  refine zgenQ (fun Q hQe => ?_)
  obtain ⟨tg, etg⟩ : ∃ z, z = fPR_hasAnyCommand P S  := ⟨_, rfl⟩
  have E := etg
  unfold fPR_hasAnyCommand at E
  have hL2 : ∀ (n2 : Nat) (H : Heap) (locs : List Loc) (ls : Array Slot) (x2_1 : Int32), zr 0 120 x2_1 → 120 + 1 - x2_1.toInt ≤ (n2 : Int) → tg = zfix (fun _ => 0) (fPR_hasAnyCommand_2 P S) n2 x2_1 → va_P (dC, dI) zCl (CW cI cZ cA o b P S) H → va_S (zN s.heap.size) s.heap H locs → lv_has ls 2 [(0, .ref (o 4)), (1, .int x2_1)] → W p l e ({ frames := 0, cells := 0, slots := 0, locals := 0 } : Room) s m ([.ref (o 4)] : List Value).toArray below meth c H locs 0 0 Q (F0 m 2 ls []) := by
    intro n2
    induction n2 with
    | zero => intro H locs ls x2_1 r_x2_1 hm2 E hP hS hl; exact absurd hm2 (zfuel0U r_x2_1)
    | succ n2 ih2 =>
      intro H locs ls x2_1 r_x2_1 hm2 E hP hS hl
      rw [zfix_s] at E
      generalize zfix (fun _ => 0) (fPR_hasAnyCommand_2 P S) n2 = rc2 at ih2 E
      unfold fPR_hasAnyCommand_2 at E
      refine lv_iload_n hx hb dPR_hasAnyCommand_2 rfl (lv_at hl 1 rfl) ?_
      refine lv_iconst (v := 2) hx hb dPR_hasAnyCommand_3 (by decide) ?_
      refine lv_aload_n hx hb dPR_hasAnyCommand_4 rfl (lv_at hl 0 rfl) ?_
      refine c_getO_PR_plan hx hb (hB.words zU_PR) hown hK hP (hB.word (zm1 k1_130) rfl) dPR_hasAnyCommand_5 ?_
      refine c_get_1 hx hb (hB.words zU_PL) hown hK hP (hB.word (zm1 k1_40) rfl) dPR_hasAnyCommand_8 E (fun k1 ek1 E => ?_)
      have r_k1 : zr 0 60 k1 := by rw [ek1]; exact gP.2.1 1
      refine z_imul hx hb dPR_hasAnyCommand_11 E (fun k2 ek2 E => ?_)
      have r_k2 : zr 0 120 k2 := zr_mul (show zr 2 2 2 from by decide) r_k1 ek2 (by decide)
      refine z_icmp_ge (tgt := 35) hx hb dPR_hasAnyCommand_12 (by decide) E (fun c_12 E => ?_) (fun c_12 E => ?_)
      · refine lv_iconst (v := 0) hx hb dPR_hasAnyCommand_35 (by decide) ?_
        rw [hQe]
        exact W.zret (v := 0) (ty := .boolean) hx hb hr (znar (show zr 0 1 0 from by decide)) (fun t ht hW => ⟨⟨0, (), rfl, ⟨E.symm.trans etg, (show zr 0 1 0 from by decide)⟩, trivial⟩, hS.F ht⟩) hS.2.2 dPR_hasAnyCommand_36
      · have r_x2_1 : zr 0 119 x2_1 := zlt_x r_x2_1 r_k2 (znle c_12) (by decide)
        have r_k2 : zr 1 120 k2 := zlt_y r_x2_1 r_k2 (znle c_12) (by decide)
        refine lv_aload_n hx hb dPR_hasAnyCommand_15 rfl (lv_at hl 0 rfl) ?_
        refine c_getA_14 hx hb (hB.words zU_PR) hown hK hP (hB.word (zm1 k1_133) rfl) dPR_hasAnyCommand_16 ?_
        refine lv_iload_n hx hb dPR_hasAnyCommand_19 rfl (lv_at hl 1 rfl) ?_
        refine c_aldS hx hb hK hP 14 (by decide) rfl r_x2_1 (by decide) dPR_hasAnyCommand_20 E (fun k3 ek3 E => ?_)
        refine lv_bipush (v := 6) hx hb dPR_hasAnyCommand_21 (by decide) ?_
        refine z_iand hx hb dPR_hasAnyCommand_23 E (fun k4 ek4 E => ?_)
        have r_k4 : zr 0 6 k4 := zr_and (c := 6) (by decide) ek4 (by decide)
        refine z_if_eq (tgt := 29) hx hb dPR_hasAnyCommand_24 (by decide) E (fun c_24 E => ?_) (fun c_24 E => ?_)
        · have r_k4 : zr 0 0 k4 := zeq_x (show zr 0 0 0 from by decide) c_24
          refine z_iinc (lv' := fun v9 => [(1, .int v9), (0, .ref (o 4))]) (cst := 1) hx hb dPR_hasAnyCommand_29 hl (k := 1) rfl (by decide) (by decide) (fun _ => rfl) E (fun k5 ls ek5 E hl => ?_)
          have r_k5 : zr 1 120 k5 := zr_add r_x2_1 (show zr 1 1 1 from by decide) ek5 (by decide)
          refine lv_goto (tgt := 2) hx hb dPR_hasAnyCommand_32 (by decide) ?_
          exact ih2 H locs ls k5 (zr_mono r_k5 (by decide)) (zstepU ek5 r_x2_1 (by decide) hm2) E hP hS (lv_sub hl [1, 0] rfl)
        · have r_k4 : zr 1 6 k4 := zne_lo r_k4 c_24 (by decide)
          refine lv_iconst (v := 1) hx hb dPR_hasAnyCommand_27 (by decide) ?_
          rw [hQe]
          exact W.zret (v := 1) (ty := .boolean) hx hb hr (znar (show zr 0 1 1 from by decide)) (fun t ht hW => ⟨⟨1, (), rfl, ⟨E.symm.trans etg, (show zr 0 1 1 from by decide)⟩, trivial⟩, hS.F ht⟩) hS.2.2 dPR_hasAnyCommand_28
  refine lv_iconst (v := 0) hx hb dPR_hasAnyCommand_0 (by decide) ?_
  refine lv_istore_n (lv' := [(1, .int 0), (0, .ref (o 4))]) hx hb dPR_hasAnyCommand_1 rfl hl (by decide) rfl (fun ls hl => ?_)
  exact hL2 121 s.heap [] ls 0 (show zr 0 120 0 from by decide) (by have h9 := (show zr 0 0 0 from by decide); exact zfuelU h9 (by decide)) E hP hS (lv_sub hl [1, 0] rfl)
noncomputable def fPR_hasRingWithTwoFailures_47 (P : ZS) (S : ZS) (rc4 : Int32 → Int32 → (Int32)) (x47_1 : Int32) (x47_2 : Int32) : Int32 := zl (x47_2 + 1) (fun k1 => rc4 x47_1 k1)
noncomputable def fPR_hasRingWithTwoFailures_4 (P : ZS) (S : ZS) (rc4 : Int32 → Int32 → (Int32)) (x4_1 : Int32) (x4_2 : Int32) : Int32 := zl (P.I 1) (fun k2 => (if k2 ≤ x4_2 then 0 else zl (fPR_hasFailed P S x4_2) (fun k4 => (if k4 = 0 then fPR_hasRingWithTwoFailures_47 P S rc4 x4_1 x4_2 else zl (P.F 2 (x4_2 : Int32).toNatClampNeg) (fun k5 => zl (1 <<< (k5 &&& 31)) (fun k6 => zl (x4_1 &&& k6) (fun k7 => (if k7 = 0 then zl (x4_1 ||| k6) (fun k8 => fPR_hasRingWithTwoFailures_47 P S rc4 k8 x4_2) else 1))))))))
noncomputable def fPR_hasRingWithTwoFailures (P S : ZS) : Int32 := zfix (fun _ _ => 0) (fPR_hasRingWithTwoFailures_4 P S) 61 0 0
set_option maxHeartbeats 4000000 in
set_option maxRecDepth 100000 in
theorem tPR_hasRingWithTwoFailures (l : Launch) (dC : Nat → ClassId) (dI : Nat → Nat → Nat) (cI cZ cJ cA : ClassId) (a0 : Array Value) (s0 : State) (o b : Nat → Nat) (P S : ZS) (sz : Nat) (gP : cok P) (gS : cok S) : Met l yPR_hasRingWithTwoFailures [Cond.code yPR_hasRingWithTwoFailures bPR_hasRingWithTwoFailures 4 (some .boolean)] ({ frames := 2, cells := 0, slots := 0, locals := 42 } : Room) (zP zCl dC dI (zTZ cI cZ cJ cA) a0 s0 [.ref (o 4)] sz (CW cI cZ cA o b P S)) (zQp (fun r => r = fPR_hasRingWithTwoFailures P S  ∧ zr 0 1 r) sz) 0 0 (zN sz) := by
  refine Met.ofW (cc := bPR_hasRingWithTwoFailures) (maxL := 4) (ret := (some .boolean)) (by decide) rfl ?_
  intro p e s m args below meth c s₁ B hml hv
  obtain ⟨rfl, hsz, hP, hK, hD0, hB⟩ := hv
  have hx := B.exec
  have hb := B.bytes
  have hr := B.returns
  have hown : s.vm.findClass "RingGuard$Protocol" = some m.cls := findClass_of_methodNamed B.named
  have hlocks := B.notSynchronized
  subst hsz
  have hD := hD0
  have hA0 : ∀ q, zN s.heap.size q → s0.heap.size ≤ q := zA1 hB
  have hAD : ∀ q, zN s0.heap.size q → s0.heap.size ≤ q := fun _ h => h
  have hA : ∀ q : Nat, s.heap.size ≤ q → zN s.heap.size q := fun _ h => h
  have hS : va_S (zN s.heap.size) s.heap s.heap [] := va_S.rf
  have hl := lv_entry ([.ref (o 4)]) (n := 4) (Nat.le_of_ble_eq_true rfl)
  rw [lg_entry_eq]
  generalize (lg_sl ([.ref (o 4)]) ++ List.replicate (4 - (lg_sl ([.ref (o 4)])).length) Slot.unset).toArray = ls at hl ⊢
  have hl : lv_has ls 4 [(0, .ref (o 4))] := hl
  refine zgenQ (fun Q hQe => ?_)
  obtain ⟨tg, etg⟩ : ∃ z, z = fPR_hasRingWithTwoFailures P S  := ⟨_, rfl⟩
  have E := etg
  unfold fPR_hasRingWithTwoFailures at E
  have hL4 : ∀ (n4 : Nat) (H : Heap) (locs : List Loc) (ls : Array Slot) (x4_1 : Int32) (x4_2 : Int32), zr 0 60 x4_2 → 60 + 1 - x4_2.toInt ≤ (n4 : Int) → tg = zfix (fun _ _ => 0) (fPR_hasRingWithTwoFailures_4 P S) n4 x4_1 x4_2 → va_P (dC, dI) zCl (CW cI cZ cA o b P S) H → va_S (zN s.heap.size) s.heap H locs → lv_has ls 4 [(0, .ref (o 4)), (1, .int x4_1), (2, .int x4_2)] → W p l e ({ frames := 2, cells := 0, slots := 0, locals := 42 } : Room) s m ([.ref (o 4)] : List Value).toArray below meth c H locs 0 0 Q (F0 m 4 ls []) := by
    intro n4
    induction n4 with
    | zero => intro H locs ls x4_1 x4_2 r_x4_2 hm4 E hP hS hl; exact absurd hm4 (zfuel0U r_x4_2)
    | succ n4 ih4 =>
      intro H locs ls x4_1 x4_2 r_x4_2 hm4 E hP hS hl
      rw [zfix_s] at E
      generalize zfix (fun _ _ => 0) (fPR_hasRingWithTwoFailures_4 P S) n4 = rc4 at ih4 E
      unfold fPR_hasRingWithTwoFailures_4 at E
      have hJ47 : ∀ (H : Heap) (locs : List Loc) (ls : Array Slot) (x47_1 : Int32) (x47_2 : Int32), zr 0 59 x47_2 → 60 + 1 - x47_2.toInt ≤ ((n4 + 1 : Nat) : Int) → tg = fPR_hasRingWithTwoFailures_47 P S rc4 x47_1 x47_2 → va_P (dC, dI) zCl (CW cI cZ cA o b P S) H → va_S (zN s.heap.size) s.heap H locs → lv_has ls 4 [(0, .ref (o 4)), (1, .int x47_1), (2, .int x47_2)] → W p l e ({ frames := 2, cells := 0, slots := 0, locals := 42 } : Room) s m ([.ref (o 4)] : List Value).toArray below meth c H locs 0 0 Q (F0 m 47 ls []) := by
        intro H locs ls x47_1 x47_2 r_x47_2 hm4_47 E hP hS hl
        unfold fPR_hasRingWithTwoFailures_47 at E
        refine z_iinc (lv' := fun v9 => [(2, .int v9), (0, .ref (o 4)), (1, .int x47_1)]) (cst := 1) hx hb dPR_hasRingWithTwoFailures_47 hl (k := 2) rfl (by decide) (by decide) (fun _ => rfl) E (fun k1 ls ek1 E hl => ?_)
        have r_k1 : zr 1 60 k1 := zr_add r_x47_2 (show zr 1 1 1 from by decide) ek1 (by decide)
        refine lv_goto (tgt := 4) hx hb dPR_hasRingWithTwoFailures_50 (by decide) ?_
        exact ih4 H locs ls x47_1 k1 (zr_mono r_k1 (by decide)) (zstepU ek1 r_x47_2 (by decide) hm4_47) E hP hS (lv_sub hl [1, 2, 0] rfl)
      refine lv_iload_n hx hb dPR_hasRingWithTwoFailures_4 rfl (lv_at hl 2 rfl) ?_
      refine lv_aload_n hx hb dPR_hasRingWithTwoFailures_5 rfl (lv_at hl 0 rfl) ?_
      refine c_getO_PR_plan hx hb (hB.words zU_PR) hown hK hP (hB.word (zm1 k1_130) rfl) dPR_hasRingWithTwoFailures_6 ?_
      refine c_get_1 hx hb (hB.words zU_PL) hown hK hP (hB.word (zm1 k1_40) rfl) dPR_hasRingWithTwoFailures_9 E (fun k2 ek2 E => ?_)
      have r_k2 : zr 0 60 k2 := by rw [ek2]; exact gP.2.1 1
      refine z_icmp_ge (tgt := 53) hx hb dPR_hasRingWithTwoFailures_12 (by decide) E (fun c_12 E => ?_) (fun c_12 E => ?_)
      · refine lv_iconst (v := 0) hx hb dPR_hasRingWithTwoFailures_53 (by decide) ?_
        rw [hQe]
        exact W.zret (v := 0) (ty := .boolean) hx hb hr (znar (show zr 0 1 0 from by decide)) (fun t ht hW => ⟨⟨0, (), rfl, ⟨E.symm.trans etg, (show zr 0 1 0 from by decide)⟩, trivial⟩, hS.F ht⟩) hS.2.2 dPR_hasRingWithTwoFailures_54
      · have r_x4_2 : zr 0 59 x4_2 := zlt_x r_x4_2 r_k2 (znle c_12) (by decide)
        have r_k2 : zr 1 60 k2 := zlt_y r_x4_2 r_k2 (znle c_12) (by decide)
        refine lv_aload_n hx hb dPR_hasRingWithTwoFailures_15 rfl (lv_at hl 0 rfl) ?_
        refine lv_iload_n hx hb dPR_hasRingWithTwoFailures_16 rfl (lv_at hl 2 rfl) ?_
        refine zcallp (va_runV (As := [.int x4_2]) (rest := []) ⟨hx, hb, hml, hown, zno⟩ (tPR_hasFailed l dC dI cI cZ cJ cA a0 s0 o b P S H.size x4_2 gP gS r_x4_2) (zcw 1 (hB.word (zm3 k3_63) rfl) (hB.word (zm1 k1_6) rfl) (hB.word (zm4 k4_19) rfl) (hB.word (zm3 k3_61) rfl) (hB.word (zm3 k3_62) rfl) rfl rfl (by decide +kernel) ⟨Nat.le_of_ble_eq_true rfl, Nat.le_of_ble_eq_true rfl⟩) ⟨zP_blind, va_recv hK hP (ci := 4) (q0 := 4) rfl rfl, zP_pre hP hK hD hAD (zB_on hB hA0 hS)⟩ rfl rfl hl.1 rfl (lv_room (Nat.le_of_ble_eq_true rfl)) dPR_hasRingWithTwoFailures_17 ⟨Nat.le_of_ble_eq_true rfl, Nat.le_of_ble_eq_true rfl⟩) hS hA (fun k4 H3 locs hk4 hz1 hk1 hS => ?_)
        have hP := zKeep hP hk1
        have E := zl_s E hk4.1
        refine z_if_eq (tgt := 47) hx hb dPR_hasRingWithTwoFailures_20 (by decide) E (fun c_20 E => ?_) (fun c_20 E => ?_)
        · have r_k4 : zr 0 0 k4 := zeq_x (show zr 0 0 0 from by decide) c_20
          exact hJ47 H3 locs ls x4_1 x4_2 r_x4_2 hm4 E hP hS (lv_sub hl [0, 1, 2] rfl)
        · have r_k4 : zr 1 1 k4 := zne_lo hk4.2 c_20 (by decide)
          refine lv_iconst (v := 1) hx hb dPR_hasRingWithTwoFailures_23 (by decide) ?_
          refine lv_aload_n hx hb dPR_hasRingWithTwoFailures_24 rfl (lv_at hl 0 rfl) ?_
          refine c_getO_PR_plan hx hb (hB.words zU_PR) hown hK hP (hB.word (zm1 k1_130) rfl) dPR_hasRingWithTwoFailures_25 ?_
          refine c_getA_2 hx hb (hB.words zU_PL) hown hK hP (hB.word (zm1 k1_46) rfl) dPR_hasRingWithTwoFailures_28 ?_
          refine lv_iload_n hx hb dPR_hasRingWithTwoFailures_31 rfl (lv_at hl 2 rfl) ?_
          refine c_aldP hx hb hK hP 2 (by decide) rfl r_x4_2 (by decide) dPR_hasRingWithTwoFailures_32 E (fun k5 ek5 E => ?_)
          have r_k5 : zr 0 5 k5 := by rw [ek5]; exact gP.1 2 _
          refine z_ishl hx hb dPR_hasRingWithTwoFailures_33 E (fun k6 ek6 E => ?_)
          refine lv_istore_n (lv' := [(3, .int k6), (0, .ref (o 4)), (1, .int x4_1), (2, .int x4_2)]) hx hb dPR_hasRingWithTwoFailures_34 rfl hl (by decide) rfl (fun ls hl => ?_)
          refine lv_iload_n hx hb dPR_hasRingWithTwoFailures_35 rfl (lv_at hl 2 rfl) ?_
          refine lv_iload_n hx hb dPR_hasRingWithTwoFailures_36 rfl (lv_at hl 0 rfl) ?_
          refine z_iand hx hb dPR_hasRingWithTwoFailures_37 E (fun k7 ek7 E => ?_)
          refine z_if_eq (tgt := 43) hx hb dPR_hasRingWithTwoFailures_38 (by decide) E (fun c_38 E => ?_) (fun c_38 E => ?_)
          · have r_k7 : zr 0 0 k7 := zeq_x (show zr 0 0 0 from by decide) c_38
            refine lv_iload_n hx hb dPR_hasRingWithTwoFailures_43 rfl (lv_at hl 2 rfl) ?_
            refine lv_iload_n hx hb dPR_hasRingWithTwoFailures_44 rfl (lv_at hl 0 rfl) ?_
            refine z_ior hx hb dPR_hasRingWithTwoFailures_45 E (fun k8 ek8 E => ?_)
            refine lv_istore_n (lv' := [(1, .int k8), (3, .int k6), (0, .ref (o 4)), (2, .int x4_2)]) hx hb dPR_hasRingWithTwoFailures_46 rfl hl (by decide) rfl (fun ls hl => ?_)
            exact hJ47 H3 locs ls k8 x4_2 r_x4_2 hm4 E hP hS (lv_sub hl [2, 0, 3] rfl)
          · refine lv_iconst (v := 1) hx hb dPR_hasRingWithTwoFailures_41 (by decide) ?_
            rw [hQe]
            exact W.zret (v := 1) (ty := .boolean) hx hb hr (znar (show zr 0 1 1 from by decide)) (fun t ht hW => ⟨⟨1, (), rfl, ⟨E.symm.trans etg, (show zr 0 1 1 from by decide)⟩, trivial⟩, hS.F ht⟩) hS.2.2 dPR_hasRingWithTwoFailures_42
  refine lv_iconst (v := 0) hx hb dPR_hasRingWithTwoFailures_0 (by decide) ?_
  refine lv_istore_n (lv' := [(1, .int 0), (0, .ref (o 4))]) hx hb dPR_hasRingWithTwoFailures_1 rfl hl (by decide) rfl (fun ls hl => ?_)
  refine lv_iconst (v := 0) hx hb dPR_hasRingWithTwoFailures_2 (by decide) ?_
  refine lv_istore_n (lv' := [(2, .int 0), (1, .int 0), (0, .ref (o 4))]) hx hb dPR_hasRingWithTwoFailures_3 rfl hl (by decide) rfl (fun ls hl => ?_)
  exact hL4 61 s.heap [] ls 0 0 (show zr 0 60 0 from by decide) (by have h9 := (show zr 0 0 0 from by decide); exact zfuelU h9 (by decide)) E hP hS (lv_sub hl [2, 1, 0] rfl)
noncomputable def fPR_putFromPorts_51 (P : ZS) (rc4 : ZS → Int32 → Int32 → Int32 → (ZS)) (S_51 : ZS) (x51_1 : Int32) (x51_2 : Int32) (x51_3 : Int32) : ZS := zl (x51_3 + 1) (fun k1 => rc4 S_51 x51_1 x51_2 k1)
noncomputable def fPR_putFromPorts_4 (P : ZS) (rc4 : ZS → Int32 → Int32 → Int32 → (ZS)) (S_4 : ZS) (x4_1 : Int32) (x4_2 : Int32) (x4_3 : Int32) : ZS := zl (2 * x4_1) (fun k2 => zl (k2 + 1) (fun k3 => (if k3 < x4_3 then S_4 else zl (P.F 7 (x4_3 : Int32).toNatClampNeg) (fun k4 => (if k4 = (-1) then fPR_putFromPorts_51 P rc4 S_4 x4_1 x4_2 x4_3 else zl (fPR_isDown P S_4 k4) (fun k6 => (if k6 = 0 then zl (k4 ^^^ 1) (fun k7 => zl (fWI_put P S_4 k7 x4_2) (fun S9 => fPR_putFromPorts_51 P rc4 S9 x4_1 x4_2 x4_3)) else fPR_putFromPorts_51 P rc4 S_4 x4_1 x4_2 x4_3)))))))
noncomputable def fPR_putFromPorts (P S : ZS) (x0 : Int32) (x1 : Int32) : ZS := zl (2 * x0) (fun k11 => zfix (fun S9 _ _ _ => S9) (fPR_putFromPorts_4 P) 577 S x0 x1 k11)
set_option maxHeartbeats 4000000 in
set_option maxRecDepth 100000 in
theorem tPR_putFromPorts (l : Launch) (dC : Nat → ClassId) (dI : Nat → Nat → Nat) (cI cZ cJ cA : ClassId) (a0 : Array Value) (s0 : State) (o b : Nat → Nat) (P S : ZS) (sz : Nat) (x0 : Int32) (x1 : Int32) (gP : cok P) (gS : cok S) (r_x0 : zr 0 287 x0) (qck_x1 : zck x1) : Met l yPR_putFromPorts [Cond.code yPR_putFromPorts bPR_putFromPorts 5 none] ({ frames := 1, cells := 0, slots := 0, locals := 23 } : Room) (zP zCl dC dI (zTZ cI cZ cJ cA) a0 s0 [.ref (o 4), .int x0, .int x1] sz (CW cI cZ cA o b P S)) (zQG zCl dC dI (fun (x9 : ZS) => x9 = fPR_putFromPorts P S x0 x1 ∧ cok x9) (fun x9 : ZS => (CW cI cZ cA o b P x9)) (va_A (CW cI cZ cA o b P S) sz)) 0 0 (va_A (CW cI cZ cA o b P S) sz) := by
  refine Met.ofW (cc := bPR_putFromPorts) (maxL := 5) (ret := none) (by decide) rfl ?_
  intro p e s m args below meth c s₁ B hml hv
  obtain ⟨rfl, hsz, hP, hK, hD0, hB⟩ := hv
  have hx := B.exec
  have hb := B.bytes
  have hr := B.returns
  have hown : s.vm.findClass "RingGuard$Protocol" = some m.cls := findClass_of_methodNamed B.named
  have hlocks := B.notSynchronized
  subst hsz
  have hD := hD0.self (sz := s.heap.size)
  have hA0 := zA0 hD0 hB
  generalize hAe : va_A (CW cI cZ cA o b P S) s.heap.size = A at hD hA0 ⊢
  have hAD := hA0
  have hA : ∀ q : Nat, s.heap.size ≤ q → A q := fun q h => by rw [← hAe]; exact Or.inr h
  have hS : va_S A s.heap s.heap [] := va_S.rf
  have hl := lv_entry ([.ref (o 4), .int x0, .int x1]) (n := 5) (Nat.le_of_ble_eq_true rfl)
  rw [lg_entry_eq]
  generalize (lg_sl ([.ref (o 4), .int x0, .int x1]) ++ List.replicate (5 - (lg_sl ([.ref (o 4), .int x0, .int x1])).length) Slot.unset).toArray = ls at hl ⊢
  have hl : lv_has ls 5 [(0, .ref (o 4)), (1, .int x0), (2, .int x1)] := hl
  refine zgenQ (fun Q hQe => ?_)
  obtain ⟨tg, etg⟩ : ∃ z, z = fPR_putFromPorts P S x0 x1 := ⟨_, rfl⟩
  have E := etg
  unfold fPR_putFromPorts at E
  have hL4 : ∀ (n4 : Nat) (H : Heap) (locs : List Loc) (ls : Array Slot) (S_4 : ZS) (x4_1 : Int32) (x4_2 : Int32) (x4_3 : Int32), zr 0 287 x4_1 → (zck x4_2) → (x4_2 = -1 ∨ zck x4_2) → zr 0 576 x4_3 → cok S_4 → 576 + 1 - x4_3.toInt ≤ (n4 : Int) → tg = zfix (fun S9 _ _ _ => S9) (fPR_putFromPorts_4 P) n4 S_4 x4_1 x4_2 x4_3 → va_P (dC, dI) zCl (CW cI cZ cA o b P S_4) H → va_D A (CW cI cZ cA o b P S_4) → va_S A s.heap H locs → lv_has ls 5 [(0, .ref (o 4)), (1, .int x4_1), (2, .int x4_2), (3, .int x4_3)] → W p l e ({ frames := 1, cells := 0, slots := 0, locals := 23 } : Room) s m ([.ref (o 4), .int x0, .int x1] : List Value).toArray below meth c H locs 0 0 Q (F0 m 4 ls []) := by
    intro n4
    induction n4 with
    | zero => intro H locs ls S_4 x4_1 x4_2 x4_3 r_x4_1 qck_x4_2 qock_x4_2 r_x4_3 gS_4 hm4 E hP hD hS hl; exact absurd hm4 (zfuel0U r_x4_3)
    | succ n4 ih4 =>
      intro H locs ls S_4 x4_1 x4_2 x4_3 r_x4_1 qck_x4_2 qock_x4_2 r_x4_3 gS_4 hm4 E hP hD hS hl
      rw [zfix_s] at E
      generalize zfix (fun S9 _ _ _ => S9) (fPR_putFromPorts_4 P) n4 = rc4 at ih4 E
      unfold fPR_putFromPorts_4 at E
      have hJ51 : ∀ (H : Heap) (locs : List Loc) (ls : Array Slot) (S_51 : ZS) (x51_1 : Int32) (x51_2 : Int32) (x51_3 : Int32), zr 0 287 x51_1 → (zck x51_2) → (x51_2 = -1 ∨ zck x51_2) → zr 0 575 x51_3 → cok S_51 → 576 + 1 - x51_3.toInt ≤ ((n4 + 1 : Nat) : Int) → tg = fPR_putFromPorts_51 P rc4 S_51 x51_1 x51_2 x51_3 → va_P (dC, dI) zCl (CW cI cZ cA o b P S_51) H → va_D A (CW cI cZ cA o b P S_51) → va_S A s.heap H locs → lv_has ls 5 [(0, .ref (o 4)), (1, .int x51_1), (2, .int x51_2), (3, .int x51_3)] → W p l e ({ frames := 1, cells := 0, slots := 0, locals := 23 } : Room) s m ([.ref (o 4), .int x0, .int x1] : List Value).toArray below meth c H locs 0 0 Q (F0 m 51 ls []) := by
        intro H locs ls S_51 x51_1 x51_2 x51_3 r_x51_1 qck_x51_2 qock_x51_2 r_x51_3 gS_51 hm4_51 E hP hD hS hl
        unfold fPR_putFromPorts_51 at E
        refine z_iinc (lv' := fun v9 => [(3, .int v9), (0, .ref (o 4)), (1, .int x51_1), (2, .int x51_2)]) (cst := 1) hx hb dPR_putFromPorts_51 hl (k := 3) rfl (by decide) (by decide) (fun _ => rfl) E (fun k1 ls ek1 E hl => ?_)
        have r_k1 : zr 1 576 k1 := zr_add r_x51_3 (show zr 1 1 1 from by decide) ek1 (by decide)
        refine lv_goto (tgt := 4) hx hb dPR_putFromPorts_54 (by decide) ?_
        exact ih4 H locs ls S_51 x51_1 x51_2 k1 r_x51_1 qck_x51_2 qock_x51_2 (zr_mono r_k1 (by decide)) gS_51 (zstepU ek1 r_x51_3 (by decide) hm4_51) E hP hD hS (lv_sub hl [1, 2, 3, 0] rfl)
      refine lv_iload_n hx hb dPR_putFromPorts_4 rfl (lv_at hl 3 rfl) ?_
      refine lv_iconst (v := 2) hx hb dPR_putFromPorts_5 (by decide) ?_
      refine lv_iload_n hx hb dPR_putFromPorts_6 rfl (lv_at hl 1 rfl) ?_
      refine z_imul hx hb dPR_putFromPorts_7 E (fun k2 ek2 E => ?_)
      have r_k2 : zr 0 574 k2 := zr_mul (show zr 2 2 2 from by decide) r_x4_1 ek2 (by decide)
      refine lv_iconst (v := 1) hx hb dPR_putFromPorts_8 (by decide) ?_
      refine z_iadd hx hb dPR_putFromPorts_9 E (fun k3 ek3 E => ?_)
      have r_k3 : zr 1 575 k3 := zr_add r_k2 (show zr 1 1 1 from by decide) ek3 (by decide)
      refine z_icmp_gt (tgt := 57) hx hb dPR_putFromPorts_10 (by decide) E (fun c_10 E => ?_) (fun c_10 E => ?_)
      · have r_x4_3 : zr 2 576 x4_3 := zlt_y r_k3 r_x4_3 c_10 (by decide)
        rw [hQe]
        exact W.vret hx hb hr (fun t ht hW => ⟨⟨S_4, rfl, ⟨E.symm.trans etg, gS_4⟩, by rw [ht]; exact hP, hD⟩, hS.F ht⟩) hS.2.2 dPR_putFromPorts_57
      · have r_x4_3 : zr 0 575 x4_3 := zle_x r_x4_3 r_k3 (znlt c_10) (by decide)
        refine lv_aload_n hx hb dPR_putFromPorts_13 rfl (lv_at hl 0 rfl) ?_
        refine c_getO_PR_plan hx hb (hB.words zU_PR) hown hK hP (hB.word (zm1 k1_130) rfl) dPR_putFromPorts_14 ?_
        refine c_getA_7 hx hb (hB.words zU_PL) hown hK hP (hB.word (zm1 k1_57) rfl) dPR_putFromPorts_17 ?_
        refine lv_iload_n hx hb dPR_putFromPorts_20 rfl (lv_at hl 3 rfl) ?_
        refine c_aldP hx hb hK hP 7 (by decide) rfl r_x4_3 (by decide) dPR_putFromPorts_21 E (fun k4 ek4 E => ?_)
        have r_k4 : zr (-1) 119 k4 := by rw [ek4]; exact gP.1 7 _
        refine lv_istore (lv' := [(4, .int k4), (0, .ref (o 4)), (1, .int x4_1), (2, .int x4_2), (3, .int x4_3)]) hx hb dPR_putFromPorts_22 hl (by decide) rfl (fun ls hl => ?_)
        refine lv_iload hx hb dPR_putFromPorts_24 (lv_at hl 0 rfl) ?_
        refine lv_iconst (v := (-1)) hx hb dPR_putFromPorts_26 (by decide) ?_
        refine z_icmp_eq (tgt := 51) hx hb dPR_putFromPorts_27 (by decide) E (fun c_27 E => ?_) (fun c_27 E => ?_)
        · have r_k4 : zr (-1) (-1) k4 := zeq_x (show zr (-1) (-1) (-1) from by decide) c_27
          exact hJ51 H locs ls S_4 x4_1 x4_2 x4_3 r_x4_1 qck_x4_2 qock_x4_2 r_x4_3 gS_4 hm4 E hP hD hS (lv_sub hl [1, 2, 3, 4] rfl)
        · have r_k4 : zr 0 119 k4 := zne_lo r_k4 c_27 (by decide)
          refine lv_aload_n hx hb dPR_putFromPorts_30 rfl (lv_at hl 1 rfl) ?_
          refine lv_iload hx hb dPR_putFromPorts_31 (lv_at hl 0 rfl) ?_
          refine zcallp (va_runV (As := [.int k4]) (rest := []) ⟨hx, hb, hml, hown, zno⟩ (tPR_isDown l dC dI cI cZ cJ cA a0 s0 o b P S_4 H.size k4 gP gS_4 r_k4) (zcw 1 (hB.word (zm3 k3_43) rfl) (hB.word (zm1 k1_6) rfl) (hB.word (zm3 k3_40) rfl) (hB.word (zm3 k3_42) rfl) (k2_selects_private (by decide) (hB.word (zm1 k1_125) rfl) (hB.word (zm3 k3_41) rfl) (hB.word (zm3 k3_42) rfl)) rfl rfl (by decide +kernel) ⟨Nat.le_of_ble_eq_true rfl, Nat.le_of_ble_eq_true rfl⟩) ⟨zP_blind, va_recv hK hP (ci := 4) (q0 := 4) rfl rfl, zP_pre hP hK hD hAD (zB_on hB hA0 hS)⟩ rfl rfl hl.1 rfl (lv_room (Nat.le_of_ble_eq_true rfl)) dPR_putFromPorts_33 ⟨Nat.le_of_ble_eq_true rfl, Nat.le_of_ble_eq_true rfl⟩) hS hA (fun k6 H5 locs hk6 hz1 hk1 hS => ?_)
          have hP := zKeep hP hk1
          have E := zl_s E hk6.1
          refine z_if_ne (tgt := 51) hx hb dPR_putFromPorts_36 (by decide) E (fun c_36 E => ?_) (fun c_36 E => ?_)
          · have r_k6 : zr 1 1 k6 := zne_lo hk6.2 c_36 (by decide)
            exact hJ51 H5 locs ls S_4 x4_1 x4_2 x4_3 r_x4_1 qck_x4_2 qock_x4_2 r_x4_3 gS_4 hm4 E hP hD hS (lv_sub hl [1, 2, 3, 4] rfl)
          · have r_k6 : zr 0 0 k6 := zeq_x (show zr 0 0 0 from by decide) c_36
            refine lv_aload_n hx hb dPR_putFromPorts_39 rfl (lv_at hl 1 rfl) ?_
            refine c_getO_PR_wires hx hb (hB.words zU_PR) hown hK hP (hB.word (zm1 k1_131) rfl) dPR_putFromPorts_40 ?_
            refine lv_iload hx hb dPR_putFromPorts_43 (lv_at hl 0 rfl) ?_
            refine lv_iconst (v := 1) hx hb dPR_putFromPorts_45 (by decide) ?_
            refine z_ixor hx hb dPR_putFromPorts_46 E (fun k7 ek7 E => ?_)
            have r_k7 : zr 0 119 k7 := zr_xor r_k4 ek7 (by decide)
            refine lv_iload_n hx hb dPR_putFromPorts_47 rfl (lv_at hl 3 rfl) ?_
            refine zcV (va_runV (As := [.int k7, .int x4_2]) (rest := []) ⟨hx, hb, hml, hown, zno⟩ (tWI_put l dC dI cI cZ cJ cA a0 s0 o b P S_4 H5.size k7 x4_2 gP gS_4 r_k7 qck_x4_2) (zcw 2 (hB.word (zm3 k3_47) rfl) (hB.word (zm1 k1_4) rfl) (hB.word (zm3 k3_44) rfl) (hB.word (zm3 k3_45) rfl) (hB.word (zm3 k3_46) rfl) rfl rfl (by decide +kernel) ⟨Nat.le_of_ble_eq_true rfl, Nat.le_of_ble_eq_true rfl⟩) ⟨zP_blind, va_recv hK hP (ci := 2) (q0 := 2) rfl rfl, zP_pre hP hK hD hAD (zB_on hB hA0 hS)⟩ rfl rfl hl.1 rfl (lv_room (Nat.le_of_ble_eq_true rfl)) dPR_putFromPorts_48 ⟨Nat.le_of_ble_eq_true rfl, Nat.le_of_ble_eq_true rfl⟩) hD hS hA (fun S9 H8 locs h10 hP hD hS => ?_)
            have E := zl_s E h10.1
            have gS9 := h10.2
            exact hJ51 H8 locs ls S9 x4_1 x4_2 x4_3 r_x4_1 qck_x4_2 qock_x4_2 r_x4_3 gS9 hm4 E hP hD hS (lv_sub hl [1, 2, 3, 4] rfl)
  refine lv_iconst (v := 2) hx hb dPR_putFromPorts_0 (by decide) ?_
  refine lv_iload_n hx hb dPR_putFromPorts_1 rfl (lv_at hl 1 rfl) ?_
  refine z_imul hx hb dPR_putFromPorts_2 E (fun k11 ek11 E => ?_)
  have r_k11 : zr 0 574 k11 := zr_mul (show zr 2 2 2 from by decide) r_x0 ek11 (by decide)
  refine lv_istore_n (lv' := [(3, .int k11), (0, .ref (o 4)), (1, .int x0), (2, .int x1)]) hx hb dPR_putFromPorts_3 rfl hl (by decide) rfl (fun ls hl => ?_)
  exact hL4 577 s.heap [] ls S x0 x1 k11 r_x0 qck_x1 (Or.inr qck_x1) (zr_mono r_k11 (by decide)) gS (by have h9 := r_k11; exact zfuelU h9 (by decide)) E hP hD hS (lv_sub hl [1, 2, 3, 0] rfl)
noncomputable def fPR_takeNews_98 (P : ZS) (rc68 : ZS → Int32 → Int32 → Int32 → Int32 → (ZS)) (S_98 : ZS) (x98_1 : Int32) (x98_4 : Int32) (x98_6 : Int32) (x98_7 : Int32) : ZS := zl (x98_7 + 1) (fun k1 => rc68 S_98 x98_1 x98_4 x98_6 k1)
noncomputable def fPR_takeNews_68 (P : ZS) (rc68 : ZS → Int32 → Int32 → Int32 → Int32 → (ZS)) (S_68 : ZS) (x68_1 : Int32) (x68_4 : Int32) (x68_6 : Int32) (x68_7 : Int32) : ZS := (if 6 ≤ x68_7 then S_68 else zl (x68_1 - x68_1 / 6 * 6) (fun k2 => (if x68_7 = k2 then fPR_takeNews_98 P rc68 S_68 x68_1 x68_4 x68_6 x68_7 else zl (x68_4 * 6) (fun k3 => zl (k3 + x68_7) (fun k4 => zl (fPR_putFromPorts P S_68 k4 x68_6) (fun S6 => fPR_takeNews_98 P rc68 S6 x68_1 x68_4 x68_6 x68_7))))))
noncomputable def fPR_takeNews (P S : ZS) (x0 : Int32) (x1 : Int32) (x2 : Int32) : ZS := zl (x0 / 6) (fun k8 => zl (k8 * 114) (fun k9 => zl (k9 + x1) (fun k10 => zl (S.F 21 (k10 : Int32).toNatClampNeg) (fun k11 => (if k11 < x2 then zl (S.setF 21 (k10 : Int32).toNatClampNeg x2) (fun S12 => zl (S12.F 22 (k8 : Int32).toNatClampNeg) (fun k14 => zl (k14 + 1) (fun k15 => zl (S12.setF 22 (k8 : Int32).toNatClampNeg k15) (fun S16 => zl (fTA_forgetAll P S16 k8) (fun S19 => zl (fCA_of P S19 5 k8 x1 x2) (fun k22 => zfix (fun S9 _ _ _ _ => S9) (fPR_takeNews_68 P) 7 S19 x0 k8 k22 0)))))) else S)))))
set_option maxHeartbeats 4000000 in
set_option maxRecDepth 100000 in
theorem tPR_takeNews (l : Launch) (dC : Nat → ClassId) (dI : Nat → Nat → Nat) (cI cZ cJ cA : ClassId) (a0 : Array Value) (s0 : State) (o b : Nat → Nat) (P S : ZS) (sz : Nat) (x0 : Int32) (x1 : Int32) (x2 : Int32) (gP : cok P) (gS : cok S) (r_x0 : zr 0 287 x0) (r_x1 : zr 0 113 x1) : Met l yPR_takeNews [Cond.code yPR_takeNews bPR_takeNews 8 none] ({ frames := 2, cells := 0, slots := 0, locals := 47 } : Room) (zP zCl dC dI (zTZ cI cZ cJ cA) a0 s0 [.ref (o 4), .int x0, .int x1, .int x2] sz (CW cI cZ cA o b P S)) (zQG zCl dC dI (fun (x9 : ZS) => x9 = fPR_takeNews P S x0 x1 x2 ∧ cok x9) (fun x9 : ZS => (CW cI cZ cA o b P x9)) (va_A (CW cI cZ cA o b P S) sz)) 0 0 (va_A (CW cI cZ cA o b P S) sz) := by
  refine Met.ofW (cc := bPR_takeNews) (maxL := 8) (ret := none) (by decide) rfl ?_
  intro p e s m args below meth c s₁ B hml hv
  obtain ⟨rfl, hsz, hP, hK, hD0, hB⟩ := hv
  have hx := B.exec
  have hb := B.bytes
  have hr := B.returns
  have hown : s.vm.findClass "RingGuard$Protocol" = some m.cls := findClass_of_methodNamed B.named
  have hlocks := B.notSynchronized
  subst hsz
  have hD := hD0.self (sz := s.heap.size)
  have hA0 := zA0 hD0 hB
  generalize hAe : va_A (CW cI cZ cA o b P S) s.heap.size = A at hD hA0 ⊢
  have hAD := hA0
  have hA : ∀ q : Nat, s.heap.size ≤ q → A q := fun q h => by rw [← hAe]; exact Or.inr h
  have hS : va_S A s.heap s.heap [] := va_S.rf
  have hl := lv_entry ([.ref (o 4), .int x0, .int x1, .int x2]) (n := 8) (Nat.le_of_ble_eq_true rfl)
  rw [lg_entry_eq]
  generalize (lg_sl ([.ref (o 4), .int x0, .int x1, .int x2]) ++ List.replicate (8 - (lg_sl ([.ref (o 4), .int x0, .int x1, .int x2])).length) Slot.unset).toArray = ls at hl ⊢
  have hl : lv_has ls 8 [(0, .ref (o 4)), (1, .int x0), (2, .int x1), (3, .int x2)] := hl
  refine zgenQ (fun Q hQe => ?_)
  obtain ⟨tg, etg⟩ : ∃ z, z = fPR_takeNews P S x0 x1 x2 := ⟨_, rfl⟩
  have E := etg
  unfold fPR_takeNews at E
  have hL68 : ∀ (n68 : Nat) (H : Heap) (locs : List Loc) (ls : Array Slot) (S_68 : ZS) (x68_1 : Int32) (x68_4 : Int32) (x68_6 : Int32) (x68_7 : Int32), zr 0 287 x68_1 → zr 0 47 x68_4 → (zck x68_6) → (x68_6 = -1 ∨ zck x68_6) → zr 0 6 x68_7 → cok S_68 → 6 + 1 - x68_7.toInt ≤ (n68 : Int) → tg = zfix (fun S9 _ _ _ _ => S9) (fPR_takeNews_68 P) n68 S_68 x68_1 x68_4 x68_6 x68_7 → va_P (dC, dI) zCl (CW cI cZ cA o b P S_68) H → va_D A (CW cI cZ cA o b P S_68) → va_S A s.heap H locs → lv_has ls 8 [(0, .ref (o 4)), (1, .int x68_1), (4, .int x68_4), (6, .int x68_6), (7, .int x68_7)] → W p l e ({ frames := 2, cells := 0, slots := 0, locals := 47 } : Room) s m ([.ref (o 4), .int x0, .int x1, .int x2] : List Value).toArray below meth c H locs 0 0 Q (F0 m 68 ls []) := by
    intro n68
    induction n68 with
    | zero => intro H locs ls S_68 x68_1 x68_4 x68_6 x68_7 r_x68_1 r_x68_4 qck_x68_6 qock_x68_6 r_x68_7 gS_68 hm68 E hP hD hS hl; exact absurd hm68 (zfuel0U r_x68_7)
    | succ n68 ih68 =>
      intro H locs ls S_68 x68_1 x68_4 x68_6 x68_7 r_x68_1 r_x68_4 qck_x68_6 qock_x68_6 r_x68_7 gS_68 hm68 E hP hD hS hl
      rw [zfix_s] at E
      generalize zfix (fun S9 _ _ _ _ => S9) (fPR_takeNews_68 P) n68 = rc68 at ih68 E
      unfold fPR_takeNews_68 at E
      have hJ98 : ∀ (H : Heap) (locs : List Loc) (ls : Array Slot) (S_98 : ZS) (x98_1 : Int32) (x98_4 : Int32) (x98_6 : Int32) (x98_7 : Int32), zr 0 287 x98_1 → zr 0 47 x98_4 → (zck x98_6) → (x98_6 = -1 ∨ zck x98_6) → zr 0 5 x98_7 → cok S_98 → 6 + 1 - x98_7.toInt ≤ ((n68 + 1 : Nat) : Int) → tg = fPR_takeNews_98 P rc68 S_98 x98_1 x98_4 x98_6 x98_7 → va_P (dC, dI) zCl (CW cI cZ cA o b P S_98) H → va_D A (CW cI cZ cA o b P S_98) → va_S A s.heap H locs → lv_has ls 8 [(0, .ref (o 4)), (1, .int x98_1), (4, .int x98_4), (6, .int x98_6), (7, .int x98_7)] → W p l e ({ frames := 2, cells := 0, slots := 0, locals := 47 } : Room) s m ([.ref (o 4), .int x0, .int x1, .int x2] : List Value).toArray below meth c H locs 0 0 Q (F0 m 98 ls []) := by
        intro H locs ls S_98 x98_1 x98_4 x98_6 x98_7 r_x98_1 r_x98_4 qck_x98_6 qock_x98_6 r_x98_7 gS_98 hm68_98 E hP hD hS hl
        unfold fPR_takeNews_98 at E
        refine z_iinc (lv' := fun v9 => [(7, .int v9), (0, .ref (o 4)), (1, .int x98_1), (4, .int x98_4), (6, .int x98_6)]) (cst := 1) hx hb dPR_takeNews_98 hl (k := 4) rfl (by decide) (by decide) (fun _ => rfl) E (fun k1 ls ek1 E hl => ?_)
        have r_k1 : zr 1 6 k1 := zr_add r_x98_7 (show zr 1 1 1 from by decide) ek1 (by decide)
        refine lv_goto (tgt := 68) hx hb dPR_takeNews_101 (by decide) ?_
        exact ih68 H locs ls S_98 x98_1 x98_4 x98_6 k1 r_x98_1 r_x98_4 qck_x98_6 qock_x98_6 (zr_mono r_k1 (by decide)) gS_98 (zstepU ek1 r_x98_7 (by decide) hm68_98) E hP hD hS (lv_sub hl [1, 2, 3, 4, 0] rfl)
      refine lv_iload hx hb dPR_takeNews_68 (lv_at hl 4 rfl) ?_
      refine lv_bipush (v := 6) hx hb dPR_takeNews_70 (by decide) ?_
      refine z_icmp_ge (tgt := 104) hx hb dPR_takeNews_72 (by decide) E (fun c_72 E => ?_) (fun c_72 E => ?_)
      · have r_x68_7 : zr 6 6 x68_7 := zle_y (show zr 6 6 6 from by decide) r_x68_7 c_72 (by decide)
        rw [hQe]
        exact W.vret hx hb hr (fun t ht hW => ⟨⟨S_68, rfl, ⟨E.symm.trans etg, gS_68⟩, by rw [ht]; exact hP, hD⟩, hS.F ht⟩) hS.2.2 dPR_takeNews_104
      · have r_x68_7 : zr 0 5 x68_7 := zlt_x r_x68_7 (show zr 6 6 6 from by decide) (znle c_72) (by decide)
        refine lv_iload hx hb dPR_takeNews_75 (lv_at hl 4 rfl) ?_
        refine lv_iload_n hx hb dPR_takeNews_77 rfl (lv_at hl 1 rfl) ?_
        refine lv_bipush (v := 6) hx hb dPR_takeNews_78 (by decide) ?_
        refine z_irem hx hb dPR_takeNews_80 (by decide) E (fun k2 ek2 E => ?_)
        have r_k2 : zr 0 5 k2 := (zr_rem (lo := 0) (hi := 5) r_x68_1 (c := 6) (by decide) ek2 (by decide)).1
        refine z_icmp_eq (tgt := 98) hx hb dPR_takeNews_81 (by decide) E (fun c_81 E => ?_) (fun c_81 E => ?_)
        · exact hJ98 H locs ls S_68 x68_1 x68_4 x68_6 x68_7 r_x68_1 r_x68_4 qck_x68_6 qock_x68_6 r_x68_7 gS_68 hm68 E hP hD hS (lv_sub hl [0, 1, 2, 3, 4] rfl)
        · refine lv_aload_n hx hb dPR_takeNews_84 rfl (lv_at hl 0 rfl) ?_
          refine lv_iload hx hb dPR_takeNews_85 (lv_at hl 2 rfl) ?_
          refine lv_bipush (v := 6) hx hb dPR_takeNews_87 (by decide) ?_
          refine z_imul hx hb dPR_takeNews_89 E (fun k3 ek3 E => ?_)
          have r_k3 : zr 0 282 k3 := zr_mul r_x68_4 (show zr 6 6 6 from by decide) ek3 (by decide)
          refine lv_iload hx hb dPR_takeNews_90 (lv_at hl 4 rfl) ?_
          refine z_iadd hx hb dPR_takeNews_92 E (fun k4 ek4 E => ?_)
          have r_k4 : zr 0 287 k4 := zr_add r_k3 r_x68_7 ek4 (by decide)
          refine lv_iload hx hb dPR_takeNews_93 (lv_at hl 3 rfl) ?_
          refine zcV (va_runV (As := [.int k4, .int x68_6]) (rest := []) ⟨hx, hb, hml, hown, zno⟩ (tPR_putFromPorts l dC dI cI cZ cJ cA a0 s0 o b P S_68 H.size k4 x68_6 gP gS_68 r_k4 qck_x68_6) (zcw 2 (hB.word (zm3 k3_39) rfl) (hB.word (zm1 k1_6) rfl) (hB.word (zm3 k3_36) rfl) (hB.word (zm3 k3_38) rfl) (k2_selects_private (by decide) (hB.word (zm1 k1_125) rfl) (hB.word (zm3 k3_37) rfl) (hB.word (zm3 k3_38) rfl)) rfl rfl (by decide +kernel) ⟨Nat.le_of_ble_eq_true rfl, Nat.le_of_ble_eq_true rfl⟩) ⟨zP_blind, va_recv hK hP (ci := 4) (q0 := 4) rfl rfl, zP_pre hP hK hD hAD (zB_on hB hA0 hS)⟩ rfl rfl hl.1 rfl (lv_room (Nat.le_of_ble_eq_true rfl)) dPR_takeNews_95 ⟨Nat.le_of_ble_eq_true rfl, Nat.le_of_ble_eq_true rfl⟩) hD hS hA (fun S6 H5 locs h7 hP hD hS => ?_)
          have E := zl_s E h7.1
          have gS6 := h7.2
          exact hJ98 H5 locs ls S6 x68_1 x68_4 x68_6 x68_7 r_x68_1 r_x68_4 qck_x68_6 qock_x68_6 r_x68_7 gS6 hm68 E hP hD hS (lv_sub hl [0, 1, 2, 3, 4] rfl)
  refine lv_iload_n hx hb dPR_takeNews_0 rfl (lv_at hl 1 rfl) ?_
  refine lv_bipush (v := 6) hx hb dPR_takeNews_1 (by decide) ?_
  refine z_idiv hx hb dPR_takeNews_3 (by decide) E (fun k8 ek8 E => ?_)
  have r_k8 : zr 0 47 k8 := zr_div r_x0 (c := 6) (by decide) ek8 (by decide)
  refine lv_istore (lv' := [(4, .int k8), (0, .ref (o 4)), (1, .int x0), (2, .int x1), (3, .int x2)]) hx hb dPR_takeNews_4 hl (by decide) rfl (fun ls hl => ?_)
  refine lv_iload hx hb dPR_takeNews_6 (lv_at hl 0 rfl) ?_
  refine lv_bipush (v := 114) hx hb dPR_takeNews_8 (by decide) ?_
  refine z_imul hx hb dPR_takeNews_10 E (fun k9 ek9 E => ?_)
  have r_k9 : zr 0 5358 k9 := zr_mul r_k8 (show zr 114 114 114 from by decide) ek9 (by decide)
  refine lv_iload_n hx hb dPR_takeNews_11 rfl (lv_at hl 3 rfl) ?_
  refine z_iadd hx hb dPR_takeNews_12 E (fun k10 ek10 E => ?_)
  have r_k10 : zr 0 5471 k10 := zr_add r_k9 r_x1 ek10 (by decide)
  refine lv_istore (lv' := [(5, .int k10), (4, .int k8), (0, .ref (o 4)), (1, .int x0), (2, .int x1), (3, .int x2)]) hx hb dPR_takeNews_13 hl (by decide) rfl (fun ls hl => ?_)
  refine lv_iload_n hx hb dPR_takeNews_15 rfl (lv_at hl 5 rfl) ?_
  refine lv_aload_n hx hb dPR_takeNews_16 rfl (lv_at hl 2 rfl) ?_
  refine c_getA_21 hx hb (hB.words zU_PR) hown hK hP (hB.word (zm1 k1_143) rfl) dPR_takeNews_17 ?_
  refine lv_iload hx hb dPR_takeNews_20 (lv_at hl 0 rfl) ?_
  refine c_aldS hx hb hK hP 21 (by decide) rfl r_k10 (by decide) dPR_takeNews_22 E (fun k11 ek11 E => ?_)
  refine z_icmp_gt (tgt := 27) hx hb dPR_takeNews_23 (by decide) E (fun c_23 E => ?_) (fun c_23 E => ?_)
  · have r_k11 : zr (-2147483648) 2147483646 k11 := zlt_x (zr_any k11) (zr_any x2) c_23 (by decide)
    have r_x2 : zr (-2147483647) 2147483647 x2 := zlt_y (zr_any k11) (zr_any x2) c_23 (by decide)
    refine lv_aload_n hx hb dPR_takeNews_27 rfl (lv_at hl 2 rfl) ?_
    refine c_getA_21 hx hb (hB.words zU_PR) hown hK hP (hB.word (zm1 k1_143) rfl) dPR_takeNews_28 ?_
    refine lv_iload hx hb dPR_takeNews_31 (lv_at hl 0 rfl) ?_
    refine lv_iload_n hx hb dPR_takeNews_33 rfl (lv_at hl 5 rfl) ?_
    refine c_astS hx hb hK hP hD hS 21 (by decide) rfl r_k10 (by decide) dPR_takeNews_34 E (fun S12 H13 locs eS12 E hP hD hS => ?_)
    have gS12 : cok S12 := by rw [eS12]; exact gS.setF (k := 21) (zr_any x2) (Or.inl (by decide))
    refine lv_aload_n hx hb dPR_takeNews_35 rfl (lv_at hl 2 rfl) ?_
    refine c_getA_22 hx hb (hB.words zU_PR) hown hK hP (hB.word (zm1 k1_144) rfl) dPR_takeNews_36 ?_
    refine lv_iload hx hb dPR_takeNews_39 (lv_at hl 1 rfl) ?_
    refine lv_dup2_11 hx hb dPR_takeNews_41 rfl rfl ?_
    refine c_aldS hx hb hK hP 22 (by decide) rfl r_k8 (by decide) dPR_takeNews_42 E (fun k14 ek14 E => ?_)
    refine lv_iconst (v := 1) hx hb dPR_takeNews_43 (by decide) ?_
    refine z_iadd hx hb dPR_takeNews_44 E (fun k15 ek15 E => ?_)
    refine c_astS hx hb hK hP hD hS 22 (by decide) rfl r_k8 (by decide) dPR_takeNews_45 E (fun S16 H17 locs eS16 E hP hD hS => ?_)
    have gS16 : cok S16 := by rw [eS16]; exact gS12.setF (k := 22) (zr_any k15) (Or.inl (by decide))
    refine lv_aload_n hx hb dPR_takeNews_46 rfl (lv_at hl 2 rfl) ?_
    refine c_getO_PR_tables hx hb (hB.words zU_PR) hown hK hP (hB.word (zm1 k1_132) rfl) dPR_takeNews_47 ?_
    refine lv_iload hx hb dPR_takeNews_50 (lv_at hl 1 rfl) ?_
    refine zcV (va_runV (As := [.int k8]) (rest := []) ⟨hx, hb, hml, hown, zno⟩ (tTA_forgetAll l dC dI cI cZ cJ cA a0 s0 o b P S16 H17.size k8 gP gS16 r_k8) (zcw 1 (hB.word (zm3 k3_32) rfl) (hB.word (zm1 k1_5) rfl) (hB.word (zm3 k3_29) rfl) (hB.word (zm3 k3_30) rfl) (hB.word (zm3 k3_31) rfl) rfl rfl (by decide +kernel) ⟨Nat.le_of_ble_eq_true rfl, Nat.le_of_ble_eq_true rfl⟩) ⟨zP_blind, va_recv hK hP (ci := 3) (q0 := 3) rfl rfl, zP_pre hP hK hD hAD (zB_on hB hA0 hS)⟩ rfl rfl hl.1 rfl (lv_room (Nat.le_of_ble_eq_true rfl)) dPR_takeNews_52 ⟨Nat.le_of_ble_eq_true rfl, Nat.le_of_ble_eq_true rfl⟩) hD hS hA (fun S19 H18 locs h20 hP hD hS => ?_)
    have E := zl_s E h20.1
    have gS19 := h20.2
    refine lv_iconst (v := 5) hx hb dPR_takeNews_55 (by decide) ?_
    refine lv_iload hx hb dPR_takeNews_56 (lv_at hl 1 rfl) ?_
    refine lv_iload_n hx hb dPR_takeNews_58 rfl (lv_at hl 4 rfl) ?_
    refine lv_iload_n hx hb dPR_takeNews_59 rfl (lv_at hl 5 rfl) ?_
    refine zcallp (va_runS (As := [.int 5, .int k8, .int x1, .int x2]) (rest := []) ⟨hx, hb, hml, hown, zno⟩ (tCA_of l dC dI cI cZ cJ cA a0 s0 o b P S19 H18.size 5 k8 x1 x2 gP gS19 (show zr 0 7 5 from by decide) (zr_mono r_k8 (by decide)) r_x1) ⟨zcb 4 (hB.word (zm3 k3_35) rfl) (hB.word (zm1 k1_15) rfl) (hB.word (zm3 k3_33) rfl) rfl rfl (by decide +kernel) ⟨Nat.le_of_ble_eq_true rfl, Nat.le_of_ble_eq_true rfl⟩, hB.word (zm3 k3_34) rfl⟩ ⟨zP_blind, zP_pre hP hK hD hAD (zB_on hB hA0 hS)⟩ rfl rfl hl.1 rfl (lv_room (Nat.le_of_ble_eq_true rfl)) dPR_takeNews_60 ⟨Nat.le_of_ble_eq_true rfl, Nat.le_of_ble_eq_true rfl⟩) hS hA (fun k22 H21 locs hk22 hz1 hk1 hS => ?_)
    have hP := zKeep hP hk1
    have E := zl_s E hk22.1
    refine lv_istore (lv' := [(6, .int k22), (5, .int k10), (4, .int k8), (0, .ref (o 4)), (1, .int x0), (2, .int x1), (3, .int x2)]) hx hb dPR_takeNews_63 hl (by decide) rfl (fun ls hl => ?_)
    refine lv_iconst (v := 0) hx hb dPR_takeNews_65 (by decide) ?_
    refine lv_istore (lv' := [(7, .int 0), (6, .int k22), (5, .int k10), (4, .int k8), (0, .ref (o 4)), (1, .int x0), (2, .int x1), (3, .int x2)]) hx hb dPR_takeNews_66 hl (by decide) rfl (fun ls hl => ?_)
    exact hL68 7 H21 locs ls S19 x0 k8 k22 0 r_x0 r_k8 hk22.2.2.1 hk22.2.2.2 (show zr 0 6 0 from by decide) gS19 (by have h9 := (show zr 0 0 0 from by decide); exact zfuelU h9 (by decide)) E hP hD hS (lv_sub hl [4, 5, 3, 1, 0] rfl)
  · rw [hQe]
    exact W.vret hx hb hr (fun t ht hW => ⟨⟨S, rfl, ⟨E.symm.trans etg, gS⟩, by rw [ht]; exact hP, hD⟩, hS.F ht⟩) hS.2.2 dPR_takeNews_26
