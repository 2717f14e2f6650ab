theorem k1_2 : tables_1_1[2]? = some (Jvm.Cond.initialized "RingGuard$Plan") := by decide +kernel
theorem k1_26 : tables_1_1[26]? = some (Jvm.Cond.instantiable "RingGuard$Plan" (11 : Nat)) := by decide +kernel
theorem k1_35 : tables_1_1[35]? = some (Jvm.Cond.fieldLink "RingGuard$Plan" (69 : Nat) "RingGuard$Plan" "bridgeCount" "I") := by decide +kernel
theorem k1_37 : tables_1_1[37]? = some (Jvm.Cond.fieldLink "RingGuard$Plan" (46 : Nat) "RingGuard$Plan" "linkCount" "I") := by decide +kernel
theorem k1_41 : tables_1_1[41]? = some (Jvm.Cond.fieldLink "RingGuard$Plan" (9 : Nat) "RingGuard$Plan" "firstOf" "[I") := by decide +kernel
theorem k1_43 : tables_1_1[43]? = some (Jvm.Cond.fieldLink "RingGuard$Plan" (15 : Nat) "RingGuard$Plan" "secondOf" "[I") := by decide +kernel
theorem k1_45 : tables_1_1[45]? = some (Jvm.Cond.fieldLink "RingGuard$Plan" (18 : Nat) "RingGuard$Plan" "ringOf" "[I") := by decide +kernel
theorem k1_47 : tables_1_1[47]? = some (Jvm.Cond.fieldLink "RingGuard$Plan" (21 : Nat) "RingGuard$Plan" "ownerBridge" "[I") := by decide +kernel
theorem k1_49 : tables_1_1[49]? = some (Jvm.Cond.fieldLink "RingGuard$Plan" (24 : Nat) "RingGuard$Plan" "ownerLink" "[I") := by decide +kernel
theorem k1_51 : tables_1_1[51]? = some (Jvm.Cond.fieldLink "RingGuard$Plan" (27 : Nat) "RingGuard$Plan" "placeOf" "[I") := by decide +kernel
theorem k1_56 : tables_1_1[56]? = some (Jvm.Cond.fieldLink "RingGuard$Plan" (33 : Nat) "RingGuard$Plan" "portsAt" "[I") := by decide +kernel
theorem k1_58 : tables_1_1[58]? = some (Jvm.Cond.fieldLink "RingGuard$Plan" (36 : Nat) "RingGuard$Plan" "closedRing" "[Z") := by decide +kernel
theorem k1_222 : tables_1_1[222]? = some (Jvm.Cond.fieldLink "RingGuard$Groups" (9 : Nat) "RingGuard$Groups" "group" "[I") := by decide +kernel
theorem k1_224 : tables_1_1[224]? = some (Jvm.Cond.fieldLink "RingGuard$Groups" (19 : Nat) "RingGuard$Groups" "groupCount" "I") := by decide +kernel
theorem k1_227 : tables_1_1[227]? = some (Jvm.Cond.fieldLink "RingGuard$Groups" (15 : Nat) "RingGuard$Groups" "size" "I") := by decide +kernel
theorem k2_205 : tables_1_2[205]? = some (Jvm.Cond.methodLink "RingGuard$Plan" (72 : Nat) ({ cls := "RingGuard$Plan", name := "isInRingBefore", desc := "(II)Z" } : Jvm.MethodName)) := by decide +kernel
theorem k2_206 : tables_1_2[206]? = some (Jvm.Cond.privateMethod ({ cls := "RingGuard$Plan", name := "isInRingBefore", desc := "(II)Z" } : Jvm.MethodName)) := by decide +kernel
theorem k2_207 : tables_1_2[207]? = some (Jvm.Cond.instanceMethod ({ cls := "RingGuard$Plan", name := "isInRingBefore", desc := "(II)Z" } : Jvm.MethodName)) := by decide +kernel
theorem k2_208 : tables_1_2[208]? = some (Jvm.Cond.code ({ cls := "RingGuard$Plan", name := "isInRingBefore", desc := "(II)Z" } : Jvm.MethodName) prog_5_method_10_code (4 : Nat) (Option.some Jvm.ClassFile.FieldType.boolean)) := rfl
theorem k2_209 : tables_1_2[209]? = some (Jvm.Cond.methodLink "RingGuard$Plan" (54 : Nat) ({ cls := "RingGuard$Plan", name := "portOf", desc := "(II)I" } : Jvm.MethodName)) := by decide +kernel
theorem k2_210 : tables_1_2[210]? = some (Jvm.Cond.instanceMethod ({ cls := "RingGuard$Plan", name := "portOf", desc := "(II)I" } : Jvm.MethodName)) := by decide +kernel
theorem k2_211 : tables_1_2[211]? = some (Jvm.Cond.selects "RingGuard$Plan" ({ cls := "RingGuard$Plan", name := "portOf", desc := "(II)I" } : Jvm.MethodName) ({ cls := "RingGuard$Plan", name := "portOf", desc := "(II)I" } : Jvm.MethodName)) := by decide +kernel
theorem k2_212 : tables_1_2[212]? = some (Jvm.Cond.code ({ cls := "RingGuard$Plan", name := "portOf", desc := "(II)I" } : Jvm.MethodName) prog_5_method_3_code (3 : Nat) (Option.some Jvm.ClassFile.FieldType.int)) := rfl
theorem k2_221 : tables_1_2[221]? = some (Jvm.Cond.methodLink "RingGuard$Plan" (76 : Nat) ({ cls := "RingGuard$Plan", name := "countLinks", desc := "(II)I" } : Jvm.MethodName)) := by decide +kernel
theorem k2_222 : tables_1_2[222]? = some (Jvm.Cond.privateMethod ({ cls := "RingGuard$Plan", name := "countLinks", desc := "(II)I" } : Jvm.MethodName)) := by decide +kernel
theorem k2_223 : tables_1_2[223]? = some (Jvm.Cond.instanceMethod ({ cls := "RingGuard$Plan", name := "countLinks", desc := "(II)I" } : Jvm.MethodName)) := by decide +kernel
theorem k2_224 : tables_1_2[224]? = some (Jvm.Cond.code ({ cls := "RingGuard$Plan", name := "countLinks", desc := "(II)I" } : Jvm.MethodName) prog_5_method_11_code (5 : Nat) (Option.some Jvm.ClassFile.FieldType.int)) := rfl
theorem k3_1 : tables_1_3[1]? = some (Jvm.Cond.methodLink "RingGuard$Plan" (98 : Nat) ({ cls := "RingGuard$Plan", name := "hasEndsOf", desc := "(II)Z" } : Jvm.MethodName)) := by decide +kernel
theorem k3_2 : tables_1_3[2]? = some (Jvm.Cond.privateMethod ({ cls := "RingGuard$Plan", name := "hasEndsOf", desc := "(II)Z" } : Jvm.MethodName)) := by decide +kernel
theorem k3_3 : tables_1_3[3]? = some (Jvm.Cond.instanceMethod ({ cls := "RingGuard$Plan", name := "hasEndsOf", desc := "(II)Z" } : Jvm.MethodName)) := by decide +kernel
theorem k3_4 : tables_1_3[4]? = some (Jvm.Cond.code ({ cls := "RingGuard$Plan", name := "hasEndsOf", desc := "(II)Z" } : Jvm.MethodName) prog_5_method_16_code (4 : Nat) (Option.some Jvm.ClassFile.FieldType.boolean)) := rfl
abbrev yPL_portOf : MethodName := ⟨"RingGuard$Plan", "portOf", "(II)I"⟩
abbrev bPL_portOf : ByteArray := prog_5_method_3_code
abbrev yPL_otherPort : MethodName := ⟨"RingGuard$Plan", "otherPort", "(I)I"⟩
abbrev bPL_otherPort : ByteArray := prog_5_method_4_code
abbrev yPL_isOwner : MethodName := ⟨"RingGuard$Plan", "isOwner", "(I)Z"⟩
abbrev bPL_isOwner : ByteArray := prog_5_method_5_code
abbrev yPL_hasLinks : MethodName := ⟨"RingGuard$Plan", "hasLinks", "(I)Z"⟩
abbrev bPL_hasLinks : ByteArray := prog_5_method_8_code
abbrev yPL_isInRingBefore : MethodName := ⟨"RingGuard$Plan", "isInRingBefore", "(II)Z"⟩
abbrev bPL_isInRingBefore : ByteArray := prog_5_method_10_code
abbrev yPL_hasBareBridge : MethodName := ⟨"RingGuard$Plan", "hasBareBridge", "()Z"⟩
abbrev bPL_hasBareBridge : ByteArray := prog_5_method_9_code
abbrev yPL_countLinks : MethodName := ⟨"RingGuard$Plan", "countLinks", "(II)I"⟩
abbrev bPL_countLinks : ByteArray := prog_5_method_11_code
abbrev yPL_hasRightOwner : MethodName := ⟨"RingGuard$Plan", "hasRightOwner", "(I)Z"⟩
abbrev bPL_hasRightOwner : ByteArray := prog_5_method_12_code
abbrev yPL_hasEndsOf : MethodName := ⟨"RingGuard$Plan", "hasEndsOf", "(II)Z"⟩
abbrev bPL_hasEndsOf : ByteArray := prog_5_method_16_code
abbrev yPL_isHeldByClosedRing : MethodName := ⟨"RingGuard$Plan", "isHeldByClosedRing", "(I)Z"⟩
abbrev bPL_isHeldByClosedRing : ByteArray := prog_5_method_15_code
abbrev yGR_separate : MethodName := ⟨"RingGuard$Groups", "separate", "(I)V"⟩
abbrev bGR_separate : ByteArray := prog_4_method_2_code
abbrev yGR_join : MethodName := ⟨"RingGuard$Groups", "join", "(II)Z"⟩
abbrev bGR_join : ByteArray := prog_4_method_3_code
theorem dGR_join_0 : decode bGR_join 0 = .ok (.aload_n 0, 1) := by decide +kernel
theorem dGR_join_1 : decode bGR_join 1 = .ok (.getfield 9, 3) := by decide +kernel
theorem dGR_join_4 : decode bGR_join 4 = .ok (.iload_n 1, 1) := by decide +kernel
theorem dGR_join_5 : decode bGR_join 5 = .ok (.iaload, 1) := by decide +kernel
theorem dGR_join_6 : decode bGR_join 6 = .ok (.istore_n 3, 1) := by decide +kernel
theorem dGR_join_7 : decode bGR_join 7 = .ok (.aload_n 0, 1) := by decide +kernel
theorem dGR_join_8 : decode bGR_join 8 = .ok (.getfield 9, 3) := by decide +kernel
theorem dGR_join_11 : decode bGR_join 11 = .ok (.iload_n 2, 1) := by decide +kernel
theorem dGR_join_12 : decode bGR_join 12 = .ok (.iaload, 1) := by decide +kernel
theorem dGR_join_13 : decode bGR_join 13 = .ok (.istore 4, 2) := by decide +kernel
theorem dGR_join_15 : decode bGR_join 15 = .ok (.iload_n 3, 1) := by decide +kernel
theorem dGR_join_16 : decode bGR_join 16 = .ok (.iload 4, 2) := by decide +kernel
theorem dGR_join_18 : decode bGR_join 18 = .ok (.if_icmp .ne 5, 3) := by decide +kernel
theorem dGR_join_21 : decode bGR_join 21 = .ok (.iconst 0, 1) := by decide +kernel
theorem dGR_join_22 : decode bGR_join 22 = .ok (.ireturn, 1) := by decide +kernel
theorem dGR_join_23 : decode bGR_join 23 = .ok (.iconst 0, 1) := by decide +kernel
theorem dGR_join_24 : decode bGR_join 24 = .ok (.istore 5, 2) := by decide +kernel
theorem dGR_join_26 : decode bGR_join 26 = .ok (.iload 5, 2) := by decide +kernel
theorem dGR_join_28 : decode bGR_join 28 = .ok (.aload_n 0, 1) := by decide +kernel
theorem dGR_join_29 : decode bGR_join 29 = .ok (.getfield 15, 3) := by decide +kernel
theorem dGR_join_32 : decode bGR_join 32 = .ok (.if_icmp .ge 29, 3) := by decide +kernel
theorem dGR_join_35 : decode bGR_join 35 = .ok (.aload_n 0, 1) := by decide +kernel
theorem dGR_join_36 : decode bGR_join 36 = .ok (.getfield 9, 3) := by decide +kernel
theorem dGR_join_39 : decode bGR_join 39 = .ok (.iload 5, 2) := by decide +kernel
theorem dGR_join_41 : decode bGR_join 41 = .ok (.iaload, 1) := by decide +kernel
theorem dGR_join_42 : decode bGR_join 42 = .ok (.iload 4, 2) := by decide +kernel
theorem dGR_join_44 : decode bGR_join 44 = .ok (.if_icmp .ne 11, 3) := by decide +kernel
theorem dGR_join_47 : decode bGR_join 47 = .ok (.aload_n 0, 1) := by decide +kernel
theorem dGR_join_48 : decode bGR_join 48 = .ok (.getfield 9, 3) := by decide +kernel
theorem dGR_join_51 : decode bGR_join 51 = .ok (.iload 5, 2) := by decide +kernel
theorem dGR_join_53 : decode bGR_join 53 = .ok (.iload_n 3, 1) := by decide +kernel
theorem dGR_join_54 : decode bGR_join 54 = .ok (.iastore, 1) := by decide +kernel
theorem dGR_join_55 : decode bGR_join 55 = .ok (.iinc 5 1, 3) := by decide +kernel
theorem dGR_join_58 : decode bGR_join 58 = .ok (.goto (-32), 3) := by decide +kernel
theorem dGR_join_61 : decode bGR_join 61 = .ok (.aload_n 0, 1) := by decide +kernel
theorem dGR_join_62 : decode bGR_join 62 = .ok (.dup, 1) := by decide +kernel
theorem dGR_join_63 : decode bGR_join 63 = .ok (.getfield 19, 3) := by decide +kernel
theorem dGR_join_66 : decode bGR_join 66 = .ok (.iconst 1, 1) := by decide +kernel
theorem dGR_join_67 : decode bGR_join 67 = .ok (.isub, 1) := by decide +kernel
theorem dGR_join_68 : decode bGR_join 68 = .ok (.putfield 19, 3) := by decide +kernel
theorem dGR_join_71 : decode bGR_join 71 = .ok (.iconst 1, 1) := by decide +kernel
theorem dGR_join_72 : decode bGR_join 72 = .ok (.ireturn, 1) := by decide +kernel
theorem dGR_separate_0 : decode bGR_separate 0 = .ok (.aload_n 0, 1) := by decide +kernel
theorem dGR_separate_1 : decode bGR_separate 1 = .ok (.iload_n 1, 1) := by decide +kernel
theorem dGR_separate_2 : decode bGR_separate 2 = .ok (.putfield 15, 3) := by decide +kernel
theorem dGR_separate_5 : decode bGR_separate 5 = .ok (.aload_n 0, 1) := by decide +kernel
theorem dGR_separate_6 : decode bGR_separate 6 = .ok (.iload_n 1, 1) := by decide +kernel
theorem dGR_separate_7 : decode bGR_separate 7 = .ok (.putfield 19, 3) := by decide +kernel
theorem dGR_separate_10 : decode bGR_separate 10 = .ok (.iconst 0, 1) := by decide +kernel
theorem dGR_separate_11 : decode bGR_separate 11 = .ok (.istore_n 2, 1) := by decide +kernel
theorem dGR_separate_12 : decode bGR_separate 12 = .ok (.iload_n 2, 1) := by decide +kernel
theorem dGR_separate_13 : decode bGR_separate 13 = .ok (.iload_n 1, 1) := by decide +kernel
theorem dGR_separate_14 : decode bGR_separate 14 = .ok (.if_icmp .ge 16, 3) := by decide +kernel
theorem dGR_separate_17 : decode bGR_separate 17 = .ok (.aload_n 0, 1) := by decide +kernel
theorem dGR_separate_18 : decode bGR_separate 18 = .ok (.getfield 9, 3) := by decide +kernel
theorem dGR_separate_21 : decode bGR_separate 21 = .ok (.iload_n 2, 1) := by decide +kernel
theorem dGR_separate_22 : decode bGR_separate 22 = .ok (.iload_n 2, 1) := by decide +kernel
theorem dGR_separate_23 : decode bGR_separate 23 = .ok (.iastore, 1) := by decide +kernel
theorem dGR_separate_24 : decode bGR_separate 24 = .ok (.iinc 2 1, 3) := by decide +kernel
theorem dGR_separate_27 : decode bGR_separate 27 = .ok (.goto (-15), 3) := by decide +kernel
theorem dGR_separate_30 : decode bGR_separate 30 = .ok (.return_, 1) := by decide +kernel
theorem dPL_countLinks_0 : decode bPL_countLinks 0 = .ok (.iconst 0, 1) := by decide +kernel
theorem dPL_countLinks_1 : decode bPL_countLinks 1 = .ok (.istore_n 3, 1) := by decide +kernel
theorem dPL_countLinks_2 : decode bPL_countLinks 2 = .ok (.iconst 0, 1) := by decide +kernel
theorem dPL_countLinks_3 : decode bPL_countLinks 3 = .ok (.istore 4, 2) := by decide +kernel
theorem dPL_countLinks_5 : decode bPL_countLinks 5 = .ok (.iload 4, 2) := by decide +kernel
theorem dPL_countLinks_7 : decode bPL_countLinks 7 = .ok (.aload_n 0, 1) := by decide +kernel
theorem dPL_countLinks_8 : decode bPL_countLinks 8 = .ok (.getfield 46, 3) := by decide +kernel
theorem dPL_countLinks_11 : decode bPL_countLinks 11 = .ok (.if_icmp .ge 34, 3) := by decide +kernel
theorem dPL_countLinks_14 : decode bPL_countLinks 14 = .ok (.aload_n 0, 1) := by decide +kernel
theorem dPL_countLinks_15 : decode bPL_countLinks 15 = .ok (.getfield 18, 3) := by decide +kernel
theorem dPL_countLinks_18 : decode bPL_countLinks 18 = .ok (.iload 4, 2) := by decide +kernel
theorem dPL_countLinks_20 : decode bPL_countLinks 20 = .ok (.iaload, 1) := by decide +kernel
theorem dPL_countLinks_21 : decode bPL_countLinks 21 = .ok (.iload_n 2, 1) := by decide +kernel
theorem dPL_countLinks_22 : decode bPL_countLinks 22 = .ok (.if_icmp .ne 17, 3) := by decide +kernel
theorem dPL_countLinks_25 : decode bPL_countLinks 25 = .ok (.aload_n 0, 1) := by decide +kernel
theorem dPL_countLinks_26 : decode bPL_countLinks 26 = .ok (.iload_n 1, 1) := by decide +kernel
theorem dPL_countLinks_27 : decode bPL_countLinks 27 = .ok (.iload 4, 2) := by decide +kernel
theorem dPL_countLinks_29 : decode bPL_countLinks 29 = .ok (.invokevirtual 54, 3) := by decide +kernel
theorem dPL_countLinks_32 : decode bPL_countLinks 32 = .ok (.iconst (-1), 1) := by decide +kernel
theorem dPL_countLinks_33 : decode bPL_countLinks 33 = .ok (.if_icmp .eq 6, 3) := by decide +kernel
theorem dPL_countLinks_36 : decode bPL_countLinks 36 = .ok (.iinc 3 1, 3) := by decide +kernel
theorem dPL_countLinks_39 : decode bPL_countLinks 39 = .ok (.iinc 4 1, 3) := by decide +kernel
theorem dPL_countLinks_42 : decode bPL_countLinks 42 = .ok (.goto (-37), 3) := by decide +kernel
theorem dPL_countLinks_45 : decode bPL_countLinks 45 = .ok (.iload_n 3, 1) := by decide +kernel
theorem dPL_countLinks_46 : decode bPL_countLinks 46 = .ok (.ireturn, 1) := by decide +kernel
theorem dPL_hasBareBridge_0 : decode bPL_hasBareBridge 0 = .ok (.iconst 0, 1) := by decide +kernel
theorem dPL_hasBareBridge_1 : decode bPL_hasBareBridge 1 = .ok (.istore_n 1, 1) := by decide +kernel
theorem dPL_hasBareBridge_2 : decode bPL_hasBareBridge 2 = .ok (.iload_n 1, 1) := by decide +kernel
theorem dPL_hasBareBridge_3 : decode bPL_hasBareBridge 3 = .ok (.aload_n 0, 1) := by decide +kernel
theorem dPL_hasBareBridge_4 : decode bPL_hasBareBridge 4 = .ok (.getfield 69, 3) := by decide +kernel
theorem dPL_hasBareBridge_7 : decode bPL_hasBareBridge 7 = .ok (.if_icmp .ge 21, 3) := by decide +kernel
theorem dPL_hasBareBridge_10 : decode bPL_hasBareBridge 10 = .ok (.aload_n 0, 1) := by decide +kernel
theorem dPL_hasBareBridge_11 : decode bPL_hasBareBridge 11 = .ok (.iload_n 1, 1) := by decide +kernel
theorem dPL_hasBareBridge_12 : decode bPL_hasBareBridge 12 = .ok (.bipush 6, 2) := by decide +kernel
theorem dPL_hasBareBridge_14 : decode bPL_hasBareBridge 14 = .ok (.invokevirtual 72, 3) := by decide +kernel
theorem dPL_hasBareBridge_17 : decode bPL_hasBareBridge 17 = .ok (.ifCond .ne 5, 3) := by decide +kernel
theorem dPL_hasBareBridge_20 : decode bPL_hasBareBridge 20 = .ok (.iconst 1, 1) := by decide +kernel
theorem dPL_hasBareBridge_21 : decode bPL_hasBareBridge 21 = .ok (.ireturn, 1) := by decide +kernel
theorem dPL_hasBareBridge_22 : decode bPL_hasBareBridge 22 = .ok (.iinc 1 1, 3) := by decide +kernel
theorem dPL_hasBareBridge_25 : decode bPL_hasBareBridge 25 = .ok (.goto (-23), 3) := by decide +kernel
theorem dPL_hasBareBridge_28 : decode bPL_hasBareBridge 28 = .ok (.iconst 0, 1) := by decide +kernel
theorem dPL_hasBareBridge_29 : decode bPL_hasBareBridge 29 = .ok (.ireturn, 1) := by decide +kernel
theorem dPL_hasEndsOf_0 : decode bPL_hasEndsOf 0 = .ok (.iconst 0, 1) := by decide +kernel
theorem dPL_hasEndsOf_1 : decode bPL_hasEndsOf 1 = .ok (.istore_n 3, 1) := by decide +kernel
theorem dPL_hasEndsOf_2 : decode bPL_hasEndsOf 2 = .ok (.iload_n 3, 1) := by decide +kernel
theorem dPL_hasEndsOf_3 : decode bPL_hasEndsOf 3 = .ok (.aload_n 0, 1) := by decide +kernel
theorem dPL_hasEndsOf_4 : decode bPL_hasEndsOf 4 = .ok (.getfield 69, 3) := by decide +kernel
theorem dPL_hasEndsOf_7 : decode bPL_hasEndsOf 7 = .ok (.if_icmp .ge 30, 3) := by decide +kernel
theorem dPL_hasEndsOf_10 : decode bPL_hasEndsOf 10 = .ok (.aload_n 0, 1) := by decide +kernel
theorem dPL_hasEndsOf_11 : decode bPL_hasEndsOf 11 = .ok (.iload_n 3, 1) := by decide +kernel
theorem dPL_hasEndsOf_12 : decode bPL_hasEndsOf 12 = .ok (.iload_n 2, 1) := by decide +kernel
theorem dPL_hasEndsOf_13 : decode bPL_hasEndsOf 13 = .ok (.invokevirtual 76, 3) := by decide +kernel
theorem dPL_hasEndsOf_16 : decode bPL_hasEndsOf 16 = .ok (.iconst 1, 1) := by decide +kernel
theorem dPL_hasEndsOf_17 : decode bPL_hasEndsOf 17 = .ok (.if_icmp .ne 14, 3) := by decide +kernel
theorem dPL_hasEndsOf_20 : decode bPL_hasEndsOf 20 = .ok (.aload_n 0, 1) := by decide +kernel
theorem dPL_hasEndsOf_21 : decode bPL_hasEndsOf 21 = .ok (.iload_n 3, 1) := by decide +kernel
theorem dPL_hasEndsOf_22 : decode bPL_hasEndsOf 22 = .ok (.iload_n 1, 1) := by decide +kernel
theorem dPL_hasEndsOf_23 : decode bPL_hasEndsOf 23 = .ok (.invokevirtual 76, 3) := by decide +kernel
theorem dPL_hasEndsOf_26 : decode bPL_hasEndsOf 26 = .ok (.ifCond .ne 5, 3) := by decide +kernel
theorem dPL_hasEndsOf_29 : decode bPL_hasEndsOf 29 = .ok (.iconst 0, 1) := by decide +kernel
theorem dPL_hasEndsOf_30 : decode bPL_hasEndsOf 30 = .ok (.ireturn, 1) := by decide +kernel
theorem dPL_hasEndsOf_31 : decode bPL_hasEndsOf 31 = .ok (.iinc 3 1, 3) := by decide +kernel
theorem dPL_hasEndsOf_34 : decode bPL_hasEndsOf 34 = .ok (.goto (-32), 3) := by decide +kernel
theorem dPL_hasEndsOf_37 : decode bPL_hasEndsOf 37 = .ok (.iconst 1, 1) := by decide +kernel
theorem dPL_hasEndsOf_38 : decode bPL_hasEndsOf 38 = .ok (.ireturn, 1) := by decide +kernel
theorem dPL_hasLinks_0 : decode bPL_hasLinks 0 = .ok (.iconst 0, 1) := by decide +kernel
theorem dPL_hasLinks_1 : decode bPL_hasLinks 1 = .ok (.istore_n 2, 1) := by decide +kernel
theorem dPL_hasLinks_2 : decode bPL_hasLinks 2 = .ok (.iload_n 2, 1) := by decide +kernel
theorem dPL_hasLinks_3 : decode bPL_hasLinks 3 = .ok (.aload_n 0, 1) := by decide +kernel
theorem dPL_hasLinks_4 : decode bPL_hasLinks 4 = .ok (.getfield 46, 3) := by decide +kernel
theorem dPL_hasLinks_7 : decode bPL_hasLinks 7 = .ok (.if_icmp .ge 21, 3) := by decide +kernel
theorem dPL_hasLinks_10 : decode bPL_hasLinks 10 = .ok (.aload_n 0, 1) := by decide +kernel
theorem dPL_hasLinks_11 : decode bPL_hasLinks 11 = .ok (.getfield 18, 3) := by decide +kernel
theorem dPL_hasLinks_14 : decode bPL_hasLinks 14 = .ok (.iload_n 2, 1) := by decide +kernel
theorem dPL_hasLinks_15 : decode bPL_hasLinks 15 = .ok (.iaload, 1) := by decide +kernel
theorem dPL_hasLinks_16 : decode bPL_hasLinks 16 = .ok (.iload_n 1, 1) := by decide +kernel
theorem dPL_hasLinks_17 : decode bPL_hasLinks 17 = .ok (.if_icmp .ne 5, 3) := by decide +kernel
theorem dPL_hasLinks_20 : decode bPL_hasLinks 20 = .ok (.iconst 1, 1) := by decide +kernel
theorem dPL_hasLinks_21 : decode bPL_hasLinks 21 = .ok (.ireturn, 1) := by decide +kernel
theorem dPL_hasLinks_22 : decode bPL_hasLinks 22 = .ok (.iinc 2 1, 3) := by decide +kernel
theorem dPL_hasLinks_25 : decode bPL_hasLinks 25 = .ok (.goto (-23), 3) := by decide +kernel
theorem dPL_hasLinks_28 : decode bPL_hasLinks 28 = .ok (.iconst 0, 1) := by decide +kernel
theorem dPL_hasLinks_29 : decode bPL_hasLinks 29 = .ok (.ireturn, 1) := by decide +kernel
theorem dPL_hasRightOwner_0 : decode bPL_hasRightOwner 0 = .ok (.aload_n 0, 1) := by decide +kernel
theorem dPL_hasRightOwner_1 : decode bPL_hasRightOwner 1 = .ok (.getfield 24, 3) := by decide +kernel
theorem dPL_hasRightOwner_4 : decode bPL_hasRightOwner 4 = .ok (.iload_n 1, 1) := by decide +kernel
theorem dPL_hasRightOwner_5 : decode bPL_hasRightOwner 5 = .ok (.iaload, 1) := by decide +kernel
theorem dPL_hasRightOwner_6 : decode bPL_hasRightOwner 6 = .ok (.istore_n 2, 1) := by decide +kernel
theorem dPL_hasRightOwner_7 : decode bPL_hasRightOwner 7 = .ok (.iload_n 2, 1) := by decide +kernel
theorem dPL_hasRightOwner_8 : decode bPL_hasRightOwner 8 = .ok (.iconst (-1), 1) := by decide +kernel
theorem dPL_hasRightOwner_9 : decode bPL_hasRightOwner 9 = .ok (.if_icmp .eq 32, 3) := by decide +kernel
theorem dPL_hasRightOwner_12 : decode bPL_hasRightOwner 12 = .ok (.aload_n 0, 1) := by decide +kernel
theorem dPL_hasRightOwner_13 : decode bPL_hasRightOwner 13 = .ok (.getfield 18, 3) := by decide +kernel
theorem dPL_hasRightOwner_16 : decode bPL_hasRightOwner 16 = .ok (.iload_n 2, 1) := by decide +kernel
theorem dPL_hasRightOwner_17 : decode bPL_hasRightOwner 17 = .ok (.iaload, 1) := by decide +kernel
theorem dPL_hasRightOwner_18 : decode bPL_hasRightOwner 18 = .ok (.iload_n 1, 1) := by decide +kernel
theorem dPL_hasRightOwner_19 : decode bPL_hasRightOwner 19 = .ok (.if_icmp .ne 22, 3) := by decide +kernel
theorem dPL_hasRightOwner_22 : decode bPL_hasRightOwner 22 = .ok (.aload_n 0, 1) := by decide +kernel
theorem dPL_hasRightOwner_23 : decode bPL_hasRightOwner 23 = .ok (.aload_n 0, 1) := by decide +kernel
theorem dPL_hasRightOwner_24 : decode bPL_hasRightOwner 24 = .ok (.getfield 21, 3) := by decide +kernel
theorem dPL_hasRightOwner_27 : decode bPL_hasRightOwner 27 = .ok (.iload_n 1, 1) := by decide +kernel
theorem dPL_hasRightOwner_28 : decode bPL_hasRightOwner 28 = .ok (.iaload, 1) := by decide +kernel
theorem dPL_hasRightOwner_29 : decode bPL_hasRightOwner 29 = .ok (.iload_n 2, 1) := by decide +kernel
theorem dPL_hasRightOwner_30 : decode bPL_hasRightOwner 30 = .ok (.invokevirtual 54, 3) := by decide +kernel
theorem dPL_hasRightOwner_33 : decode bPL_hasRightOwner 33 = .ok (.iconst (-1), 1) := by decide +kernel
theorem dPL_hasRightOwner_34 : decode bPL_hasRightOwner 34 = .ok (.if_icmp .eq 7, 3) := by decide +kernel
theorem dPL_hasRightOwner_37 : decode bPL_hasRightOwner 37 = .ok (.iconst 1, 1) := by decide +kernel
theorem dPL_hasRightOwner_38 : decode bPL_hasRightOwner 38 = .ok (.goto 4, 3) := by decide +kernel
theorem dPL_hasRightOwner_41 : decode bPL_hasRightOwner 41 = .ok (.iconst 0, 1) := by decide +kernel
theorem dPL_hasRightOwner_42 : decode bPL_hasRightOwner 42 = .ok (.ireturn, 1) := by decide +kernel
theorem dPL_isHeldByClosedRing_0 : decode bPL_isHeldByClosedRing 0 = .ok (.iconst 0, 1) := by decide +kernel
theorem dPL_isHeldByClosedRing_1 : decode bPL_isHeldByClosedRing 1 = .ok (.istore_n 2, 1) := by decide +kernel
theorem dPL_isHeldByClosedRing_2 : decode bPL_isHeldByClosedRing 2 = .ok (.iload_n 2, 1) := by decide +kernel
theorem dPL_isHeldByClosedRing_3 : decode bPL_isHeldByClosedRing 3 = .ok (.iload_n 1, 1) := by decide +kernel
theorem dPL_isHeldByClosedRing_4 : decode bPL_isHeldByClosedRing 4 = .ok (.if_icmp .ge 29, 3) := by decide +kernel
theorem dPL_isHeldByClosedRing_7 : decode bPL_isHeldByClosedRing 7 = .ok (.aload_n 0, 1) := by decide +kernel
theorem dPL_isHeldByClosedRing_8 : decode bPL_isHeldByClosedRing 8 = .ok (.getfield 36, 3) := by decide +kernel
theorem dPL_isHeldByClosedRing_11 : decode bPL_isHeldByClosedRing 11 = .ok (.iload_n 2, 1) := by decide +kernel
theorem dPL_isHeldByClosedRing_12 : decode bPL_isHeldByClosedRing 12 = .ok (.baload, 1) := by decide +kernel
theorem dPL_isHeldByClosedRing_13 : decode bPL_isHeldByClosedRing 13 = .ok (.ifCond .eq 14, 3) := by decide +kernel
theorem dPL_isHeldByClosedRing_16 : decode bPL_isHeldByClosedRing 16 = .ok (.aload_n 0, 1) := by decide +kernel
theorem dPL_isHeldByClosedRing_17 : decode bPL_isHeldByClosedRing 17 = .ok (.iload_n 2, 1) := by decide +kernel
theorem dPL_isHeldByClosedRing_18 : decode bPL_isHeldByClosedRing 18 = .ok (.iload_n 1, 1) := by decide +kernel
theorem dPL_isHeldByClosedRing_19 : decode bPL_isHeldByClosedRing 19 = .ok (.invokevirtual 98, 3) := by decide +kernel
theorem dPL_isHeldByClosedRing_22 : decode bPL_isHeldByClosedRing 22 = .ok (.ifCond .eq 5, 3) := by decide +kernel
theorem dPL_isHeldByClosedRing_25 : decode bPL_isHeldByClosedRing 25 = .ok (.iconst 1, 1) := by decide +kernel
theorem dPL_isHeldByClosedRing_26 : decode bPL_isHeldByClosedRing 26 = .ok (.ireturn, 1) := by decide +kernel
theorem dPL_isHeldByClosedRing_27 : decode bPL_isHeldByClosedRing 27 = .ok (.iinc 2 1, 3) := by decide +kernel
theorem dPL_isHeldByClosedRing_30 : decode bPL_isHeldByClosedRing 30 = .ok (.goto (-28), 3) := by decide +kernel
theorem dPL_isHeldByClosedRing_33 : decode bPL_isHeldByClosedRing 33 = .ok (.iconst 0, 1) := by decide +kernel
theorem dPL_isHeldByClosedRing_34 : decode bPL_isHeldByClosedRing 34 = .ok (.ireturn, 1) := by decide +kernel
theorem dPL_isInRingBefore_0 : decode bPL_isInRingBefore 0 = .ok (.iconst 0, 1) := by decide +kernel
theorem dPL_isInRingBefore_1 : decode bPL_isInRingBefore 1 = .ok (.istore_n 3, 1) := by decide +kernel
theorem dPL_isInRingBefore_2 : decode bPL_isInRingBefore 2 = .ok (.iload_n 3, 1) := by decide +kernel
theorem dPL_isInRingBefore_3 : decode bPL_isInRingBefore 3 = .ok (.aload_n 0, 1) := by decide +kernel
theorem dPL_isInRingBefore_4 : decode bPL_isInRingBefore 4 = .ok (.getfield 46, 3) := by decide +kernel
theorem dPL_isInRingBefore_7 : decode bPL_isInRingBefore 7 = .ok (.if_icmp .ge 31, 3) := by decide +kernel
theorem dPL_isInRingBefore_10 : decode bPL_isInRingBefore 10 = .ok (.aload_n 0, 1) := by decide +kernel
theorem dPL_isInRingBefore_11 : decode bPL_isInRingBefore 11 = .ok (.getfield 18, 3) := by decide +kernel
theorem dPL_isInRingBefore_14 : decode bPL_isInRingBefore 14 = .ok (.iload_n 3, 1) := by decide +kernel
theorem dPL_isInRingBefore_15 : decode bPL_isInRingBefore 15 = .ok (.iaload, 1) := by decide +kernel
theorem dPL_isInRingBefore_16 : decode bPL_isInRingBefore 16 = .ok (.iload_n 2, 1) := by decide +kernel
theorem dPL_isInRingBefore_17 : decode bPL_isInRingBefore 17 = .ok (.if_icmp .ge 15, 3) := by decide +kernel
theorem dPL_isInRingBefore_20 : decode bPL_isInRingBefore 20 = .ok (.aload_n 0, 1) := by decide +kernel
theorem dPL_isInRingBefore_21 : decode bPL_isInRingBefore 21 = .ok (.iload_n 1, 1) := by decide +kernel
theorem dPL_isInRingBefore_22 : decode bPL_isInRingBefore 22 = .ok (.iload_n 3, 1) := by decide +kernel
theorem dPL_isInRingBefore_23 : decode bPL_isInRingBefore 23 = .ok (.invokevirtual 54, 3) := by decide +kernel
theorem dPL_isInRingBefore_26 : decode bPL_isInRingBefore 26 = .ok (.iconst (-1), 1) := by decide +kernel
theorem dPL_isInRingBefore_27 : decode bPL_isInRingBefore 27 = .ok (.if_icmp .eq 5, 3) := by decide +kernel
theorem dPL_isInRingBefore_30 : decode bPL_isInRingBefore 30 = .ok (.iconst 1, 1) := by decide +kernel
theorem dPL_isInRingBefore_31 : decode bPL_isInRingBefore 31 = .ok (.ireturn, 1) := by decide +kernel
theorem dPL_isInRingBefore_32 : decode bPL_isInRingBefore 32 = .ok (.iinc 3 1, 3) := by decide +kernel
theorem dPL_isInRingBefore_35 : decode bPL_isInRingBefore 35 = .ok (.goto (-33), 3) := by decide +kernel
theorem dPL_isInRingBefore_38 : decode bPL_isInRingBefore 38 = .ok (.iconst 0, 1) := by decide +kernel
theorem dPL_isInRingBefore_39 : decode bPL_isInRingBefore 39 = .ok (.ireturn, 1) := by decide +kernel
theorem dPL_isOwner_0 : decode bPL_isOwner 0 = .ok (.aload_n 0, 1) := by decide +kernel
theorem dPL_isOwner_1 : decode bPL_isOwner 1 = .ok (.getfield 21, 3) := by decide +kernel
theorem dPL_isOwner_4 : decode bPL_isOwner 4 = .ok (.iload_n 1, 1) := by decide +kernel
theorem dPL_isOwner_5 : decode bPL_isOwner 5 = .ok (.bipush 6, 2) := by decide +kernel
theorem dPL_isOwner_7 : decode bPL_isOwner 7 = .ok (.irem, 1) := by decide +kernel
theorem dPL_isOwner_8 : decode bPL_isOwner 8 = .ok (.iaload, 1) := by decide +kernel
theorem dPL_isOwner_9 : decode bPL_isOwner 9 = .ok (.iload_n 1, 1) := by decide +kernel
theorem dPL_isOwner_10 : decode bPL_isOwner 10 = .ok (.bipush 6, 2) := by decide +kernel
theorem dPL_isOwner_12 : decode bPL_isOwner 12 = .ok (.idiv, 1) := by decide +kernel
theorem dPL_isOwner_13 : decode bPL_isOwner 13 = .ok (.if_icmp .ne 7, 3) := by decide +kernel
theorem dPL_isOwner_16 : decode bPL_isOwner 16 = .ok (.iconst 1, 1) := by decide +kernel
theorem dPL_isOwner_17 : decode bPL_isOwner 17 = .ok (.goto 4, 3) := by decide +kernel
theorem dPL_isOwner_20 : decode bPL_isOwner 20 = .ok (.iconst 0, 1) := by decide +kernel
theorem dPL_isOwner_21 : decode bPL_isOwner 21 = .ok (.ireturn, 1) := by decide +kernel
theorem dPL_otherPort_0 : decode bPL_otherPort 0 = .ok (.iconst 2, 1) := by decide +kernel
theorem dPL_otherPort_1 : decode bPL_otherPort 1 = .ok (.aload_n 0, 1) := by decide +kernel
theorem dPL_otherPort_2 : decode bPL_otherPort 2 = .ok (.getfield 27, 3) := by decide +kernel
theorem dPL_otherPort_5 : decode bPL_otherPort 5 = .ok (.iload_n 1, 1) := by decide +kernel
theorem dPL_otherPort_6 : decode bPL_otherPort 6 = .ok (.iaload, 1) := by decide +kernel
theorem dPL_otherPort_7 : decode bPL_otherPort 7 = .ok (.imul, 1) := by decide +kernel
theorem dPL_otherPort_8 : decode bPL_otherPort 8 = .ok (.istore_n 2, 1) := by decide +kernel
theorem dPL_otherPort_9 : decode bPL_otherPort 9 = .ok (.aload_n 0, 1) := by decide +kernel
theorem dPL_otherPort_10 : decode bPL_otherPort 10 = .ok (.getfield 33, 3) := by decide +kernel
theorem dPL_otherPort_13 : decode bPL_otherPort 13 = .ok (.iload_n 2, 1) := by decide +kernel
theorem dPL_otherPort_14 : decode bPL_otherPort 14 = .ok (.iaload, 1) := by decide +kernel
theorem dPL_otherPort_15 : decode bPL_otherPort 15 = .ok (.iload_n 1, 1) := by decide +kernel
theorem dPL_otherPort_16 : decode bPL_otherPort 16 = .ok (.if_icmp .ne 14, 3) := by decide +kernel
theorem dPL_otherPort_19 : decode bPL_otherPort 19 = .ok (.aload_n 0, 1) := by decide +kernel
theorem dPL_otherPort_20 : decode bPL_otherPort 20 = .ok (.getfield 33, 3) := by decide +kernel
theorem dPL_otherPort_23 : decode bPL_otherPort 23 = .ok (.iload_n 2, 1) := by decide +kernel
theorem dPL_otherPort_24 : decode bPL_otherPort 24 = .ok (.iconst 1, 1) := by decide +kernel
theorem dPL_otherPort_25 : decode bPL_otherPort 25 = .ok (.iadd, 1) := by decide +kernel
theorem dPL_otherPort_26 : decode bPL_otherPort 26 = .ok (.iaload, 1) := by decide +kernel
theorem dPL_otherPort_27 : decode bPL_otherPort 27 = .ok (.goto 9, 3) := by decide +kernel
theorem dPL_otherPort_30 : decode bPL_otherPort 30 = .ok (.aload_n 0, 1) := by decide +kernel
theorem dPL_otherPort_31 : decode bPL_otherPort 31 = .ok (.getfield 33, 3) := by decide +kernel
theorem dPL_otherPort_34 : decode bPL_otherPort 34 = .ok (.iload_n 2, 1) := by decide +kernel
theorem dPL_otherPort_35 : decode bPL_otherPort 35 = .ok (.iaload, 1) := by decide +kernel
theorem dPL_otherPort_36 : decode bPL_otherPort 36 = .ok (.ireturn, 1) := by decide +kernel
theorem dPL_portOf_0 : decode bPL_portOf 0 = .ok (.aload_n 0, 1) := by decide +kernel
theorem dPL_portOf_1 : decode bPL_portOf 1 = .ok (.getfield 9, 3) := by decide +kernel
theorem dPL_portOf_4 : decode bPL_portOf 4 = .ok (.iload_n 2, 1) := by decide +kernel
theorem dPL_portOf_5 : decode bPL_portOf 5 = .ok (.iaload, 1) := by decide +kernel
theorem dPL_portOf_6 : decode bPL_portOf 6 = .ok (.iload_n 1, 1) := by decide +kernel
theorem dPL_portOf_7 : decode bPL_portOf 7 = .ok (.if_icmp .ne 7, 3) := by decide +kernel
theorem dPL_portOf_10 : decode bPL_portOf 10 = .ok (.iconst 2, 1) := by decide +kernel
theorem dPL_portOf_11 : decode bPL_portOf 11 = .ok (.iload_n 2, 1) := by decide +kernel
theorem dPL_portOf_12 : decode bPL_portOf 12 = .ok (.imul, 1) := by decide +kernel
theorem dPL_portOf_13 : decode bPL_portOf 13 = .ok (.ireturn, 1) := by decide +kernel
theorem dPL_portOf_14 : decode bPL_portOf 14 = .ok (.aload_n 0, 1) := by decide +kernel
theorem dPL_portOf_15 : decode bPL_portOf 15 = .ok (.getfield 15, 3) := by decide +kernel
theorem dPL_portOf_18 : decode bPL_portOf 18 = .ok (.iload_n 2, 1) := by decide +kernel
theorem dPL_portOf_19 : decode bPL_portOf 19 = .ok (.iaload, 1) := by decide +kernel
theorem dPL_portOf_20 : decode bPL_portOf 20 = .ok (.iload_n 1, 1) := by decide +kernel
theorem dPL_portOf_21 : decode bPL_portOf 21 = .ok (.if_icmp .ne 11, 3) := by decide +kernel
theorem dPL_portOf_24 : decode bPL_portOf 24 = .ok (.iconst 2, 1) := by decide +kernel
theorem dPL_portOf_25 : decode bPL_portOf 25 = .ok (.iload_n 2, 1) := by decide +kernel
theorem dPL_portOf_26 : decode bPL_portOf 26 = .ok (.imul, 1) := by decide +kernel
theorem dPL_portOf_27 : decode bPL_portOf 27 = .ok (.iconst 1, 1) := by decide +kernel
theorem dPL_portOf_28 : decode bPL_portOf 28 = .ok (.iadd, 1) := by decide +kernel
theorem dPL_portOf_29 : decode bPL_portOf 29 = .ok (.goto 4, 3) := by decide +kernel
theorem dPL_portOf_32 : decode bPL_portOf 32 = .ok (.iconst (-1), 1) := by decide +kernel
theorem dPL_portOf_33 : decode bPL_portOf 33 = .ok (.ireturn, 1) := by decide +kernel
noncomputable def fPL_portOf (P S : ZS) (x0 : Int32) (x1 : Int32) : Int32 := zl (P.F 0 (x1 : Int32).toNatClampNeg) (fun k1 => (if k1 = x0 then zl (2 * x1) (fun k5 => k5) else zl (P.F 1 (x1 : Int32).toNatClampNeg) (fun k2 => (if k2 = x0 then zl (2 * x1) (fun k3 => zl (k3 + 1) (fun k4 => k4)) else (-1)))))
set_option maxHeartbeats 4000000 in
set_option maxRecDepth 100000 in
theorem tPL_portOf (l : Launch) (dC : Nat → ClassId) (dI : Nat → Nat → Nat) (cI cZ cJ cA : ClassId) (a0 : Array Value) (s0 : State) (o b : Nat → Nat) (P S : ZS) (sz : Nat) (x0 : Int32) (x1 : Int32) (gP : cok P) (gS : cok S) (r_x1 : zr 0 59 x1) : Met l yPL_portOf [Cond.code yPL_portOf bPL_portOf 3 (some .int)] ({ frames := 0, cells := 0, slots := 0, locals := 0 } : Room) (zP zCl dC dI (zTZ cI cZ cJ cA) a0 s0 [.ref (o 1), .int x0, .int x1] sz (CW cI cZ cA o b P S)) (zQp (fun r => r = fPL_portOf P S x0 x1 ∧ zr (-1) 119 r) sz) 0 0 (zN sz) := by
  refine Met.ofW (cc := bPL_portOf) (maxL := 3) (ret := (some .int)) (by decide) rfl ?_
  intro p e s m args below meth c s₁ B hml hv
  obtain ⟨rfl, hsz, hP, hK, hD0, hB⟩ := hv
  have hx := B.exec
  have hb := B.bytes
  have hr := B.returns
  have hown : s.vm.findClass "RingGuard$Plan" = some m.cls := findClass_of_methodNamed B.named
  have hlocks := B.notSynchronized
  subst hsz
  have hD := hD0
  have hA0 : ∀ q, zN s.heap.size q → s0.heap.size ≤ q := zA1 hB
  have hAD : ∀ q, zN s0.heap.size q → s0.heap.size ≤ q := fun _ h => h
  have hA : ∀ q : Nat, s.heap.size ≤ q → zN s.heap.size q := fun _ h => h
  have hS : va_S (zN s.heap.size) s.heap s.heap [] := va_S.rf
  have hl := lv_entry ([.ref (o 1), .int x0, .int x1]) (n := 3) (Nat.le_of_ble_eq_true rfl)
  rw [lg_entry_eq]
  generalize (lg_sl ([.ref (o 1), .int x0, .int x1]) ++ List.replicate (3 - (lg_sl ([.ref (o 1), .int x0, .int x1])).length) Slot.unset).toArray = ls at hl ⊢
  have hl : lv_has ls 3 [(0, .ref (o 1)), (1, .int x0), (2, .int x1)] := hl
  refine zgenQ (fun Q hQe => ?_)
  obtain ⟨tg, etg⟩ : ∃ z, z = fPL_portOf P S x0 x1 := ⟨_, rfl⟩
  have E := etg
  unfold fPL_portOf at E
  refine lv_aload_n hx hb dPL_portOf_0 rfl (lv_at hl 0 rfl) ?_
  refine c_getA_0 hx hb (hB.words zU_PL) hown hK hP (hB.word (zm1 k1_41) rfl) dPL_portOf_1 ?_
  refine lv_iload_n hx hb dPL_portOf_4 rfl (lv_at hl 2 rfl) ?_
  refine c_aldP hx hb hK hP 0 (by decide) rfl r_x1 (by decide) dPL_portOf_5 E (fun k1 ek1 E => ?_)
  have r_k1 : zr 0 47 k1 := by rw [ek1]; exact gP.1 0 _
  refine lv_iload_n hx hb dPL_portOf_6 rfl (lv_at hl 1 rfl) ?_
  refine z_icmp_ne (tgt := 14) hx hb dPL_portOf_7 (by decide) E (fun c_7 E => ?_) (fun c_7 E => ?_)
  · refine lv_aload_n hx hb dPL_portOf_14 rfl (lv_at hl 0 rfl) ?_
    refine c_getA_1 hx hb (hB.words zU_PL) hown hK hP (hB.word (zm1 k1_43) rfl) dPL_portOf_15 ?_
    refine lv_iload_n hx hb dPL_portOf_18 rfl (lv_at hl 2 rfl) ?_
    refine c_aldP hx hb hK hP 1 (by decide) rfl r_x1 (by decide) dPL_portOf_19 E (fun k2 ek2 E => ?_)
    have r_k2 : zr 0 47 k2 := by rw [ek2]; exact gP.1 1 _
    refine lv_iload_n hx hb dPL_portOf_20 rfl (lv_at hl 1 rfl) ?_
    refine z_icmp_ne (tgt := 32) hx hb dPL_portOf_21 (by decide) E (fun c_21 E => ?_) (fun c_21 E => ?_)
    · refine lv_iconst (v := (-1)) hx hb dPL_portOf_32 (by decide) ?_
      rw [hQe]
      exact W.iret (v := (-1)) hx hb hr (fun t ht hW => ⟨⟨(-1), (), rfl, ⟨E.symm.trans etg, (show zr (-1) 119 (-1) from by decide)⟩, trivial⟩, hS.F ht⟩) hS.2.2 dPL_portOf_33
    · have r_x0 : zr 0 47 x0 := zeq_x r_k2 c_21.symm
      refine lv_iconst (v := 2) hx hb dPL_portOf_24 (by decide) ?_
      refine lv_iload_n hx hb dPL_portOf_25 rfl (lv_at hl 2 rfl) ?_
      refine z_imul hx hb dPL_portOf_26 E (fun k3 ek3 E => ?_)
      have r_k3 : zr 0 118 k3 := zr_mul (show zr 2 2 2 from by decide) r_x1 ek3 (by decide)
      refine lv_iconst (v := 1) hx hb dPL_portOf_27 (by decide) ?_
      refine z_iadd hx hb dPL_portOf_28 E (fun k4 ek4 E => ?_)
      have r_k4 : zr 1 119 k4 := zr_add r_k3 (show zr 1 1 1 from by decide) ek4 (by decide)
      refine lv_goto (tgt := 33) hx hb dPL_portOf_29 (by decide) ?_
      rw [hQe]
      exact W.iret (v := k4) hx hb hr (fun t ht hW => ⟨⟨k4, (), rfl, ⟨E.symm.trans etg, (zr_mono r_k4 (by decide))⟩, trivial⟩, hS.F ht⟩) hS.2.2 dPL_portOf_33
  · have r_x0 : zr 0 47 x0 := zeq_x r_k1 c_7.symm
    refine lv_iconst (v := 2) hx hb dPL_portOf_10 (by decide) ?_
    refine lv_iload_n hx hb dPL_portOf_11 rfl (lv_at hl 2 rfl) ?_
    refine z_imul hx hb dPL_portOf_12 E (fun k5 ek5 E => ?_)
    have r_k5 : zr 0 118 k5 := zr_mul (show zr 2 2 2 from by decide) r_x1 ek5 (by decide)
    rw [hQe]
    exact W.iret (v := k5) hx hb hr (fun t ht hW => ⟨⟨k5, (), rfl, ⟨E.symm.trans etg, (zr_mono r_k5 (by decide))⟩, trivial⟩, hS.F ht⟩) hS.2.2 dPL_portOf_13
noncomputable def fPL_otherPort (P S : ZS) (x0 : Int32) : Int32 := zl (P.F 5 (x0 : Int32).toNatClampNeg) (fun k1 => zl (2 * k1) (fun k2 => zl (P.F 7 (k2 : Int32).toNatClampNeg) (fun k3 => (if k3 = x0 then zl (k2 + 1) (fun k5 => zl (P.F 7 (k5 : Int32).toNatClampNeg) (fun k6 => k6)) else zl (P.F 7 (k2 : Int32).toNatClampNeg) (fun k4 => k3)))))
set_option maxHeartbeats 4000000 in
set_option maxRecDepth 100000 in
theorem tPL_otherPort (l : Launch) (dC : Nat → ClassId) (dI : Nat → Nat → Nat) (cI cZ cJ cA : ClassId) (a0 : Array Value) (s0 : State) (o b : Nat → Nat) (P S : ZS) (sz : Nat) (x0 : Int32) (gP : cok P) (gS : cok S) (r_x0 : zr 0 119 x0) : Met l yPL_otherPort [Cond.code yPL_otherPort bPL_otherPort 3 (some .int)] ({ frames := 0, cells := 0, slots := 0, locals := 0 } : Room) (zP zCl dC dI (zTZ cI cZ cJ cA) a0 s0 [.ref (o 1), .int x0] sz (CW cI cZ cA o b P S)) (zQp (fun r => r = fPL_otherPort P S x0 ∧ zr (-1) 119 r) sz) 0 0 (zN sz) := by
  refine Met.ofW (cc := bPL_otherPort) (maxL := 3) (ret := (some .int)) (by decide) rfl ?_
  intro p e s m args below meth c s₁ B hml hv
  obtain ⟨rfl, hsz, hP, hK, hD0, hB⟩ := hv
  have hx := B.exec
  have hb := B.bytes
  have hr := B.returns
  have hown : s.vm.findClass "RingGuard$Plan" = some m.cls := findClass_of_methodNamed B.named
  have hlocks := B.notSynchronized
  subst hsz
  have hD := hD0
  have hA0 : ∀ q, zN s.heap.size q → s0.heap.size ≤ q := zA1 hB
  have hAD : ∀ q, zN s0.heap.size q → s0.heap.size ≤ q := fun _ h => h
  have hA : ∀ q : Nat, s.heap.size ≤ q → zN s.heap.size q := fun _ h => h
  have hS : va_S (zN s.heap.size) s.heap s.heap [] := va_S.rf
  have hl := lv_entry ([.ref (o 1), .int x0]) (n := 3) (Nat.le_of_ble_eq_true rfl)
  rw [lg_entry_eq]
  generalize (lg_sl ([.ref (o 1), .int x0]) ++ List.replicate (3 - (lg_sl ([.ref (o 1), .int x0])).length) Slot.unset).toArray = ls at hl ⊢
  have hl : lv_has ls 3 [(0, .ref (o 1)), (1, .int x0)] := hl
  refine zgenQ (fun Q hQe => ?_)
  obtain ⟨tg, etg⟩ : ∃ z, z = fPL_otherPort P S x0 := ⟨_, rfl⟩
  have E := etg
  unfold fPL_otherPort at E
  refine lv_iconst (v := 2) hx hb dPL_otherPort_0 (by decide) ?_
  refine lv_aload_n hx hb dPL_otherPort_1 rfl (lv_at hl 0 rfl) ?_
  refine c_getA_5 hx hb (hB.words zU_PL) hown hK hP (hB.word (zm1 k1_51) rfl) dPL_otherPort_2 ?_
  refine lv_iload_n hx hb dPL_otherPort_5 rfl (lv_at hl 1 rfl) ?_
  refine c_aldP hx hb hK hP 5 (by decide) rfl r_x0 (by decide) dPL_otherPort_6 E (fun k1 ek1 E => ?_)
  have r_k1 : zr 0 287 k1 := by rw [ek1]; exact gP.1 5 _
  refine z_imul hx hb dPL_otherPort_7 E (fun k2 ek2 E => ?_)
  have r_k2 : zr 0 574 k2 := zr_mul (show zr 2 2 2 from by decide) r_k1 ek2 (by decide)
  refine lv_istore_n (lv' := [(2, .int k2), (0, .ref (o 1)), (1, .int x0)]) hx hb dPL_otherPort_8 rfl hl (by decide) rfl (fun ls hl => ?_)
  refine lv_aload_n hx hb dPL_otherPort_9 rfl (lv_at hl 1 rfl) ?_
  refine c_getA_7 hx hb (hB.words zU_PL) hown hK hP (hB.word (zm1 k1_56) rfl) dPL_otherPort_10 ?_
  refine lv_iload_n hx hb dPL_otherPort_13 rfl (lv_at hl 0 rfl) ?_
  refine c_aldP hx hb hK hP 7 (by decide) rfl r_k2 (by decide) dPL_otherPort_14 E (fun k3 ek3 E => ?_)
  have r_k3 : zr (-1) 119 k3 := by rw [ek3]; exact gP.1 7 _
  refine lv_iload_n hx hb dPL_otherPort_15 rfl (lv_at hl 2 rfl) ?_
  refine z_icmp_ne (tgt := 30) hx hb dPL_otherPort_16 (by decide) E (fun c_16 E => ?_) (fun c_16 E => ?_)
  · refine lv_aload_n hx hb dPL_otherPort_30 rfl (lv_at hl 1 rfl) ?_
    refine c_getA_7 hx hb (hB.words zU_PL) hown hK hP (hB.word (zm1 k1_56) rfl) dPL_otherPort_31 ?_
    refine lv_iload_n hx hb dPL_otherPort_34 rfl (lv_at hl 0 rfl) ?_
    refine c_aldP hx hb hK hP 7 (by decide) rfl r_k2 (by decide) dPL_otherPort_35 E (fun k4 ek4 E => ?_)
    have x9 : k3 = k4 := by rw [ek3, ek4]
    subst x9
    rw [hQe]
    exact W.iret (v := k3) hx hb hr (fun t ht hW => ⟨⟨k3, (), rfl, ⟨E.symm.trans etg, r_k3⟩, trivial⟩, hS.F ht⟩) hS.2.2 dPL_otherPort_36
  · have r_k3 : zr 0 119 k3 := zeq_x r_x0 c_16
    refine lv_aload_n hx hb dPL_otherPort_19 rfl (lv_at hl 1 rfl) ?_
    refine c_getA_7 hx hb (hB.words zU_PL) hown hK hP (hB.word (zm1 k1_56) rfl) dPL_otherPort_20 ?_
    refine lv_iload_n hx hb dPL_otherPort_23 rfl (lv_at hl 0 rfl) ?_
    refine lv_iconst (v := 1) hx hb dPL_otherPort_24 (by decide) ?_
    refine z_iadd hx hb dPL_otherPort_25 E (fun k5 ek5 E => ?_)
    have r_k5 : zr 1 575 k5 := zr_add r_k2 (show zr 1 1 1 from by decide) ek5 (by decide)
    refine c_aldP hx hb hK hP 7 (by decide) rfl r_k5 (by decide) dPL_otherPort_26 E (fun k6 ek6 E => ?_)
    have r_k6 : zr (-1) 119 k6 := by rw [ek6]; exact gP.1 7 _
    refine lv_goto (tgt := 36) hx hb dPL_otherPort_27 (by decide) ?_
    rw [hQe]
    exact W.iret (v := k6) hx hb hr (fun t ht hW => ⟨⟨k6, (), rfl, ⟨E.symm.trans etg, r_k6⟩, trivial⟩, hS.F ht⟩) hS.2.2 dPL_otherPort_36
noncomputable def fPL_isOwner (P S : ZS) (x0 : Int32) : Int32 := zl (x0 - x0 / 6 * 6) (fun k1 => zl (P.F 3 (k1 : Int32).toNatClampNeg) (fun k2 => zl (x0 / 6) (fun k3 => (if k2 = k3 then 1 else 0))))
set_option maxHeartbeats 4000000 in
set_option maxRecDepth 100000 in
theorem tPL_isOwner (l : Launch) (dC : Nat → ClassId) (dI : Nat → Nat → Nat) (cI cZ cJ cA : ClassId) (a0 : Array Value) (s0 : State) (o b : Nat → Nat) (P S : ZS) (sz : Nat) (x0 : Int32) (gP : cok P) (gS : cok S) (r_x0 : zr 0 287 x0) : Met l yPL_isOwner [Cond.code yPL_isOwner bPL_isOwner 2 (some .boolean)] ({ frames := 0, cells := 0, slots := 0, locals := 0 } : Room) (zP zCl dC dI (zTZ cI cZ cJ cA) a0 s0 [.ref (o 1), .int x0] sz (CW cI cZ cA o b P S)) (zQp (fun r => r = fPL_isOwner P S x0 ∧ zr 0 1 r) sz) 0 0 (zN sz) := by
  refine Met.ofW (cc := bPL_isOwner) (maxL := 2) (ret := (some .boolean)) (by decide) rfl ?_
  intro p e s m args below meth c s₁ B hml hv
  obtain ⟨rfl, hsz, hP, hK, hD0, hB⟩ := hv
  have hx := B.exec
  have hb := B.bytes
  have hr := B.returns
  have hown : s.vm.findClass "RingGuard$Plan" = some m.cls := findClass_of_methodNamed B.named
  have hlocks := B.notSynchronized
  subst hsz
  have hD := hD0
  have hA0 : ∀ q, zN s.heap.size q → s0.heap.size ≤ q := zA1 hB
  have hAD : ∀ q, zN s0.heap.size q → s0.heap.size ≤ q := fun _ h => h
  have hA : ∀ q : Nat, s.heap.size ≤ q → zN s.heap.size q := fun _ h => h
  have hS : va_S (zN s.heap.size) s.heap s.heap [] := va_S.rf
  have hl := lv_entry ([.ref (o 1), .int x0]) (n := 2) (Nat.le_of_ble_eq_true rfl)
  rw [lg_entry_eq]
  generalize (lg_sl ([.ref (o 1), .int x0]) ++ List.replicate (2 - (lg_sl ([.ref (o 1), .int x0])).length) Slot.unset).toArray = ls at hl ⊢
  have hl : lv_has ls 2 [(0, .ref (o 1)), (1, .int x0)] := hl
  refine zgenQ (fun Q hQe => ?_)
  obtain ⟨tg, etg⟩ : ∃ z, z = fPL_isOwner P S x0 := ⟨_, rfl⟩
  have E := etg
  unfold fPL_isOwner at E
  refine lv_aload_n hx hb dPL_isOwner_0 rfl (lv_at hl 0 rfl) ?_
  refine c_getA_3 hx hb (hB.words zU_PL) hown hK hP (hB.word (zm1 k1_47) rfl) dPL_isOwner_1 ?_
  refine lv_iload_n hx hb dPL_isOwner_4 rfl (lv_at hl 1 rfl) ?_
  refine lv_bipush (v := 6) hx hb dPL_isOwner_5 (by decide) ?_
  refine z_irem hx hb dPL_isOwner_7 (by decide) E (fun k1 ek1 E => ?_)
  have r_k1 : zr 0 5 k1 := (zr_rem (lo := 0) (hi := 5) r_x0 (c := 6) (by decide) ek1 (by decide)).1
  refine c_aldP hx hb hK hP 3 (by decide) rfl r_k1 (by decide) dPL_isOwner_8 E (fun k2 ek2 E => ?_)
  have r_k2 : zr (-1) 47 k2 := by rw [ek2]; exact gP.1 3 _
  refine lv_iload_n hx hb dPL_isOwner_9 rfl (lv_at hl 1 rfl) ?_
  refine lv_bipush (v := 6) hx hb dPL_isOwner_10 (by decide) ?_
  refine z_idiv hx hb dPL_isOwner_12 (by decide) E (fun k3 ek3 E => ?_)
  have r_k3 : zr 0 47 k3 := zr_div r_x0 (c := 6) (by decide) ek3 (by decide)
  refine z_icmp_ne (tgt := 20) hx hb dPL_isOwner_13 (by decide) E (fun c_13 E => ?_) (fun c_13 E => ?_)
  · refine lv_iconst (v := 0) hx hb dPL_isOwner_20 (by decide) ?_
    rw [hQe]
    exact W.zret (v := 0) (ty := .boolean) hx hb hr (znar (show zr 0 1 0 from by decide)) (fun t ht hW => ⟨⟨0, (), rfl, ⟨E.symm.trans etg, (show zr 0 1 0 from by decide)⟩, trivial⟩, hS.F ht⟩) hS.2.2 dPL_isOwner_21
  · have r_k2 : zr 0 47 k2 := zeq_x r_k3 c_13
    refine lv_iconst (v := 1) hx hb dPL_isOwner_16 (by decide) ?_
    refine lv_goto (tgt := 21) hx hb dPL_isOwner_17 (by decide) ?_
    rw [hQe]
    exact W.zret (v := 1) (ty := .boolean) hx hb hr (znar (show zr 0 1 1 from by decide)) (fun t ht hW => ⟨⟨1, (), rfl, ⟨E.symm.trans etg, (show zr 0 1 1 from by decide)⟩, trivial⟩, hS.F ht⟩) hS.2.2 dPL_isOwner_21
noncomputable def fPL_hasLinks_2 (P : ZS) (S : ZS) (rc2 : Int32 → Int32 → (Int32)) (x2_1 : Int32) (x2_2 : Int32) : Int32 := zl (P.I 1) (fun k1 => (if k1 ≤ x2_2 then 0 else zl (P.F 2 (x2_2 : Int32).toNatClampNeg) (fun k2 => (if k2 = x2_1 then 1 else zl (x2_2 + 1) (fun k3 => rc2 x2_1 k3)))))
noncomputable def fPL_hasLinks (P S : ZS) (x0 : Int32) : Int32 := zfix (fun _ _ => 0) (fPL_hasLinks_2 P S) 61 x0 0
set_option maxHeartbeats 4000000 in
set_option maxRecDepth 100000 in
theorem tPL_hasLinks (l : Launch) (dC : Nat → ClassId) (dI : Nat → Nat → Nat) (cI cZ cJ cA : ClassId) (a0 : Array Value) (s0 : State) (o b : Nat → Nat) (P S : ZS) (sz : Nat) (x0 : Int32) (gP : cok P) (gS : cok S) : Met l yPL_hasLinks [Cond.code yPL_hasLinks bPL_hasLinks 3 (some .boolean)] ({ frames := 0, cells := 0, slots := 0, locals := 0 } : Room) (zP zCl dC dI (zTZ cI cZ cJ cA) a0 s0 [.ref (o 1), .int x0] sz (CW cI cZ cA o b P S)) (zQp (fun r => r = fPL_hasLinks P S x0 ∧ zr 0 1 r) sz) 0 0 (zN sz) := by
  refine Met.ofW (cc := bPL_hasLinks) (maxL := 3) (ret := (some .boolean)) (by decide) rfl ?_
  intro p e s m args below meth c s₁ B hml hv
  obtain ⟨rfl, hsz, hP, hK, hD0, hB⟩ := hv
  have hx := B.exec
  have hb := B.bytes
  have hr := B.returns
  have hown : s.vm.findClass "RingGuard$Plan" = some m.cls := findClass_of_methodNamed B.named
  have hlocks := B.notSynchronized
  subst hsz
  have hD := hD0
  have hA0 : ∀ q, zN s.heap.size q → s0.heap.size ≤ q := zA1 hB
  have hAD : ∀ q, zN s0.heap.size q → s0.heap.size ≤ q := fun _ h => h
  have hA : ∀ q : Nat, s.heap.size ≤ q → zN s.heap.size q := fun _ h => h
  have hS : va_S (zN s.heap.size) s.heap s.heap [] := va_S.rf
  have hl := lv_entry ([.ref (o 1), .int x0]) (n := 3) (Nat.le_of_ble_eq_true rfl)
  rw [lg_entry_eq]
  generalize (lg_sl ([.ref (o 1), .int x0]) ++ List.replicate (3 - (lg_sl ([.ref (o 1), .int x0])).length) Slot.unset).toArray = ls at hl ⊢
  have hl : lv_has ls 3 [(0, .ref (o 1)), (1, .int x0)] := hl
  refine zgenQ (fun Q hQe => ?_)
  obtain ⟨tg, etg⟩ : ∃ z, z = fPL_hasLinks P S x0 := ⟨_, rfl⟩
  have E := etg
  unfold fPL_hasLinks at E
  have hL2 : ∀ (n2 : Nat) (H : Heap) (locs : List Loc) (ls : Array Slot) (x2_1 : Int32) (x2_2 : Int32), zr 0 60 x2_2 → 60 + 1 - x2_2.toInt ≤ (n2 : Int) → tg = zfix (fun _ _ => 0) (fPL_hasLinks_2 P S) n2 x2_1 x2_2 → va_P (dC, dI) zCl (CW cI cZ cA o b P S) H → va_S (zN s.heap.size) s.heap H locs → lv_has ls 3 [(0, .ref (o 1)), (1, .int x2_1), (2, .int x2_2)] → W p l e ({ frames := 0, cells := 0, slots := 0, locals := 0 } : Room) s m ([.ref (o 1), .int x0] : List Value).toArray below meth c H locs 0 0 Q (F0 m 2 ls []) := by
    intro n2
    induction n2 with
    | zero => intro H locs ls x2_1 x2_2 r_x2_2 hm2 E hP hS hl; exact absurd hm2 (zfuel0U r_x2_2)
    | succ n2 ih2 =>
      intro H locs ls x2_1 x2_2 r_x2_2 hm2 E hP hS hl
      rw [zfix_s] at E
      generalize zfix (fun _ _ => 0) (fPL_hasLinks_2 P S) n2 = rc2 at ih2 E
      unfold fPL_hasLinks_2 at E
      refine lv_iload_n hx hb dPL_hasLinks_2 rfl (lv_at hl 2 rfl) ?_
      refine lv_aload_n hx hb dPL_hasLinks_3 rfl (lv_at hl 0 rfl) ?_
      refine c_get_1 hx hb (hB.words zU_PL) hown hK hP (hB.word (zm1 k1_37) rfl) dPL_hasLinks_4 E (fun k1 ek1 E => ?_)
      have r_k1 : zr 0 60 k1 := by rw [ek1]; exact gP.2.1 1
      refine z_icmp_ge (tgt := 28) hx hb dPL_hasLinks_7 (by decide) E (fun c_7 E => ?_) (fun c_7 E => ?_)
      · refine lv_iconst (v := 0) hx hb dPL_hasLinks_28 (by decide) ?_
        rw [hQe]
        exact W.zret (v := 0) (ty := .boolean) hx hb hr (znar (show zr 0 1 0 from by decide)) (fun t ht hW => ⟨⟨0, (), rfl, ⟨E.symm.trans etg, (show zr 0 1 0 from by decide)⟩, trivial⟩, hS.F ht⟩) hS.2.2 dPL_hasLinks_29
      · have r_x2_2 : zr 0 59 x2_2 := zlt_x r_x2_2 r_k1 (znle c_7) (by decide)
        have r_k1 : zr 1 60 k1 := zlt_y r_x2_2 r_k1 (znle c_7) (by decide)
        refine lv_aload_n hx hb dPL_hasLinks_10 rfl (lv_at hl 0 rfl) ?_
        refine c_getA_2 hx hb (hB.words zU_PL) hown hK hP (hB.word (zm1 k1_45) rfl) dPL_hasLinks_11 ?_
        refine lv_iload_n hx hb dPL_hasLinks_14 rfl (lv_at hl 2 rfl) ?_
        refine c_aldP hx hb hK hP 2 (by decide) rfl r_x2_2 (by decide) dPL_hasLinks_15 E (fun k2 ek2 E => ?_)
        have r_k2 : zr 0 5 k2 := by rw [ek2]; exact gP.1 2 _
        refine lv_iload_n hx hb dPL_hasLinks_16 rfl (lv_at hl 1 rfl) ?_
        refine z_icmp_ne (tgt := 22) hx hb dPL_hasLinks_17 (by decide) E (fun c_17 E => ?_) (fun c_17 E => ?_)
        · refine z_iinc (lv' := fun v9 => [(2, .int v9), (0, .ref (o 1)), (1, .int x2_1)]) (cst := 1) hx hb dPL_hasLinks_22 hl (k := 2) rfl (by decide) (by decide) (fun _ => rfl) E (fun k3 ls ek3 E hl => ?_)
          have r_k3 : zr 1 60 k3 := zr_add r_x2_2 (show zr 1 1 1 from by decide) ek3 (by decide)
          refine lv_goto (tgt := 2) hx hb dPL_hasLinks_25 (by decide) ?_
          exact ih2 H locs ls x2_1 k3 (zr_mono r_k3 (by decide)) (zstepU ek3 r_x2_2 (by decide) hm2) E hP hS (lv_sub hl [1, 2, 0] rfl)
        · have r_x2_1 : zr 0 5 x2_1 := zeq_x r_k2 c_17.symm
          refine lv_iconst (v := 1) hx hb dPL_hasLinks_20 (by decide) ?_
          rw [hQe]
          exact W.zret (v := 1) (ty := .boolean) hx hb hr (znar (show zr 0 1 1 from by decide)) (fun t ht hW => ⟨⟨1, (), rfl, ⟨E.symm.trans etg, (show zr 0 1 1 from by decide)⟩, trivial⟩, hS.F ht⟩) hS.2.2 dPL_hasLinks_21
  refine lv_iconst (v := 0) hx hb dPL_hasLinks_0 (by decide) ?_
  refine lv_istore_n (lv' := [(2, .int 0), (0, .ref (o 1)), (1, .int x0)]) hx hb dPL_hasLinks_1 rfl hl (by decide) rfl (fun ls hl => ?_)
  exact hL2 61 s.heap [] ls x0 0 (show zr 0 60 0 from by decide) (by have h9 := (show zr 0 0 0 from by decide); exact zfuelU h9 (by decide)) E hP hS (lv_sub hl [1, 2, 0] rfl)
noncomputable def fPL_isInRingBefore_32 (P : ZS) (S : ZS) (rc2 : Int32 → Int32 → Int32 → (Int32)) (x32_1 : Int32) (x32_2 : Int32) (x32_3 : Int32) : Int32 := zl (x32_3 + 1) (fun k1 => rc2 x32_1 x32_2 k1)
noncomputable def fPL_isInRingBefore_2 (P : ZS) (S : ZS) (rc2 : Int32 → Int32 → Int32 → (Int32)) (x2_1 : Int32) (x2_2 : Int32) (x2_3 : Int32) : Int32 := zl (P.I 1) (fun k2 => (if k2 ≤ x2_3 then 0 else zl (P.F 2 (x2_3 : Int32).toNatClampNeg) (fun k3 => (if x2_2 ≤ k3 then fPL_isInRingBefore_32 P S rc2 x2_1 x2_2 x2_3 else zl (fPL_portOf P S x2_1 x2_3) (fun k5 => (if k5 = (-1) then fPL_isInRingBefore_32 P S rc2 x2_1 x2_2 x2_3 else 1))))))
noncomputable def fPL_isInRingBefore (P S : ZS) (x0 : Int32) (x1 : Int32) : Int32 := zfix (fun _ _ _ => 0) (fPL_isInRingBefore_2 P S) 61 x0 x1 0
set_option maxHeartbeats 4000000 in
set_option maxRecDepth 100000 in
theorem tPL_isInRingBefore (l : Launch) (dC : Nat → ClassId) (dI : Nat → Nat → Nat) (cI cZ cJ cA : ClassId) (a0 : Array Value) (s0 : State) (o b : Nat → Nat) (P S : ZS) (sz : Nat) (x0 : Int32) (x1 : Int32) (gP : cok P) (gS : cok S) : Met l yPL_isInRingBefore [Cond.code yPL_isInRingBefore bPL_isInRingBefore 4 (some .boolean)] ({ frames := 1, cells := 0, slots := 0, locals := 22 } : Room) (zP zCl dC dI (zTZ cI cZ cJ cA) a0 s0 [.ref (o 1), .int x0, .int x1] sz (CW cI cZ cA o b P S)) (zQp (fun r => r = fPL_isInRingBefore P S x0 x1 ∧ zr 0 1 r) sz) 0 0 (zN sz) := by
  refine Met.ofW (cc := bPL_isInRingBefore) (maxL := 4) (ret := (some .boolean)) (by decide) rfl ?_
  intro p e s m args below meth c s₁ B hml hv
  obtain ⟨rfl, hsz, hP, hK, hD0, hB⟩ := hv
  have hx := B.exec
  have hb := B.bytes
  have hr := B.returns
  have hown : s.vm.findClass "RingGuard$Plan" = some m.cls := findClass_of_methodNamed B.named
  have hlocks := B.notSynchronized
  subst hsz
  have hD := hD0
  have hA0 : ∀ q, zN s.heap.size q → s0.heap.size ≤ q := zA1 hB
  have hAD : ∀ q, zN s0.heap.size q → s0.heap.size ≤ q := fun _ h => h
  have hA : ∀ q : Nat, s.heap.size ≤ q → zN s.heap.size q := fun _ h => h
  have hS : va_S (zN s.heap.size) s.heap s.heap [] := va_S.rf
  have hl := lv_entry ([.ref (o 1), .int x0, .int x1]) (n := 4) (Nat.le_of_ble_eq_true rfl)
  rw [lg_entry_eq]
  generalize (lg_sl ([.ref (o 1), .int x0, .int x1]) ++ List.replicate (4 - (lg_sl ([.ref (o 1), .int x0, .int x1])).length) Slot.unset).toArray = ls at hl ⊢
  have hl : lv_has ls 4 [(0, .ref (o 1)), (1, .int x0), (2, .int x1)] := hl
  refine zgenQ (fun Q hQe => ?_)
  obtain ⟨tg, etg⟩ : ∃ z, z = fPL_isInRingBefore P S x0 x1 := ⟨_, rfl⟩
  have E := etg
  unfold fPL_isInRingBefore at E
  have hL2 : ∀ (n2 : Nat) (H : Heap) (locs : List Loc) (ls : Array Slot) (x2_1 : Int32) (x2_2 : Int32) (x2_3 : Int32), zr 0 60 x2_3 → 60 + 1 - x2_3.toInt ≤ (n2 : Int) → tg = zfix (fun _ _ _ => 0) (fPL_isInRingBefore_2 P S) n2 x2_1 x2_2 x2_3 → va_P (dC, dI) zCl (CW cI cZ cA o b P S) H → va_S (zN s.heap.size) s.heap H locs → lv_has ls 4 [(0, .ref (o 1)), (1, .int x2_1), (2, .int x2_2), (3, .int x2_3)] → W p l e ({ frames := 1, cells := 0, slots := 0, locals := 22 } : Room) s m ([.ref (o 1), .int x0, .int x1] : List Value).toArray below meth c H locs 0 0 Q (F0 m 2 ls []) := by
    intro n2
    induction n2 with
    | zero => intro H locs ls x2_1 x2_2 x2_3 r_x2_3 hm2 E hP hS hl; exact absurd hm2 (zfuel0U r_x2_3)
    | succ n2 ih2 =>
      intro H locs ls x2_1 x2_2 x2_3 r_x2_3 hm2 E hP hS hl
      rw [zfix_s] at E
      generalize zfix (fun _ _ _ => 0) (fPL_isInRingBefore_2 P S) n2 = rc2 at ih2 E
      unfold fPL_isInRingBefore_2 at E
      have hJ32 : ∀ (H : Heap) (locs : List Loc) (ls : Array Slot) (x32_1 : Int32) (x32_2 : Int32) (x32_3 : Int32), zr 0 59 x32_3 → 60 + 1 - x32_3.toInt ≤ ((n2 + 1 : Nat) : Int) → tg = fPL_isInRingBefore_32 P S rc2 x32_1 x32_2 x32_3 → va_P (dC, dI) zCl (CW cI cZ cA o b P S) H → va_S (zN s.heap.size) s.heap H locs → lv_has ls 4 [(0, .ref (o 1)), (1, .int x32_1), (2, .int x32_2), (3, .int x32_3)] → W p l e ({ frames := 1, cells := 0, slots := 0, locals := 22 } : Room) s m ([.ref (o 1), .int x0, .int x1] : List Value).toArray below meth c H locs 0 0 Q (F0 m 32 ls []) := by
        intro H locs ls x32_1 x32_2 x32_3 r_x32_3 hm2_32 E hP hS hl
        unfold fPL_isInRingBefore_32 at E
        refine z_iinc (lv' := fun v9 => [(3, .int v9), (0, .ref (o 1)), (1, .int x32_1), (2, .int x32_2)]) (cst := 1) hx hb dPL_isInRingBefore_32 hl (k := 3) rfl (by decide) (by decide) (fun _ => rfl) E (fun k1 ls ek1 E hl => ?_)
        have r_k1 : zr 1 60 k1 := zr_add r_x32_3 (show zr 1 1 1 from by decide) ek1 (by decide)
        refine lv_goto (tgt := 2) hx hb dPL_isInRingBefore_35 (by decide) ?_
        exact ih2 H locs ls x32_1 x32_2 k1 (zr_mono r_k1 (by decide)) (zstepU ek1 r_x32_3 (by decide) hm2_32) E hP hS (lv_sub hl [1, 2, 3, 0] rfl)
      refine lv_iload_n hx hb dPL_isInRingBefore_2 rfl (lv_at hl 3 rfl) ?_
      refine lv_aload_n hx hb dPL_isInRingBefore_3 rfl (lv_at hl 0 rfl) ?_
      refine c_get_1 hx hb (hB.words zU_PL) hown hK hP (hB.word (zm1 k1_37) rfl) dPL_isInRingBefore_4 E (fun k2 ek2 E => ?_)
      have r_k2 : zr 0 60 k2 := by rw [ek2]; exact gP.2.1 1
      refine z_icmp_ge (tgt := 38) hx hb dPL_isInRingBefore_7 (by decide) E (fun c_7 E => ?_) (fun c_7 E => ?_)
      · refine lv_iconst (v := 0) hx hb dPL_isInRingBefore_38 (by decide) ?_
        rw [hQe]
        exact W.zret (v := 0) (ty := .boolean) hx hb hr (znar (show zr 0 1 0 from by decide)) (fun t ht hW => ⟨⟨0, (), rfl, ⟨E.symm.trans etg, (show zr 0 1 0 from by decide)⟩, trivial⟩, hS.F ht⟩) hS.2.2 dPL_isInRingBefore_39
      · have r_x2_3 : zr 0 59 x2_3 := zlt_x r_x2_3 r_k2 (znle c_7) (by decide)
        have r_k2 : zr 1 60 k2 := zlt_y r_x2_3 r_k2 (znle c_7) (by decide)
        refine lv_aload_n hx hb dPL_isInRingBefore_10 rfl (lv_at hl 0 rfl) ?_
        refine c_getA_2 hx hb (hB.words zU_PL) hown hK hP (hB.word (zm1 k1_45) rfl) dPL_isInRingBefore_11 ?_
        refine lv_iload_n hx hb dPL_isInRingBefore_14 rfl (lv_at hl 3 rfl) ?_
        refine c_aldP hx hb hK hP 2 (by decide) rfl r_x2_3 (by decide) dPL_isInRingBefore_15 E (fun k3 ek3 E => ?_)
        have r_k3 : zr 0 5 k3 := by rw [ek3]; exact gP.1 2 _
        refine lv_iload_n hx hb dPL_isInRingBefore_16 rfl (lv_at hl 2 rfl) ?_
        refine z_icmp_ge (tgt := 32) hx hb dPL_isInRingBefore_17 (by decide) E (fun c_17 E => ?_) (fun c_17 E => ?_)
        · have r_x2_2 : zr (-2147483648) 5 x2_2 := zle_x (zr_any x2_2) r_k3 c_17 (by decide)
          exact hJ32 H locs ls x2_1 x2_2 x2_3 r_x2_3 hm2 E hP hS (lv_sub hl [0, 1, 2, 3] rfl)
        · have r_x2_2 : zr 1 2147483647 x2_2 := zlt_y r_k3 (zr_any x2_2) (znle c_17) (by decide)
          refine lv_aload_n hx hb dPL_isInRingBefore_20 rfl (lv_at hl 0 rfl) ?_
          refine lv_iload_n hx hb dPL_isInRingBefore_21 rfl (lv_at hl 1 rfl) ?_
          refine lv_iload_n hx hb dPL_isInRingBefore_22 rfl (lv_at hl 3 rfl) ?_
          refine zcallp (va_runV (As := [.int x2_1, .int x2_3]) (rest := []) ⟨hx, hb, hml, hown, zno⟩ (tPL_portOf l dC dI cI cZ cJ cA a0 s0 o b P S H.size x2_1 x2_3 gP gS r_x2_3) (zcw 2 (hB.word (zm2 k2_212) rfl) (hB.word (zm1 k1_2) rfl) (hB.word (zm2 k2_209) rfl) (hB.word (zm2 k2_210) rfl) (hB.word (zm2 k2_211) rfl) rfl rfl (by decide +kernel) ⟨Nat.le_of_ble_eq_true rfl, Nat.le_of_ble_eq_true rfl⟩) ⟨zP_blind, va_recv hK hP (ci := 1) (q0 := 1) rfl rfl, zP_pre hP hK hD hAD (zB_on hB hA0 hS)⟩ rfl rfl hl.1 rfl (lv_room (Nat.le_of_ble_eq_true rfl)) dPL_isInRingBefore_23 ⟨Nat.le_of_ble_eq_true rfl, Nat.le_of_ble_eq_true rfl⟩) hS hA (fun k5 H4 locs hk5 hz1 hk1 hS => ?_)
          have hP := zKeep hP hk1
          have E := zl_s E hk5.1
          refine lv_iconst (v := (-1)) hx hb dPL_isInRingBefore_26 (by decide) ?_
          refine z_icmp_eq (tgt := 32) hx hb dPL_isInRingBefore_27 (by decide) E (fun c_27 E => ?_) (fun c_27 E => ?_)
          · have r_k5 : zr (-1) (-1) k5 := zeq_x (show zr (-1) (-1) (-1) from by decide) c_27
            exact hJ32 H4 locs ls x2_1 x2_2 x2_3 r_x2_3 hm2 E hP hS (lv_sub hl [0, 1, 2, 3] rfl)
          · have r_k5 : zr 0 119 k5 := zne_lo hk5.2 c_27 (by decide)
            refine lv_iconst (v := 1) hx hb dPL_isInRingBefore_30 (by decide) ?_
            rw [hQe]
            exact W.zret (v := 1) (ty := .boolean) hx hb hr (znar (show zr 0 1 1 from by decide)) (fun t ht hW => ⟨⟨1, (), rfl, ⟨E.symm.trans etg, (show zr 0 1 1 from by decide)⟩, trivial⟩, hS.F ht⟩) hS.2.2 dPL_isInRingBefore_31
  refine lv_iconst (v := 0) hx hb dPL_isInRingBefore_0 (by decide) ?_
  refine lv_istore_n (lv' := [(3, .int 0), (0, .ref (o 1)), (1, .int x0), (2, .int x1)]) hx hb dPL_isInRingBefore_1 rfl hl (by decide) rfl (fun ls hl => ?_)
  exact hL2 61 s.heap [] ls x0 x1 0 (show zr 0 60 0 from by decide) (by have h9 := (show zr 0 0 0 from by decide); exact zfuelU h9 (by decide)) E hP hS (lv_sub hl [1, 2, 3, 0] rfl)
noncomputable def fPL_hasBareBridge_2 (P : ZS) (S : ZS) (rc2 : Int32 → (Int32)) (x2_1 : Int32) : Int32 := zl (P.I 0) (fun k1 => (if k1 ≤ x2_1 then 0 else zl (fPL_isInRingBefore P S x2_1 6) (fun k3 => (if k3 = 0 then 1 else zl (x2_1 + 1) (fun k4 => rc2 k4)))))
noncomputable def fPL_hasBareBridge (P S : ZS) : Int32 := zfix (fun _ => 0) (fPL_hasBareBridge_2 P S) 49 0
set_option maxHeartbeats 4000000 in
set_option maxRecDepth 100000 in
theorem tPL_hasBareBridge (l : Launch) (dC : Nat → ClassId) (dI : Nat → Nat → Nat) (cI cZ cJ cA : ClassId) (a0 : Array Value) (s0 : State) (o b : Nat → Nat) (P S : ZS) (sz : Nat) (gP : cok P) (gS : cok S) : Met l yPL_hasBareBridge [Cond.code yPL_hasBareBridge bPL_hasBareBridge 2 (some .boolean)] ({ frames := 2, cells := 0, slots := 0, locals := 45 } : Room) (zP zCl dC dI (zTZ cI cZ cJ cA) a0 s0 [.ref (o 1)] sz (CW cI cZ cA o b P S)) (zQp (fun r => r = fPL_hasBareBridge P S  ∧ zr 0 1 r) sz) 0 0 (zN sz) := by
  refine Met.ofW (cc := bPL_hasBareBridge) (maxL := 2) (ret := (some .boolean)) (by decide) rfl ?_
  intro p e s m args below meth c s₁ B hml hv
  obtain ⟨rfl, hsz, hP, hK, hD0, hB⟩ := hv
  have hx := B.exec
  have hb := B.bytes
  have hr := B.returns
  have hown : s.vm.findClass "RingGuard$Plan" = some m.cls := findClass_of_methodNamed B.named
  have hlocks := B.notSynchronized
  subst hsz
  have hD := hD0
  have hA0 : ∀ q, zN s.heap.size q → s0.heap.size ≤ q := zA1 hB
  have hAD : ∀ q, zN s0.heap.size q → s0.heap.size ≤ q := fun _ h => h
  have hA : ∀ q : Nat, s.heap.size ≤ q → zN s.heap.size q := fun _ h => h
  have hS : va_S (zN s.heap.size) s.heap s.heap [] := va_S.rf
  have hl := lv_entry ([.ref (o 1)]) (n := 2) (Nat.le_of_ble_eq_true rfl)
  rw [lg_entry_eq]
  generalize (lg_sl ([.ref (o 1)]) ++ List.replicate (2 - (lg_sl ([.ref (o 1)])).length) Slot.unset).toArray = ls at hl ⊢
  have hl : lv_has ls 2 [(0, .ref (o 1))] := hl
  refine zgenQ (fun Q hQe => ?_)
  obtain ⟨tg, etg⟩ : ∃ z, z = fPL_hasBareBridge P S  := ⟨_, rfl⟩
  have E := etg
  unfold fPL_hasBareBridge at E
  have hL2 : ∀ (n2 : Nat) (H : Heap) (locs : List Loc) (ls : Array Slot) (x2_1 : Int32), zr 0 48 x2_1 → 48 + 1 - x2_1.toInt ≤ (n2 : Int) → tg = zfix (fun _ => 0) (fPL_hasBareBridge_2 P S) n2 x2_1 → va_P (dC, dI) zCl (CW cI cZ cA o b P S) H → va_S (zN s.heap.size) s.heap H locs → lv_has ls 2 [(0, .ref (o 1)), (1, .int x2_1)] → W p l e ({ frames := 2, cells := 0, slots := 0, locals := 45 } : Room) s m ([.ref (o 1)] : List Value).toArray below meth c H locs 0 0 Q (F0 m 2 ls []) := by
    intro n2
    induction n2 with
    | zero => intro H locs ls x2_1 r_x2_1 hm2 E hP hS hl; exact absurd hm2 (zfuel0U r_x2_1)
    | succ n2 ih2 =>
      intro H locs ls x2_1 r_x2_1 hm2 E hP hS hl
      rw [zfix_s] at E
      generalize zfix (fun _ => 0) (fPL_hasBareBridge_2 P S) n2 = rc2 at ih2 E
      unfold fPL_hasBareBridge_2 at E
      refine lv_iload_n hx hb dPL_hasBareBridge_2 rfl (lv_at hl 1 rfl) ?_
      refine lv_aload_n hx hb dPL_hasBareBridge_3 rfl (lv_at hl 0 rfl) ?_
      refine c_get_0 hx hb (hB.words zU_PL) hown hK hP (hB.word (zm1 k1_35) rfl) dPL_hasBareBridge_4 E (fun k1 ek1 E => ?_)
      have r_k1 : zr 0 48 k1 := by rw [ek1]; exact gP.2.1 0
      refine z_icmp_ge (tgt := 28) hx hb dPL_hasBareBridge_7 (by decide) E (fun c_7 E => ?_) (fun c_7 E => ?_)
      · refine lv_iconst (v := 0) hx hb dPL_hasBareBridge_28 (by decide) ?_
        rw [hQe]
        exact W.zret (v := 0) (ty := .boolean) hx hb hr (znar (show zr 0 1 0 from by decide)) (fun t ht hW => ⟨⟨0, (), rfl, ⟨E.symm.trans etg, (show zr 0 1 0 from by decide)⟩, trivial⟩, hS.F ht⟩) hS.2.2 dPL_hasBareBridge_29
      · have r_x2_1 : zr 0 47 x2_1 := zlt_x r_x2_1 r_k1 (znle c_7) (by decide)
        have r_k1 : zr 1 48 k1 := zlt_y r_x2_1 r_k1 (znle c_7) (by decide)
        refine lv_aload_n hx hb dPL_hasBareBridge_10 rfl (lv_at hl 0 rfl) ?_
        refine lv_iload_n hx hb dPL_hasBareBridge_11 rfl (lv_at hl 1 rfl) ?_
        refine lv_bipush (v := 6) hx hb dPL_hasBareBridge_12 (by decide) ?_
        refine zcallp (va_runV (As := [.int x2_1, .int 6]) (rest := []) ⟨hx, hb, hml, hown, zno⟩ (tPL_isInRingBefore l dC dI cI cZ cJ cA a0 s0 o b P S H.size x2_1 6 gP gS) (zcw 2 (hB.word (zm2 k2_208) rfl) (hB.word (zm1 k1_2) rfl) (hB.word (zm2 k2_205) rfl) (hB.word (zm2 k2_207) rfl) (k2_selects_private (by decide) (hB.word (zm1 k1_26) rfl) (hB.word (zm2 k2_206) rfl) (hB.word (zm2 k2_207) rfl)) rfl rfl (by decide +kernel) ⟨Nat.le_of_ble_eq_true rfl, Nat.le_of_ble_eq_true rfl⟩) ⟨zP_blind, va_recv hK hP (ci := 1) (q0 := 1) rfl rfl, zP_pre hP hK hD hAD (zB_on hB hA0 hS)⟩ rfl rfl hl.1 rfl (lv_room (Nat.le_of_ble_eq_true rfl)) dPL_hasBareBridge_14 ⟨Nat.le_of_ble_eq_true rfl, Nat.le_of_ble_eq_true rfl⟩) hS hA (fun k3 H2 locs hk3 hz1 hk1 hS => ?_)
        have hP := zKeep hP hk1
        have E := zl_s E hk3.1
        refine z_if_ne (tgt := 22) hx hb dPL_hasBareBridge_17 (by decide) E (fun c_17 E => ?_) (fun c_17 E => ?_)
        · have r_k3 : zr 1 1 k3 := zne_lo hk3.2 c_17 (by decide)
          refine z_iinc (lv' := fun v9 => [(1, .int v9), (0, .ref (o 1))]) (cst := 1) hx hb dPL_hasBareBridge_22 hl (k := 1) rfl (by decide) (by decide) (fun _ => rfl) E (fun k4 ls ek4 E hl => ?_)
          have r_k4 : zr 1 48 k4 := zr_add r_x2_1 (show zr 1 1 1 from by decide) ek4 (by decide)
          refine lv_goto (tgt := 2) hx hb dPL_hasBareBridge_25 (by decide) ?_
          exact ih2 H2 locs ls k4 (zr_mono r_k4 (by decide)) (zstepU ek4 r_x2_1 (by decide) hm2) E hP hS (lv_sub hl [1, 0] rfl)
        · have r_k3 : zr 0 0 k3 := zeq_x (show zr 0 0 0 from by decide) c_17
          refine lv_iconst (v := 1) hx hb dPL_hasBareBridge_20 (by decide) ?_
          rw [hQe]
          exact W.zret (v := 1) (ty := .boolean) hx hb hr (znar (show zr 0 1 1 from by decide)) (fun t ht hW => ⟨⟨1, (), rfl, ⟨E.symm.trans etg, (show zr 0 1 1 from by decide)⟩, trivial⟩, hS.F ht⟩) hS.2.2 dPL_hasBareBridge_21
  refine lv_iconst (v := 0) hx hb dPL_hasBareBridge_0 (by decide) ?_
  refine lv_istore_n (lv' := [(1, .int 0), (0, .ref (o 1))]) hx hb dPL_hasBareBridge_1 rfl hl (by decide) rfl (fun ls hl => ?_)
  exact hL2 49 s.heap [] ls 0 (show zr 0 48 0 from by decide) (by have h9 := (show zr 0 0 0 from by decide); exact zfuelU h9 (by decide)) E hP hS (lv_sub hl [1, 0] rfl)
noncomputable def fPL_countLinks_39 (P : ZS) (S : ZS) (rc5 : Int32 → Int32 → Int32 → Int32 → (Int32)) (x39_1 : Int32) (x39_2 : Int32) (x39_3 : Int32) (x39_4 : Int32) : Int32 := zl (x39_4 + 1) (fun k1 => rc5 x39_1 x39_2 x39_3 k1)
noncomputable def fPL_countLinks_5 (P : ZS) (S : ZS) (rc5 : Int32 → Int32 → Int32 → Int32 → (Int32)) (x5_1 : Int32) (x5_2 : Int32) (x5_3 : Int32) (x5_4 : Int32) : Int32 := zl (P.I 1) (fun k2 => (if k2 ≤ x5_4 then x5_3 else zl (P.F 2 (x5_4 : Int32).toNatClampNeg) (fun k3 => (if k3 = x5_2 then zl (fPL_portOf P S x5_1 x5_4) (fun k5 => (if k5 = (-1) then fPL_countLinks_39 P S rc5 x5_1 x5_2 x5_3 x5_4 else zl (x5_3 + 1) (fun k6 => fPL_countLinks_39 P S rc5 x5_1 x5_2 k6 x5_4))) else fPL_countLinks_39 P S rc5 x5_1 x5_2 x5_3 x5_4))))
noncomputable def fPL_countLinks (P S : ZS) (x0 : Int32) (x1 : Int32) : Int32 := zfix (fun _ _ _ _ => 0) (fPL_countLinks_5 P S) 61 x0 x1 0 0
set_option maxHeartbeats 4000000 in
set_option maxRecDepth 100000 in
theorem tPL_countLinks (l : Launch) (dC : Nat → ClassId) (dI : Nat → Nat → Nat) (cI cZ cJ cA : ClassId) (a0 : Array Value) (s0 : State) (o b : Nat → Nat) (P S : ZS) (sz : Nat) (x0 : Int32) (x1 : Int32) (gP : cok P) (gS : cok S) : Met l yPL_countLinks [Cond.code yPL_countLinks bPL_countLinks 5 (some .int)] ({ frames := 1, cells := 0, slots := 0, locals := 22 } : Room) (zP zCl dC dI (zTZ cI cZ cJ cA) a0 s0 [.ref (o 1), .int x0, .int x1] sz (CW cI cZ cA o b P S)) (zQp (fun r => r = fPL_countLinks P S x0 x1 ∧ True) sz) 0 0 (zN sz) := by
  refine Met.ofW (cc := bPL_countLinks) (maxL := 5) (ret := (some .int)) (by decide) rfl ?_
  intro p e s m args below meth c s₁ B hml hv
  obtain ⟨rfl, hsz, hP, hK, hD0, hB⟩ := hv
  have hx := B.exec
  have hb := B.bytes
  have hr := B.returns
  have hown : s.vm.findClass "RingGuard$Plan" = some m.cls := findClass_of_methodNamed B.named
  have hlocks := B.notSynchronized
  subst hsz
  have hD := hD0
  have hA0 : ∀ q, zN s.heap.size q → s0.heap.size ≤ q := zA1 hB
  have hAD : ∀ q, zN s0.heap.size q → s0.heap.size ≤ q := fun _ h => h
  have hA : ∀ q : Nat, s.heap.size ≤ q → zN s.heap.size q := fun _ h => h
  have hS : va_S (zN s.heap.size) s.heap s.heap [] := va_S.rf
  have hl := lv_entry ([.ref (o 1), .int x0, .int x1]) (n := 5) (Nat.le_of_ble_eq_true rfl)
  rw [lg_entry_eq]
  generalize (lg_sl ([.ref (o 1), .int x0, .int x1]) ++ List.replicate (5 - (lg_sl ([.ref (o 1), .int x0, .int x1])).length) Slot.unset).toArray = ls at hl ⊢
  have hl : lv_has ls 5 [(0, .ref (o 1)), (1, .int x0), (2, .int x1)] := hl
  refine zgenQ (fun Q hQe => ?_)
  obtain ⟨tg, etg⟩ : ∃ z, z = fPL_countLinks P S x0 x1 := ⟨_, rfl⟩
  have E := etg
  unfold fPL_countLinks at E
  have hL5 : ∀ (n5 : Nat) (H : Heap) (locs : List Loc) (ls : Array Slot) (x5_1 : Int32) (x5_2 : Int32) (x5_3 : Int32) (x5_4 : Int32), zr 0 60 x5_4 → 60 + 1 - x5_4.toInt ≤ (n5 : Int) → tg = zfix (fun _ _ _ _ => 0) (fPL_countLinks_5 P S) n5 x5_1 x5_2 x5_3 x5_4 → va_P (dC, dI) zCl (CW cI cZ cA o b P S) H → va_S (zN s.heap.size) s.heap H locs → lv_has ls 5 [(0, .ref (o 1)), (1, .int x5_1), (2, .int x5_2), (3, .int x5_3), (4, .int x5_4)] → W p l e ({ frames := 1, cells := 0, slots := 0, locals := 22 } : Room) s m ([.ref (o 1), .int x0, .int x1] : List Value).toArray below meth c H locs 0 0 Q (F0 m 5 ls []) := by
    intro n5
    induction n5 with
    | zero => intro H locs ls x5_1 x5_2 x5_3 x5_4 r_x5_4 hm5 E hP hS hl; exact absurd hm5 (zfuel0U r_x5_4)
    | succ n5 ih5 =>
      intro H locs ls x5_1 x5_2 x5_3 x5_4 r_x5_4 hm5 E hP hS hl
      rw [zfix_s] at E
      generalize zfix (fun _ _ _ _ => 0) (fPL_countLinks_5 P S) n5 = rc5 at ih5 E
      unfold fPL_countLinks_5 at E
      have hJ39 : ∀ (H : Heap) (locs : List Loc) (ls : Array Slot) (x39_1 : Int32) (x39_2 : Int32) (x39_3 : Int32) (x39_4 : Int32), zr 0 59 x39_4 → 60 + 1 - x39_4.toInt ≤ ((n5 + 1 : Nat) : Int) → tg = fPL_countLinks_39 P S rc5 x39_1 x39_2 x39_3 x39_4 → va_P (dC, dI) zCl (CW cI cZ cA o b P S) H → va_S (zN s.heap.size) s.heap H locs → lv_has ls 5 [(0, .ref (o 1)), (1, .int x39_1), (2, .int x39_2), (3, .int x39_3), (4, .int x39_4)] → W p l e ({ frames := 1, cells := 0, slots := 0, locals := 22 } : Room) s m ([.ref (o 1), .int x0, .int x1] : List Value).toArray below meth c H locs 0 0 Q (F0 m 39 ls []) := by
        intro H locs ls x39_1 x39_2 x39_3 x39_4 r_x39_4 hm5_39 E hP hS hl
        unfold fPL_countLinks_39 at E
        refine z_iinc (lv' := fun v9 => [(4, .int v9), (0, .ref (o 1)), (1, .int x39_1), (2, .int x39_2), (3, .int x39_3)]) (cst := 1) hx hb dPL_countLinks_39 hl (k := 4) rfl (by decide) (by decide) (fun _ => rfl) E (fun k1 ls ek1 E hl => ?_)
        have r_k1 : zr 1 60 k1 := zr_add r_x39_4 (show zr 1 1 1 from by decide) ek1 (by decide)
        refine lv_goto (tgt := 5) hx hb dPL_countLinks_42 (by decide) ?_
        exact ih5 H locs ls x39_1 x39_2 x39_3 k1 (zr_mono r_k1 (by decide)) (zstepU ek1 r_x39_4 (by decide) hm5_39) E hP hS (lv_sub hl [1, 2, 3, 4, 0] rfl)
      refine lv_iload hx hb dPL_countLinks_5 (lv_at hl 4 rfl) ?_
      refine lv_aload_n hx hb dPL_countLinks_7 rfl (lv_at hl 0 rfl) ?_
      refine c_get_1 hx hb (hB.words zU_PL) hown hK hP (hB.word (zm1 k1_37) rfl) dPL_countLinks_8 E (fun k2 ek2 E => ?_)
      have r_k2 : zr 0 60 k2 := by rw [ek2]; exact gP.2.1 1
      refine z_icmp_ge (tgt := 45) hx hb dPL_countLinks_11 (by decide) E (fun c_11 E => ?_) (fun c_11 E => ?_)
      · refine lv_iload_n hx hb dPL_countLinks_45 rfl (lv_at hl 3 rfl) ?_
        rw [hQe]
        exact W.iret (v := x5_3) hx hb hr (fun t ht hW => ⟨⟨x5_3, (), rfl, ⟨E.symm.trans etg, trivial⟩, trivial⟩, hS.F ht⟩) hS.2.2 dPL_countLinks_46
      · have r_x5_4 : zr 0 59 x5_4 := zlt_x r_x5_4 r_k2 (znle c_11) (by decide)
        have r_k2 : zr 1 60 k2 := zlt_y r_x5_4 r_k2 (znle c_11) (by decide)
        refine lv_aload_n hx hb dPL_countLinks_14 rfl (lv_at hl 0 rfl) ?_
        refine c_getA_2 hx hb (hB.words zU_PL) hown hK hP (hB.word (zm1 k1_45) rfl) dPL_countLinks_15 ?_
        refine lv_iload hx hb dPL_countLinks_18 (lv_at hl 4 rfl) ?_
        refine c_aldP hx hb hK hP 2 (by decide) rfl r_x5_4 (by decide) dPL_countLinks_20 E (fun k3 ek3 E => ?_)
        have r_k3 : zr 0 5 k3 := by rw [ek3]; exact gP.1 2 _
        refine lv_iload_n hx hb dPL_countLinks_21 rfl (lv_at hl 2 rfl) ?_
        refine z_icmp_ne (tgt := 39) hx hb dPL_countLinks_22 (by decide) E (fun c_22 E => ?_) (fun c_22 E => ?_)
        · exact hJ39 H locs ls x5_1 x5_2 x5_3 x5_4 r_x5_4 hm5 E hP hS (lv_sub hl [0, 1, 2, 3, 4] rfl)
        · have r_x5_2 : zr 0 5 x5_2 := zeq_x r_k3 c_22.symm
          refine lv_aload_n hx hb dPL_countLinks_25 rfl (lv_at hl 0 rfl) ?_
          refine lv_iload_n hx hb dPL_countLinks_26 rfl (lv_at hl 1 rfl) ?_
          refine lv_iload hx hb dPL_countLinks_27 (lv_at hl 4 rfl) ?_
          refine zcallp (va_runV (As := [.int x5_1, .int x5_4]) (rest := []) ⟨hx, hb, hml, hown, zno⟩ (tPL_portOf l dC dI cI cZ cJ cA a0 s0 o b P S H.size x5_1 x5_4 gP gS r_x5_4) (zcw 2 (hB.word (zm2 k2_212) rfl) (hB.word (zm1 k1_2) rfl) (hB.word (zm2 k2_209) rfl) (hB.word (zm2 k2_210) rfl) (hB.word (zm2 k2_211) rfl) rfl rfl (by decide +kernel) ⟨Nat.le_of_ble_eq_true rfl, Nat.le_of_ble_eq_true rfl⟩) ⟨zP_blind, va_recv hK hP (ci := 1) (q0 := 1) rfl rfl, zP_pre hP hK hD hAD (zB_on hB hA0 hS)⟩ rfl rfl hl.1 rfl (lv_room (Nat.le_of_ble_eq_true rfl)) dPL_countLinks_29 ⟨Nat.le_of_ble_eq_true rfl, Nat.le_of_ble_eq_true rfl⟩) hS hA (fun k5 H4 locs hk5 hz1 hk1 hS => ?_)
          have hP := zKeep hP hk1
          have E := zl_s E hk5.1
          refine lv_iconst (v := (-1)) hx hb dPL_countLinks_32 (by decide) ?_
          refine z_icmp_eq (tgt := 39) hx hb dPL_countLinks_33 (by decide) E (fun c_33 E => ?_) (fun c_33 E => ?_)
          · have r_k5 : zr (-1) (-1) k5 := zeq_x (show zr (-1) (-1) (-1) from by decide) c_33
            exact hJ39 H4 locs ls x5_1 x5_2 x5_3 x5_4 r_x5_4 hm5 E hP hS (lv_sub hl [0, 1, 2, 3, 4] rfl)
          · have r_k5 : zr 0 119 k5 := zne_lo hk5.2 c_33 (by decide)
            refine z_iinc (lv' := fun v9 => [(3, .int v9), (0, .ref (o 1)), (1, .int x5_1), (2, .int x5_2), (4, .int x5_4)]) (cst := 1) hx hb dPL_countLinks_36 hl (k := 3) rfl (by decide) (by decide) (fun _ => rfl) E (fun k6 ls ek6 E hl => ?_)
            exact hJ39 H4 locs ls x5_1 x5_2 k6 x5_4 r_x5_4 hm5 E hP hS (lv_sub hl [1, 2, 3, 0, 4] rfl)
  refine lv_iconst (v := 0) hx hb dPL_countLinks_0 (by decide) ?_
  refine lv_istore_n (lv' := [(3, .int 0), (0, .ref (o 1)), (1, .int x0), (2, .int x1)]) hx hb dPL_countLinks_1 rfl hl (by decide) rfl (fun ls hl => ?_)
  refine lv_iconst (v := 0) hx hb dPL_countLinks_2 (by decide) ?_
  refine lv_istore (lv' := [(4, .int 0), (3, .int 0), (0, .ref (o 1)), (1, .int x0), (2, .int x1)]) hx hb dPL_countLinks_3 hl (by decide) rfl (fun ls hl => ?_)
  exact hL5 61 s.heap [] ls x0 x1 0 0 (show zr 0 60 0 from by decide) (by have h9 := (show zr 0 0 0 from by decide); exact zfuelU h9 (by decide)) E hP hS (lv_sub hl [2, 3, 4, 1, 0] rfl)
noncomputable def fPL_hasRightOwner_41 (P : ZS) (S : ZS) : Int32 := 0
noncomputable def fPL_hasRightOwner (P S : ZS) (x0 : Int32) : Int32 := zl (P.F 4 (x0 : Int32).toNatClampNeg) (fun k1 => (if k1 = (-1) then fPL_hasRightOwner_41 P S else zl (P.F 2 (k1 : Int32).toNatClampNeg) (fun k2 => (if k2 = x0 then zl (P.F 3 (x0 : Int32).toNatClampNeg) (fun k3 => zl (fPL_portOf P S k3 k1) (fun k5 => (if k5 = (-1) then fPL_hasRightOwner_41 P S else 1))) else fPL_hasRightOwner_41 P S))))
set_option maxHeartbeats 4000000 in
set_option maxRecDepth 100000 in
theorem tPL_hasRightOwner (l : Launch) (dC : Nat → ClassId) (dI : Nat → Nat → Nat) (cI cZ cJ cA : ClassId) (a0 : Array Value) (s0 : State) (o b : Nat → Nat) (P S : ZS) (sz : Nat) (x0 : Int32) (gP : cok P) (gS : cok S) (r_x0 : zr 0 5 x0) : Met l yPL_hasRightOwner [Cond.code yPL_hasRightOwner bPL_hasRightOwner 3 (some .boolean)] ({ frames := 1, cells := 0, slots := 0, locals := 22 } : Room) (zP zCl dC dI (zTZ cI cZ cJ cA) a0 s0 [.ref (o 1), .int x0] sz (CW cI cZ cA o b P S)) (zQp (fun r => r = fPL_hasRightOwner P S x0 ∧ zr 0 1 r) sz) 0 0 (zN sz) := by
  refine Met.ofW (cc := bPL_hasRightOwner) (maxL := 3) (ret := (some .boolean)) (by decide) rfl ?_
  intro p e s m args below meth c s₁ B hml hv
  obtain ⟨rfl, hsz, hP, hK, hD0, hB⟩ := hv
  have hx := B.exec
  have hb := B.bytes
  have hr := B.returns
  have hown : s.vm.findClass "RingGuard$Plan" = some m.cls := findClass_of_methodNamed B.named
  have hlocks := B.notSynchronized
  subst hsz
  have hD := hD0
  have hA0 : ∀ q, zN s.heap.size q → s0.heap.size ≤ q := zA1 hB
  have hAD : ∀ q, zN s0.heap.size q → s0.heap.size ≤ q := fun _ h => h
  have hA : ∀ q : Nat, s.heap.size ≤ q → zN s.heap.size q := fun _ h => h
  have hS : va_S (zN s.heap.size) s.heap s.heap [] := va_S.rf
  have hl := lv_entry ([.ref (o 1), .int x0]) (n := 3) (Nat.le_of_ble_eq_true rfl)
  rw [lg_entry_eq]
  generalize (lg_sl ([.ref (o 1), .int x0]) ++ List.replicate (3 - (lg_sl ([.ref (o 1), .int x0])).length) Slot.unset).toArray = ls at hl ⊢
  have hl : lv_has ls 3 [(0, .ref (o 1)), (1, .int x0)] := hl
  refine zgenQ (fun Q hQe => ?_)
  obtain ⟨tg, etg⟩ : ∃ z, z = fPL_hasRightOwner P S x0 := ⟨_, rfl⟩
  have E := etg
  unfold fPL_hasRightOwner at E
  have hJ41 : ∀ (H : Heap) (locs : List Loc) (ls : Array Slot), tg = fPL_hasRightOwner_41 P S  → va_P (dC, dI) zCl (CW cI cZ cA o b P S) H → va_S (zN s.heap.size) s.heap H locs → lv_has ls 3 [] → W p l e ({ frames := 1, cells := 0, slots := 0, locals := 22 } : Room) s m ([.ref (o 1), .int x0] : List Value).toArray below meth c H locs 0 0 Q (F0 m 41 ls []) := by
    intro H locs ls E hP hS hl
    unfold fPL_hasRightOwner_41 at E
    refine lv_iconst (v := 0) hx hb dPL_hasRightOwner_41 (by decide) ?_
    rw [hQe]
    exact W.zret (v := 0) (ty := .boolean) hx hb hr (znar (show zr 0 1 0 from by decide)) (fun t ht hW => ⟨⟨0, (), rfl, ⟨E.symm.trans etg, (show zr 0 1 0 from by decide)⟩, trivial⟩, hS.F ht⟩) hS.2.2 dPL_hasRightOwner_42
  refine lv_aload_n hx hb dPL_hasRightOwner_0 rfl (lv_at hl 0 rfl) ?_
  refine c_getA_4 hx hb (hB.words zU_PL) hown hK hP (hB.word (zm1 k1_49) rfl) dPL_hasRightOwner_1 ?_
  refine lv_iload_n hx hb dPL_hasRightOwner_4 rfl (lv_at hl 1 rfl) ?_
  refine c_aldP hx hb hK hP 4 (by decide) rfl r_x0 (by decide) dPL_hasRightOwner_5 E (fun k1 ek1 E => ?_)
  have r_k1 : zr (-1) 59 k1 := by rw [ek1]; exact gP.1 4 _
  refine lv_istore_n (lv' := [(2, .int k1), (0, .ref (o 1)), (1, .int x0)]) hx hb dPL_hasRightOwner_6 rfl hl (by decide) rfl (fun ls hl => ?_)
  refine lv_iload_n hx hb dPL_hasRightOwner_7 rfl (lv_at hl 0 rfl) ?_
  refine lv_iconst (v := (-1)) hx hb dPL_hasRightOwner_8 (by decide) ?_
  refine z_icmp_eq (tgt := 41) hx hb dPL_hasRightOwner_9 (by decide) E (fun c_9 E => ?_) (fun c_9 E => ?_)
  · have r_k1 : zr (-1) (-1) k1 := zeq_x (show zr (-1) (-1) (-1) from by decide) c_9
    exact hJ41 s.heap [] ls  E hP hS (lv_sub hl [] rfl)
  · have r_k1 : zr 0 59 k1 := zne_lo r_k1 c_9 (by decide)
    refine lv_aload_n hx hb dPL_hasRightOwner_12 rfl (lv_at hl 1 rfl) ?_
    refine c_getA_2 hx hb (hB.words zU_PL) hown hK hP (hB.word (zm1 k1_45) rfl) dPL_hasRightOwner_13 ?_
    refine lv_iload_n hx hb dPL_hasRightOwner_16 rfl (lv_at hl 0 rfl) ?_
    refine c_aldP hx hb hK hP 2 (by decide) rfl r_k1 (by decide) dPL_hasRightOwner_17 E (fun k2 ek2 E => ?_)
    have r_k2 : zr 0 5 k2 := by rw [ek2]; exact gP.1 2 _
    refine lv_iload_n hx hb dPL_hasRightOwner_18 rfl (lv_at hl 2 rfl) ?_
    refine z_icmp_ne (tgt := 41) hx hb dPL_hasRightOwner_19 (by decide) E (fun c_19 E => ?_) (fun c_19 E => ?_)
    · exact hJ41 s.heap [] ls  E hP hS (lv_sub hl [] rfl)
    · refine lv_aload_n hx hb dPL_hasRightOwner_22 rfl (lv_at hl 1 rfl) ?_
      refine lv_aload_n hx hb dPL_hasRightOwner_23 rfl (lv_at hl 1 rfl) ?_
      refine c_getA_3 hx hb (hB.words zU_PL) hown hK hP (hB.word (zm1 k1_47) rfl) dPL_hasRightOwner_24 ?_
      refine lv_iload_n hx hb dPL_hasRightOwner_27 rfl (lv_at hl 2 rfl) ?_
      refine c_aldP hx hb hK hP 3 (by decide) rfl r_x0 (by decide) dPL_hasRightOwner_28 E (fun k3 ek3 E => ?_)
      have r_k3 : zr (-1) 47 k3 := by rw [ek3]; exact gP.1 3 _
      refine lv_iload_n hx hb dPL_hasRightOwner_29 rfl (lv_at hl 0 rfl) ?_
      refine zcallp (va_runV (As := [.int k3, .int k1]) (rest := []) ⟨hx, hb, hml, hown, zno⟩ (tPL_portOf l dC dI cI cZ cJ cA a0 s0 o b P S s.heap.size k3 k1 gP gS r_k1) (zcw 2 (hB.word (zm2 k2_212) rfl) (hB.word (zm1 k1_2) rfl) (hB.word (zm2 k2_209) rfl) (hB.word (zm2 k2_210) rfl) (hB.word (zm2 k2_211) rfl) rfl rfl (by decide +kernel) ⟨Nat.le_of_ble_eq_true rfl, Nat.le_of_ble_eq_true rfl⟩) ⟨zP_blind, va_recv hK hP (ci := 1) (q0 := 1) rfl rfl, zP_pre hP hK hD hAD (zB_on hB hA0 hS)⟩ rfl rfl hl.1 rfl (lv_room (Nat.le_of_ble_eq_true rfl)) dPL_hasRightOwner_30 ⟨Nat.le_of_ble_eq_true rfl, Nat.le_of_ble_eq_true rfl⟩) hS hA (fun k5 H4 locs hk5 hz1 hk1 hS => ?_)
      have hP := zKeep hP hk1
      have E := zl_s E hk5.1
      refine lv_iconst (v := (-1)) hx hb dPL_hasRightOwner_33 (by decide) ?_
      refine z_icmp_eq (tgt := 41) hx hb dPL_hasRightOwner_34 (by decide) E (fun c_34 E => ?_) (fun c_34 E => ?_)
      · have r_k5 : zr (-1) (-1) k5 := zeq_x (show zr (-1) (-1) (-1) from by decide) c_34
        exact hJ41 H4 locs ls  E hP hS (lv_sub hl [] rfl)
      · have r_k5 : zr 0 119 k5 := zne_lo hk5.2 c_34 (by decide)
        refine lv_iconst (v := 1) hx hb dPL_hasRightOwner_37 (by decide) ?_
        refine lv_goto (tgt := 42) hx hb dPL_hasRightOwner_38 (by decide) ?_
        rw [hQe]
        exact W.zret (v := 1) (ty := .boolean) hx hb hr (znar (show zr 0 1 1 from by decide)) (fun t ht hW => ⟨⟨1, (), rfl, ⟨E.symm.trans etg, (show zr 0 1 1 from by decide)⟩, trivial⟩, hS.F ht⟩) hS.2.2 dPL_hasRightOwner_42
noncomputable def fPL_hasEndsOf_31 (P : ZS) (S : ZS) (rc2 : Int32 → Int32 → Int32 → (Int32)) (x31_1 : Int32) (x31_2 : Int32) (x31_3 : Int32) : Int32 := zl (x31_3 + 1) (fun k1 => rc2 x31_1 x31_2 k1)
noncomputable def fPL_hasEndsOf_2 (P : ZS) (S : ZS) (rc2 : Int32 → Int32 → Int32 → (Int32)) (x2_1 : Int32) (x2_2 : Int32) (x2_3 : Int32) : Int32 := zl (P.I 0) (fun k2 => (if k2 ≤ x2_3 then 1 else zl (fPL_countLinks P S x2_3 x2_2) (fun k4 => (if k4 = 1 then zl (fPL_countLinks P S x2_3 x2_1) (fun k6 => (if k6 = 0 then 0 else fPL_hasEndsOf_31 P S rc2 x2_1 x2_2 x2_3)) else fPL_hasEndsOf_31 P S rc2 x2_1 x2_2 x2_3))))
noncomputable def fPL_hasEndsOf (P S : ZS) (x0 : Int32) (x1 : Int32) : Int32 := zfix (fun _ _ _ => 0) (fPL_hasEndsOf_2 P S) 49 x0 x1 0
set_option maxHeartbeats 4000000 in
set_option maxRecDepth 100000 in
theorem tPL_hasEndsOf (l : Launch) (dC : Nat → ClassId) (dI : Nat → Nat → Nat) (cI cZ cJ cA : ClassId) (a0 : Array Value) (s0 : State) (o b : Nat → Nat) (P S : ZS) (sz : Nat) (x0 : Int32) (x1 : Int32) (gP : cok P) (gS : cok S) : Met l yPL_hasEndsOf [Cond.code yPL_hasEndsOf bPL_hasEndsOf 4 (some .boolean)] ({ frames := 2, cells := 0, slots := 0, locals := 46 } : Room) (zP zCl dC dI (zTZ cI cZ cJ cA) a0 s0 [.ref (o 1), .int x0, .int x1] sz (CW cI cZ cA o b P S)) (zQp (fun r => r = fPL_hasEndsOf P S x0 x1 ∧ zr 0 1 r) sz) 0 0 (zN sz) := by
  refine Met.ofW (cc := bPL_hasEndsOf) (maxL := 4) (ret := (some .boolean)) (by decide) rfl ?_
  intro p e s m args below meth c s₁ B hml hv
  obtain ⟨rfl, hsz, hP, hK, hD0, hB⟩ := hv
  have hx := B.exec
  have hb := B.bytes
  have hr := B.returns
  have hown : s.vm.findClass "RingGuard$Plan" = some m.cls := findClass_of_methodNamed B.named
  have hlocks := B.notSynchronized
  subst hsz
  have hD := hD0
  have hA0 : ∀ q, zN s.heap.size q → s0.heap.size ≤ q := zA1 hB
  have hAD : ∀ q, zN s0.heap.size q → s0.heap.size ≤ q := fun _ h => h
  have hA : ∀ q : Nat, s.heap.size ≤ q → zN s.heap.size q := fun _ h => h
  have hS : va_S (zN s.heap.size) s.heap s.heap [] := va_S.rf
  have hl := lv_entry ([.ref (o 1), .int x0, .int x1]) (n := 4) (Nat.le_of_ble_eq_true rfl)
  rw [lg_entry_eq]
  generalize (lg_sl ([.ref (o 1), .int x0, .int x1]) ++ List.replicate (4 - (lg_sl ([.ref (o 1), .int x0, .int x1])).length) Slot.unset).toArray = ls at hl ⊢
  have hl : lv_has ls 4 [(0, .ref (o 1)), (1, .int x0), (2, .int x1)] := hl
  refine zgenQ (fun Q hQe => ?_)
  obtain ⟨tg, etg⟩ : ∃ z, z = fPL_hasEndsOf P S x0 x1 := ⟨_, rfl⟩
  have E := etg
  unfold fPL_hasEndsOf at E
  have hL2 : ∀ (n2 : Nat) (H : Heap) (locs : List Loc) (ls : Array Slot) (x2_1 : Int32) (x2_2 : Int32) (x2_3 : Int32), zr 0 48 x2_3 → 48 + 1 - x2_3.toInt ≤ (n2 : Int) → tg = zfix (fun _ _ _ => 0) (fPL_hasEndsOf_2 P S) n2 x2_1 x2_2 x2_3 → va_P (dC, dI) zCl (CW cI cZ cA o b P S) H → va_S (zN s.heap.size) s.heap H locs → lv_has ls 4 [(0, .ref (o 1)), (1, .int x2_1), (2, .int x2_2), (3, .int x2_3)] → W p l e ({ frames := 2, cells := 0, slots := 0, locals := 46 } : Room) s m ([.ref (o 1), .int x0, .int x1] : List Value).toArray below meth c H locs 0 0 Q (F0 m 2 ls []) := by
    intro n2
    induction n2 with
    | zero => intro H locs ls x2_1 x2_2 x2_3 r_x2_3 hm2 E hP hS hl; exact absurd hm2 (zfuel0U r_x2_3)
    | succ n2 ih2 =>
      intro H locs ls x2_1 x2_2 x2_3 r_x2_3 hm2 E hP hS hl
      rw [zfix_s] at E
      generalize zfix (fun _ _ _ => 0) (fPL_hasEndsOf_2 P S) n2 = rc2 at ih2 E
      unfold fPL_hasEndsOf_2 at E
      have hJ31 : ∀ (H : Heap) (locs : List Loc) (ls : Array Slot) (x31_1 : Int32) (x31_2 : Int32) (x31_3 : Int32), zr 0 47 x31_3 → 48 + 1 - x31_3.toInt ≤ ((n2 + 1 : Nat) : Int) → tg = fPL_hasEndsOf_31 P S rc2 x31_1 x31_2 x31_3 → va_P (dC, dI) zCl (CW cI cZ cA o b P S) H → va_S (zN s.heap.size) s.heap H locs → lv_has ls 4 [(0, .ref (o 1)), (1, .int x31_1), (2, .int x31_2), (3, .int x31_3)] → W p l e ({ frames := 2, cells := 0, slots := 0, locals := 46 } : Room) s m ([.ref (o 1), .int x0, .int x1] : List Value).toArray below meth c H locs 0 0 Q (F0 m 31 ls []) := by
        intro H locs ls x31_1 x31_2 x31_3 r_x31_3 hm2_31 E hP hS hl
        unfold fPL_hasEndsOf_31 at E
        refine z_iinc (lv' := fun v9 => [(3, .int v9), (0, .ref (o 1)), (1, .int x31_1), (2, .int x31_2)]) (cst := 1) hx hb dPL_hasEndsOf_31 hl (k := 3) rfl (by decide) (by decide) (fun _ => rfl) E (fun k1 ls ek1 E hl => ?_)
        have r_k1 : zr 1 48 k1 := zr_add r_x31_3 (show zr 1 1 1 from by decide) ek1 (by decide)
        refine lv_goto (tgt := 2) hx hb dPL_hasEndsOf_34 (by decide) ?_
        exact ih2 H locs ls x31_1 x31_2 k1 (zr_mono r_k1 (by decide)) (zstepU ek1 r_x31_3 (by decide) hm2_31) E hP hS (lv_sub hl [1, 2, 3, 0] rfl)
      refine lv_iload_n hx hb dPL_hasEndsOf_2 rfl (lv_at hl 3 rfl) ?_
      refine lv_aload_n hx hb dPL_hasEndsOf_3 rfl (lv_at hl 0 rfl) ?_
      refine c_get_0 hx hb (hB.words zU_PL) hown hK hP (hB.word (zm1 k1_35) rfl) dPL_hasEndsOf_4 E (fun k2 ek2 E => ?_)
      have r_k2 : zr 0 48 k2 := by rw [ek2]; exact gP.2.1 0
      refine z_icmp_ge (tgt := 37) hx hb dPL_hasEndsOf_7 (by decide) E (fun c_7 E => ?_) (fun c_7 E => ?_)
      · refine lv_iconst (v := 1) hx hb dPL_hasEndsOf_37 (by decide) ?_
        rw [hQe]
        exact W.zret (v := 1) (ty := .boolean) hx hb hr (znar (show zr 0 1 1 from by decide)) (fun t ht hW => ⟨⟨1, (), rfl, ⟨E.symm.trans etg, (show zr 0 1 1 from by decide)⟩, trivial⟩, hS.F ht⟩) hS.2.2 dPL_hasEndsOf_38
      · have r_x2_3 : zr 0 47 x2_3 := zlt_x r_x2_3 r_k2 (znle c_7) (by decide)
        have r_k2 : zr 1 48 k2 := zlt_y r_x2_3 r_k2 (znle c_7) (by decide)
        refine lv_aload_n hx hb dPL_hasEndsOf_10 rfl (lv_at hl 0 rfl) ?_
        refine lv_iload_n hx hb dPL_hasEndsOf_11 rfl (lv_at hl 3 rfl) ?_
        refine lv_iload_n hx hb dPL_hasEndsOf_12 rfl (lv_at hl 2 rfl) ?_
        refine zcallp (va_runV (As := [.int x2_3, .int x2_2]) (rest := []) ⟨hx, hb, hml, hown, zno⟩ (tPL_countLinks l dC dI cI cZ cJ cA a0 s0 o b P S H.size x2_3 x2_2 gP gS) (zcw 2 (hB.word (zm2 k2_224) rfl) (hB.word (zm1 k1_2) rfl) (hB.word (zm2 k2_221) rfl) (hB.word (zm2 k2_223) rfl) (k2_selects_private (by decide) (hB.word (zm1 k1_26) rfl) (hB.word (zm2 k2_222) rfl) (hB.word (zm2 k2_223) rfl)) rfl rfl (by decide +kernel) ⟨Nat.le_of_ble_eq_true rfl, Nat.le_of_ble_eq_true rfl⟩) ⟨zP_blind, va_recv hK hP (ci := 1) (q0 := 1) rfl rfl, zP_pre hP hK hD hAD (zB_on hB hA0 hS)⟩ rfl rfl hl.1 rfl (lv_room (Nat.le_of_ble_eq_true rfl)) dPL_hasEndsOf_13 ⟨Nat.le_of_ble_eq_true rfl, Nat.le_of_ble_eq_true rfl⟩) hS hA (fun k4 H3 locs hk4 hz1 hk1 hS => ?_)
        have hP := zKeep hP hk1
        have E := zl_s E hk4.1
        refine lv_iconst (v := 1) hx hb dPL_hasEndsOf_16 (by decide) ?_
        refine z_icmp_ne (tgt := 31) hx hb dPL_hasEndsOf_17 (by decide) E (fun c_17 E => ?_) (fun c_17 E => ?_)
        · exact hJ31 H3 locs ls x2_1 x2_2 x2_3 r_x2_3 hm2 E hP hS (lv_sub hl [0, 1, 2, 3] rfl)
        · have r_k4 : zr 1 1 k4 := zeq_x (show zr 1 1 1 from by decide) c_17
          refine lv_aload_n hx hb dPL_hasEndsOf_20 rfl (lv_at hl 0 rfl) ?_
          refine lv_iload_n hx hb dPL_hasEndsOf_21 rfl (lv_at hl 3 rfl) ?_
          refine lv_iload_n hx hb dPL_hasEndsOf_22 rfl (lv_at hl 1 rfl) ?_
          refine zcallp (va_runV (As := [.int x2_3, .int x2_1]) (rest := []) ⟨hx, hb, hml, hown, zno⟩ (tPL_countLinks l dC dI cI cZ cJ cA a0 s0 o b P S H3.size x2_3 x2_1 gP gS) (zcw 2 (hB.word (zm2 k2_224) rfl) (hB.word (zm1 k1_2) rfl) (hB.word (zm2 k2_221) rfl) (hB.word (zm2 k2_223) rfl) (k2_selects_private (by decide) (hB.word (zm1 k1_26) rfl) (hB.word (zm2 k2_222) rfl) (hB.word (zm2 k2_223) rfl)) rfl rfl (by decide +kernel) ⟨Nat.le_of_ble_eq_true rfl, Nat.le_of_ble_eq_true rfl⟩) ⟨zP_blind, va_recv hK hP (ci := 1) (q0 := 1) rfl rfl, zP_pre hP hK hD hAD (zB_on hB hA0 hS)⟩ rfl rfl hl.1 rfl (lv_room (Nat.le_of_ble_eq_true rfl)) dPL_hasEndsOf_23 ⟨Nat.le_of_ble_eq_true rfl, Nat.le_of_ble_eq_true rfl⟩) hS hA (fun k6 H5 locs hk6 hz1 hk1 hS => ?_)
          have hP := zKeep hP hk1
          have E := zl_s E hk6.1
          refine z_if_ne (tgt := 31) hx hb dPL_hasEndsOf_26 (by decide) E (fun c_26 E => ?_) (fun c_26 E => ?_)
          · exact hJ31 H5 locs ls x2_1 x2_2 x2_3 r_x2_3 hm2 E hP hS (lv_sub hl [0, 1, 2, 3] rfl)
          · have r_k6 : zr 0 0 k6 := zeq_x (show zr 0 0 0 from by decide) c_26
            refine lv_iconst (v := 0) hx hb dPL_hasEndsOf_29 (by decide) ?_
            rw [hQe]
            exact W.zret (v := 0) (ty := .boolean) hx hb hr (znar (show zr 0 1 0 from by decide)) (fun t ht hW => ⟨⟨0, (), rfl, ⟨E.symm.trans etg, (show zr 0 1 0 from by decide)⟩, trivial⟩, hS.F ht⟩) hS.2.2 dPL_hasEndsOf_30
  refine lv_iconst (v := 0) hx hb dPL_hasEndsOf_0 (by decide) ?_
  refine lv_istore_n (lv' := [(3, .int 0), (0, .ref (o 1)), (1, .int x0), (2, .int x1)]) hx hb dPL_hasEndsOf_1 rfl hl (by decide) rfl (fun ls hl => ?_)
  exact hL2 49 s.heap [] ls x0 x1 0 (show zr 0 48 0 from by decide) (by have h9 := (show zr 0 0 0 from by decide); exact zfuelU h9 (by decide)) E hP hS (lv_sub hl [1, 2, 3, 0] rfl)
noncomputable def fPL_isHeldByClosedRing_27 (P : ZS) (S : ZS) (rc2 : Int32 → Int32 → (Int32)) (x27_1 : Int32) (x27_2 : Int32) : Int32 := zl (x27_2 + 1) (fun k1 => rc2 x27_1 k1)
noncomputable def fPL_isHeldByClosedRing_2 (P : ZS) (S : ZS) (rc2 : Int32 → Int32 → (Int32)) (x2_1 : Int32) (x2_2 : Int32) : Int32 := (if x2_1 ≤ x2_2 then 0 else zl (P.F 8 (x2_2 : Int32).toNatClampNeg) (fun k2 => (if k2 = 0 then fPL_isHeldByClosedRing_27 P S rc2 x2_1 x2_2 else zl (fPL_hasEndsOf P S x2_2 x2_1) (fun k4 => (if k4 = 0 then fPL_isHeldByClosedRing_27 P S rc2 x2_1 x2_2 else 1)))))
noncomputable def fPL_isHeldByClosedRing (P S : ZS) (x0 : Int32) : Int32 := zfix (fun _ _ => 0) (fPL_isHeldByClosedRing_2 P S) 6 x0 0
set_option maxHeartbeats 4000000 in
set_option maxRecDepth 100000 in
theorem tPL_isHeldByClosedRing (l : Launch) (dC : Nat → ClassId) (dI : Nat → Nat → Nat) (cI cZ cJ cA : ClassId) (a0 : Array Value) (s0 : State) (o b : Nat → Nat) (P S : ZS) (sz : Nat) (x0 : Int32) (gP : cok P) (gS : cok S) (r_x0 : zr 0 5 x0) : Met l yPL_isHeldByClosedRing [Cond.code yPL_isHeldByClosedRing bPL_isHeldByClosedRing 3 (some .boolean)] ({ frames := 3, cells := 0, slots := 0, locals := 69 } : Room) (zP zCl dC dI (zTZ cI cZ cJ cA) a0 s0 [.ref (o 1), .int x0] sz (CW cI cZ cA o b P S)) (zQp (fun r => r = fPL_isHeldByClosedRing P S x0 ∧ zr 0 1 r) sz) 0 0 (zN sz) := by
  refine Met.ofW (cc := bPL_isHeldByClosedRing) (maxL := 3) (ret := (some .boolean)) (by decide) rfl ?_
  intro p e s m args below meth c s₁ B hml hv
  obtain ⟨rfl, hsz, hP, hK, hD0, hB⟩ := hv
  have hx := B.exec
  have hb := B.bytes
  have hr := B.returns
  have hown : s.vm.findClass "RingGuard$Plan" = some m.cls := findClass_of_methodNamed B.named
  have hlocks := B.notSynchronized
  subst hsz
  have hD := hD0
  have hA0 : ∀ q, zN s.heap.size q → s0.heap.size ≤ q := zA1 hB
  have hAD : ∀ q, zN s0.heap.size q → s0.heap.size ≤ q := fun _ h => h
  have hA : ∀ q : Nat, s.heap.size ≤ q → zN s.heap.size q := fun _ h => h
  have hS : va_S (zN s.heap.size) s.heap s.heap [] := va_S.rf
  have hl := lv_entry ([.ref (o 1), .int x0]) (n := 3) (Nat.le_of_ble_eq_true rfl)
  rw [lg_entry_eq]
  generalize (lg_sl ([.ref (o 1), .int x0]) ++ List.replicate (3 - (lg_sl ([.ref (o 1), .int x0])).length) Slot.unset).toArray = ls at hl ⊢
  have hl : lv_has ls 3 [(0, .ref (o 1)), (1, .int x0)] := hl
  refine zgenQ (fun Q hQe => ?_)
  obtain ⟨tg, etg⟩ : ∃ z, z = fPL_isHeldByClosedRing P S x0 := ⟨_, rfl⟩
  have E := etg
  unfold fPL_isHeldByClosedRing at E
  have hL2 : ∀ (n2 : Nat) (H : Heap) (locs : List Loc) (ls : Array Slot) (x2_1 : Int32) (x2_2 : Int32), zr 0 5 x2_1 → zr 0 5 x2_2 → 5 + 1 - x2_2.toInt ≤ (n2 : Int) → tg = zfix (fun _ _ => 0) (fPL_isHeldByClosedRing_2 P S) n2 x2_1 x2_2 → va_P (dC, dI) zCl (CW cI cZ cA o b P S) H → va_S (zN s.heap.size) s.heap H locs → lv_has ls 3 [(0, .ref (o 1)), (1, .int x2_1), (2, .int x2_2)] → W p l e ({ frames := 3, cells := 0, slots := 0, locals := 69 } : Room) s m ([.ref (o 1), .int x0] : List Value).toArray below meth c H locs 0 0 Q (F0 m 2 ls []) := by
    intro n2
    induction n2 with
    | zero => intro H locs ls x2_1 x2_2 r_x2_1 r_x2_2 hm2 E hP hS hl; exact absurd hm2 (zfuel0U r_x2_2)
    | succ n2 ih2 =>
      intro H locs ls x2_1 x2_2 r_x2_1 r_x2_2 hm2 E hP hS hl
      rw [zfix_s] at E
      generalize zfix (fun _ _ => 0) (fPL_isHeldByClosedRing_2 P S) n2 = rc2 at ih2 E
      unfold fPL_isHeldByClosedRing_2 at E
      have hJ27 : ∀ (H : Heap) (locs : List Loc) (ls : Array Slot) (x27_1 : Int32) (x27_2 : Int32), zr 1 5 x27_1 → zr 0 4 x27_2 → 5 + 1 - x27_2.toInt ≤ ((n2 + 1 : Nat) : Int) → tg = fPL_isHeldByClosedRing_27 P S rc2 x27_1 x27_2 → va_P (dC, dI) zCl (CW cI cZ cA o b P S) H → va_S (zN s.heap.size) s.heap H locs → lv_has ls 3 [(0, .ref (o 1)), (1, .int x27_1), (2, .int x27_2)] → W p l e ({ frames := 3, cells := 0, slots := 0, locals := 69 } : Room) s m ([.ref (o 1), .int x0] : List Value).toArray below meth c H locs 0 0 Q (F0 m 27 ls []) := by
        intro H locs ls x27_1 x27_2 r_x27_1 r_x27_2 hm2_27 E hP hS hl
        unfold fPL_isHeldByClosedRing_27 at E
        refine z_iinc (lv' := fun v9 => [(2, .int v9), (0, .ref (o 1)), (1, .int x27_1)]) (cst := 1) hx hb dPL_isHeldByClosedRing_27 hl (k := 2) rfl (by decide) (by decide) (fun _ => rfl) E (fun k1 ls ek1 E hl => ?_)
        have r_k1 : zr 1 5 k1 := zr_add r_x27_2 (show zr 1 1 1 from by decide) ek1 (by decide)
        refine lv_goto (tgt := 2) hx hb dPL_isHeldByClosedRing_30 (by decide) ?_
        exact ih2 H locs ls x27_1 k1 (zr_mono r_x27_1 (by decide)) (zr_mono r_k1 (by decide)) (zstepU ek1 r_x27_2 (by decide) hm2_27) E hP hS (lv_sub hl [1, 2, 0] rfl)
      refine lv_iload_n hx hb dPL_isHeldByClosedRing_2 rfl (lv_at hl 2 rfl) ?_
      refine lv_iload_n hx hb dPL_isHeldByClosedRing_3 rfl (lv_at hl 1 rfl) ?_
      refine z_icmp_ge (tgt := 33) hx hb dPL_isHeldByClosedRing_4 (by decide) E (fun c_4 E => ?_) (fun c_4 E => ?_)
      · refine lv_iconst (v := 0) hx hb dPL_isHeldByClosedRing_33 (by decide) ?_
        rw [hQe]
        exact W.zret (v := 0) (ty := .boolean) hx hb hr (znar (show zr 0 1 0 from by decide)) (fun t ht hW => ⟨⟨0, (), rfl, ⟨E.symm.trans etg, (show zr 0 1 0 from by decide)⟩, trivial⟩, hS.F ht⟩) hS.2.2 dPL_isHeldByClosedRing_34
      · have r_x2_2 : zr 0 4 x2_2 := zlt_x r_x2_2 r_x2_1 (znle c_4) (by decide)
        have r_x2_1 : zr 1 5 x2_1 := zlt_y r_x2_2 r_x2_1 (znle c_4) (by decide)
        refine lv_aload_n hx hb dPL_isHeldByClosedRing_7 rfl (lv_at hl 0 rfl) ?_
        refine c_getA_8 hx hb (hB.words zU_PL) hown hK hP (hB.word (zm1 k1_58) rfl) dPL_isHeldByClosedRing_8 ?_
        refine lv_iload_n hx hb dPL_isHeldByClosedRing_11 rfl (lv_at hl 2 rfl) ?_
        refine c_zaldP hx hb hK hP 8 (by decide) rfl r_x2_2 (by decide) dPL_isHeldByClosedRing_12 E (fun k2 ek2 E => ?_)
        have r_k2 : zr 0 1 k2 := by rw [ek2]; exact gP.1 8 _
        refine z_if_eq (tgt := 27) hx hb dPL_isHeldByClosedRing_13 (by decide) E (fun c_13 E => ?_) (fun c_13 E => ?_)
        · have r_k2 : zr 0 0 k2 := zeq_x (show zr 0 0 0 from by decide) c_13
          exact hJ27 H locs ls x2_1 x2_2 r_x2_1 r_x2_2 hm2 E hP hS (lv_sub hl [0, 1, 2] rfl)
        · have r_k2 : zr 1 1 k2 := zne_lo r_k2 c_13 (by decide)
          refine lv_aload_n hx hb dPL_isHeldByClosedRing_16 rfl (lv_at hl 0 rfl) ?_
          refine lv_iload_n hx hb dPL_isHeldByClosedRing_17 rfl (lv_at hl 2 rfl) ?_
          refine lv_iload_n hx hb dPL_isHeldByClosedRing_18 rfl (lv_at hl 1 rfl) ?_
          refine zcallp (va_runV (As := [.int x2_2, .int x2_1]) (rest := []) ⟨hx, hb, hml, hown, zno⟩ (tPL_hasEndsOf l dC dI cI cZ cJ cA a0 s0 o b P S H.size x2_2 x2_1 gP gS) (zcw 2 (hB.word (zm3 k3_4) rfl) (hB.word (zm1 k1_2) rfl) (hB.word (zm3 k3_1) rfl) (hB.word (zm3 k3_3) rfl) (k2_selects_private (by decide) (hB.word (zm1 k1_26) rfl) (hB.word (zm3 k3_2) rfl) (hB.word (zm3 k3_3) rfl)) rfl rfl (by decide +kernel) ⟨Nat.le_of_ble_eq_true rfl, Nat.le_of_ble_eq_true rfl⟩) ⟨zP_blind, va_recv hK hP (ci := 1) (q0 := 1) rfl rfl, zP_pre hP hK hD hAD (zB_on hB hA0 hS)⟩ rfl rfl hl.1 rfl (lv_room (Nat.le_of_ble_eq_true rfl)) dPL_isHeldByClosedRing_19 ⟨Nat.le_of_ble_eq_true rfl, Nat.le_of_ble_eq_true rfl⟩) hS hA (fun k4 H3 locs hk4 hz1 hk1 hS => ?_)
          have hP := zKeep hP hk1
          have E := zl_s E hk4.1
          refine z_if_eq (tgt := 27) hx hb dPL_isHeldByClosedRing_22 (by decide) E (fun c_22 E => ?_) (fun c_22 E => ?_)
          · have r_k4 : zr 0 0 k4 := zeq_x (show zr 0 0 0 from by decide) c_22
            exact hJ27 H3 locs ls x2_1 x2_2 r_x2_1 r_x2_2 hm2 E hP hS (lv_sub hl [0, 1, 2] rfl)
          · have r_k4 : zr 1 1 k4 := zne_lo hk4.2 c_22 (by decide)
            refine lv_iconst (v := 1) hx hb dPL_isHeldByClosedRing_25 (by decide) ?_
            rw [hQe]
            exact W.zret (v := 1) (ty := .boolean) hx hb hr (znar (show zr 0 1 1 from by decide)) (fun t ht hW => ⟨⟨1, (), rfl, ⟨E.symm.trans etg, (show zr 0 1 1 from by decide)⟩, trivial⟩, hS.F ht⟩) hS.2.2 dPL_isHeldByClosedRing_26
  refine lv_iconst (v := 0) hx hb dPL_isHeldByClosedRing_0 (by decide) ?_
  refine lv_istore_n (lv' := [(2, .int 0), (0, .ref (o 1)), (1, .int x0)]) hx hb dPL_isHeldByClosedRing_1 rfl hl (by decide) rfl (fun ls hl => ?_)
  exact hL2 6 s.heap [] ls x0 0 r_x0 (show zr 0 5 0 from by decide) (by have h9 := (show zr 0 0 0 from by decide); exact zfuelU h9 (by decide)) E hP hS (lv_sub hl [1, 2, 0] rfl)
noncomputable def fGR_separate_12 (P : ZS) (rc12 : ZS → Int32 → Int32 → (ZS)) (S_12 : ZS) (x12_1 : Int32) (x12_2 : Int32) : ZS := (if x12_1 ≤ x12_2 then S_12 else zl (S_12.setF 27 (x12_2 : Int32).toNatClampNeg x12_2) (fun S1 => zl (x12_2 + 1) (fun k3 => rc12 S1 x12_1 k3)))
noncomputable def fGR_separate (P S : ZS) (x0 : Int32) : ZS := zl (S.setI 15 x0) (fun S4 => zl (S4.setI 14 x0) (fun S6 => zfix (fun S9 _ _ => S9) (fGR_separate_12 P) 49 S6 x0 0))
set_option maxHeartbeats 4000000 in
set_option maxRecDepth 100000 in
theorem tGR_separate (l : Launch) (dC : Nat → ClassId) (dI : Nat → Nat → Nat) (cI cZ cJ cA : ClassId) (a0 : Array Value) (s0 : State) (o b : Nat → Nat) (P S : ZS) (sz : Nat) (x0 : Int32) (gP : cok P) (gS : cok S) (r_x0 : zr 0 48 x0) : Met l yGR_separate [Cond.code yGR_separate bGR_separate 3 none] ({ frames := 0, cells := 0, slots := 0, locals := 0 } : Room) (zP zCl dC dI (zTZ cI cZ cJ cA) a0 s0 [.ref (o 6), .int x0] sz (CW cI cZ cA o b P S)) (zQG zCl dC dI (fun (x9 : ZS) => x9 = fGR_separate P S x0 ∧ cok x9) (fun x9 : ZS => (CW cI cZ cA o b P x9)) (va_A (CW cI cZ cA o b P S) sz)) 0 0 (va_A (CW cI cZ cA o b P S) sz) := by
  refine Met.ofW (cc := bGR_separate) (maxL := 3) (ret := none) (by decide) rfl ?_
  intro p e s m args below meth c s₁ B hml hv
  obtain ⟨rfl, hsz, hP, hK, hD0, hB⟩ := hv
  have hx := B.exec
  have hb := B.bytes
  have hr := B.returns
  have hown : s.vm.findClass "RingGuard$Groups" = some m.cls := findClass_of_methodNamed B.named
  have hlocks := B.notSynchronized
  subst hsz
  have hD := hD0.self (sz := s.heap.size)
  have hA0 := zA0 hD0 hB
  generalize hAe : va_A (CW cI cZ cA o b P S) s.heap.size = A at hD hA0 ⊢
  have hAD := hA0
  have hA : ∀ q : Nat, s.heap.size ≤ q → A q := fun q h => by rw [← hAe]; exact Or.inr h
  have hS : va_S A s.heap s.heap [] := va_S.rf
  have hl := lv_entry ([.ref (o 6), .int x0]) (n := 3) (Nat.le_of_ble_eq_true rfl)
  rw [lg_entry_eq]
  generalize (lg_sl ([.ref (o 6), .int x0]) ++ List.replicate (3 - (lg_sl ([.ref (o 6), .int x0])).length) Slot.unset).toArray = ls at hl ⊢
  have hl : lv_has ls 3 [(0, .ref (o 6)), (1, .int x0)] := hl
  refine zgenQ (fun Q hQe => ?_)
  obtain ⟨tg, etg⟩ : ∃ z, z = fGR_separate P S x0 := ⟨_, rfl⟩
  have E := etg
  unfold fGR_separate at E
  have hL12 : ∀ (n12 : Nat) (H : Heap) (locs : List Loc) (ls : Array Slot) (S_12 : ZS) (x12_1 : Int32) (x12_2 : Int32), zr 0 48 x12_1 → zr 0 48 x12_2 → cok S_12 → 48 + 1 - x12_2.toInt ≤ (n12 : Int) → tg = zfix (fun S9 _ _ => S9) (fGR_separate_12 P) n12 S_12 x12_1 x12_2 → va_P (dC, dI) zCl (CW cI cZ cA o b P S_12) H → va_D A (CW cI cZ cA o b P S_12) → va_S A s.heap H locs → lv_has ls 3 [(0, .ref (o 6)), (1, .int x12_1), (2, .int x12_2)] → W p l e ({ frames := 0, cells := 0, slots := 0, locals := 0 } : Room) s m ([.ref (o 6), .int x0] : List Value).toArray below meth c H locs 0 0 Q (F0 m 12 ls []) := by
    intro n12
    induction n12 with
    | zero => intro H locs ls S_12 x12_1 x12_2 r_x12_1 r_x12_2 gS_12 hm12 E hP hD hS hl; exact absurd hm12 (zfuel0U r_x12_2)
    | succ n12 ih12 =>
      intro H locs ls S_12 x12_1 x12_2 r_x12_1 r_x12_2 gS_12 hm12 E hP hD hS hl
      rw [zfix_s] at E
      generalize zfix (fun S9 _ _ => S9) (fGR_separate_12 P) n12 = rc12 at ih12 E
      unfold fGR_separate_12 at E
      refine lv_iload_n hx hb dGR_separate_12 rfl (lv_at hl 2 rfl) ?_
      refine lv_iload_n hx hb dGR_separate_13 rfl (lv_at hl 1 rfl) ?_
      refine z_icmp_ge (tgt := 30) hx hb dGR_separate_14 (by decide) E (fun c_14 E => ?_) (fun c_14 E => ?_)
      · rw [hQe]
        exact W.vret hx hb hr (fun t ht hW => ⟨⟨S_12, rfl, ⟨E.symm.trans etg, gS_12⟩, by rw [ht]; exact hP, hD⟩, hS.F ht⟩) hS.2.2 dGR_separate_30
      · have r_x12_2 : zr 0 47 x12_2 := zlt_x r_x12_2 r_x12_1 (znle c_14) (by decide)
        have r_x12_1 : zr 1 48 x12_1 := zlt_y r_x12_2 r_x12_1 (znle c_14) (by decide)
        refine lv_aload_n hx hb dGR_separate_17 rfl (lv_at hl 0 rfl) ?_
        refine c_getA_27 hx hb (hB.words zU_GR) hown hK hP (hB.word (zm1 k1_222) rfl) dGR_separate_18 ?_
        refine lv_iload_n hx hb dGR_separate_21 rfl (lv_at hl 2 rfl) ?_
        refine lv_iload_n hx hb dGR_separate_22 rfl (lv_at hl 2 rfl) ?_
        refine c_astS hx hb hK hP hD hS 27 (by decide) rfl r_x12_2 (by decide) dGR_separate_23 E (fun S1 H2 locs eS1 E hP hD hS => ?_)
        have gS1 : cok S1 := by rw [eS1]; exact gS_12.setF (k := 27) r_x12_2 (Or.inl (by decide))
        refine z_iinc (lv' := fun v9 => [(2, .int v9), (0, .ref (o 6)), (1, .int x12_1)]) (cst := 1) hx hb dGR_separate_24 hl (k := 2) rfl (by decide) (by decide) (fun _ => rfl) E (fun k3 ls ek3 E hl => ?_)
        have r_k3 : zr 1 48 k3 := zr_add r_x12_2 (show zr 1 1 1 from by decide) ek3 (by decide)
        refine lv_goto (tgt := 12) hx hb dGR_separate_27 (by decide) ?_
        exact ih12 H2 locs ls S1 x12_1 k3 (zr_mono r_x12_1 (by decide)) (zr_mono r_k3 (by decide)) gS1 (zstepU ek3 r_x12_2 (by decide) hm12) E hP hD hS (lv_sub hl [1, 2, 0] rfl)
  refine lv_aload_n hx hb dGR_separate_0 rfl (lv_at hl 0 rfl) ?_
  refine lv_iload_n hx hb dGR_separate_1 rfl (lv_at hl 1 rfl) ?_
  refine c_put_15 hx hb (hB.words zU_GR) hown hK hP hD hS (hB.word (zm1 k1_227) rfl) dGR_separate_2 E (fun S4 H5 locs eS4 E hP hD hS => ?_)
  have gS4 : cok S4 := by rw [eS4]; exact gS.setI (t := 15) r_x0
  refine lv_aload_n hx hb dGR_separate_5 rfl (lv_at hl 0 rfl) ?_
  refine lv_iload_n hx hb dGR_separate_6 rfl (lv_at hl 1 rfl) ?_
  refine c_put_14 hx hb (hB.words zU_GR) hown hK hP hD hS (hB.word (zm1 k1_224) rfl) dGR_separate_7 E (fun S6 H7 locs eS6 E hP hD hS => ?_)
  have gS6 : cok S6 := by rw [eS6]; exact gS4.setI (t := 14) (zr_any x0)
  refine lv_iconst (v := 0) hx hb dGR_separate_10 (by decide) ?_
  refine lv_istore_n (lv' := [(2, .int 0), (0, .ref (o 6)), (1, .int x0)]) hx hb dGR_separate_11 rfl hl (by decide) rfl (fun ls hl => ?_)
  exact hL12 49 H7 locs ls S6 x0 0 r_x0 (show zr 0 48 0 from by decide) gS6 (by have h9 := (show zr 0 0 0 from by decide); exact zfuelU h9 (by decide)) E hP hD hS (lv_sub hl [1, 2, 0] rfl)
noncomputable def fGR_join_55 (P : ZS) (rc26 : ZS → Int32 → Int32 → Int32 → (ZS × Int32)) (S_55 : ZS) (x55_3 : Int32) (x55_4 : Int32) (x55_5 : Int32) : ZS × Int32 := zl (x55_5 + 1) (fun k1 => rc26 S_55 x55_3 x55_4 k1)
noncomputable def fGR_join_26 (P : ZS) (rc26 : ZS → Int32 → Int32 → Int32 → (ZS × Int32)) (S_26 : ZS) (x26_3 : Int32) (x26_4 : Int32) (x26_5 : Int32) : ZS × Int32 := zl (S_26.I 15) (fun k2 => (if k2 ≤ x26_5 then zl (S_26.I 14) (fun k3 => zl (k3 - 1) (fun k4 => zl (S_26.setI 14 k4) (fun S5 => (S5, 1)))) else zl (S_26.F 27 (x26_5 : Int32).toNatClampNeg) (fun k7 => (if k7 = x26_4 then zl (S_26.setF 27 (x26_5 : Int32).toNatClampNeg x26_3) (fun S8 => fGR_join_55 P rc26 S8 x26_3 x26_4 x26_5) else fGR_join_55 P rc26 S_26 x26_3 x26_4 x26_5))))
noncomputable def fGR_join (P S : ZS) (x0 : Int32) (x1 : Int32) : ZS × Int32 := zl (S.F 27 (x0 : Int32).toNatClampNeg) (fun k10 => zl (S.F 27 (x1 : Int32).toNatClampNeg) (fun k11 => (if k10 = k11 then (S, 0) else zfix (fun S9 _ _ _ => (S9, 0)) (fGR_join_26 P) 49 S k10 k11 0)))
set_option maxHeartbeats 4000000 in
set_option maxRecDepth 100000 in
theorem tGR_join (l : Launch) (dC : Nat → ClassId) (dI : Nat → Nat → Nat) (cI cZ cJ cA : ClassId) (a0 : Array Value) (s0 : State) (o b : Nat → Nat) (P S : ZS) (sz : Nat) (x0 : Int32) (x1 : Int32) (gP : cok P) (gS : cok S) (r_x0 : zr 0 47 x0) (r_x1 : zr 0 47 x1) : Met l yGR_join [Cond.code yGR_join bGR_join 6 (some .boolean)] ({ frames := 0, cells := 0, slots := 0, locals := 0 } : Room) (zP zCl dC dI (zTZ cI cZ cJ cA) a0 s0 [.ref (o 6), .int x0, .int x1] sz (CW cI cZ cA o b P S)) (zQH zCl dC dI (fun (r : Int32) (x9 : ZS) => (x9, r) = fGR_join P S x0 x1 ∧ cok x9 ∧ zr 0 1 r) (fun x9 : ZS => (CW cI cZ cA o b P x9)) (va_A (CW cI cZ cA o b P S) sz)) 0 0 (va_A (CW cI cZ cA o b P S) sz) := by
  refine Met.ofW (cc := bGR_join) (maxL := 6) (ret := (some .boolean)) (by decide) rfl ?_
  intro p e s m args below meth c s₁ B hml hv
  obtain ⟨rfl, hsz, hP, hK, hD0, hB⟩ := hv
  have hx := B.exec
  have hb := B.bytes
  have hr := B.returns
  have hown : s.vm.findClass "RingGuard$Groups" = some m.cls := findClass_of_methodNamed B.named
  have hlocks := B.notSynchronized
  subst hsz
  have hD := hD0.self (sz := s.heap.size)
  have hA0 := zA0 hD0 hB
  generalize hAe : va_A (CW cI cZ cA o b P S) s.heap.size = A at hD hA0 ⊢
  have hAD := hA0
  have hA : ∀ q : Nat, s.heap.size ≤ q → A q := fun q h => by rw [← hAe]; exact Or.inr h
  have hS : va_S A s.heap s.heap [] := va_S.rf
  have hl := lv_entry ([.ref (o 6), .int x0, .int x1]) (n := 6) (Nat.le_of_ble_eq_true rfl)
  rw [lg_entry_eq]
  generalize (lg_sl ([.ref (o 6), .int x0, .int x1]) ++ List.replicate (6 - (lg_sl ([.ref (o 6), .int x0, .int x1])).length) Slot.unset).toArray = ls at hl ⊢
  have hl : lv_has ls 6 [(0, .ref (o 6)), (1, .int x0), (2, .int x1)] := hl
  refine zgenQ (fun Q hQe => ?_)
  obtain ⟨tg, etg⟩ : ∃ z, z = fGR_join P S x0 x1 := ⟨_, rfl⟩
  have E := etg
  unfold fGR_join at E
  have hL26 : ∀ (n26 : Nat) (H : Heap) (locs : List Loc) (ls : Array Slot) (S_26 : ZS) (x26_3 : Int32) (x26_4 : Int32) (x26_5 : Int32), zr 0 47 x26_3 → zr 0 47 x26_4 → zr 0 48 x26_5 → cok S_26 → 48 + 1 - x26_5.toInt ≤ (n26 : Int) → tg = zfix (fun S9 _ _ _ => (S9, 0)) (fGR_join_26 P) n26 S_26 x26_3 x26_4 x26_5 → va_P (dC, dI) zCl (CW cI cZ cA o b P S_26) H → va_D A (CW cI cZ cA o b P S_26) → va_S A s.heap H locs → lv_has ls 6 [(0, .ref (o 6)), (3, .int x26_3), (4, .int x26_4), (5, .int x26_5)] → W p l e ({ frames := 0, cells := 0, slots := 0, locals := 0 } : Room) s m ([.ref (o 6), .int x0, .int x1] : List Value).toArray below meth c H locs 0 0 Q (F0 m 26 ls []) := by
    intro n26
    induction n26 with
    | zero => intro H locs ls S_26 x26_3 x26_4 x26_5 r_x26_3 r_x26_4 r_x26_5 gS_26 hm26 E hP hD hS hl; exact absurd hm26 (zfuel0U r_x26_5)
    | succ n26 ih26 =>
      intro H locs ls S_26 x26_3 x26_4 x26_5 r_x26_3 r_x26_4 r_x26_5 gS_26 hm26 E hP hD hS hl
      rw [zfix_s] at E
      generalize zfix (fun S9 _ _ _ => (S9, 0)) (fGR_join_26 P) n26 = rc26 at ih26 E
      unfold fGR_join_26 at E
      have hJ55 : ∀ (H : Heap) (locs : List Loc) (ls : Array Slot) (S_55 : ZS) (x55_3 : Int32) (x55_4 : Int32) (x55_5 : Int32), zr 0 47 x55_3 → zr 0 47 x55_4 → zr 0 47 x55_5 → cok S_55 → 48 + 1 - x55_5.toInt ≤ ((n26 + 1 : Nat) : Int) → tg = fGR_join_55 P rc26 S_55 x55_3 x55_4 x55_5 → va_P (dC, dI) zCl (CW cI cZ cA o b P S_55) H → va_D A (CW cI cZ cA o b P S_55) → va_S A s.heap H locs → lv_has ls 6 [(0, .ref (o 6)), (3, .int x55_3), (4, .int x55_4), (5, .int x55_5)] → W p l e ({ frames := 0, cells := 0, slots := 0, locals := 0 } : Room) s m ([.ref (o 6), .int x0, .int x1] : List Value).toArray below meth c H locs 0 0 Q (F0 m 55 ls []) := by
        intro H locs ls S_55 x55_3 x55_4 x55_5 r_x55_3 r_x55_4 r_x55_5 gS_55 hm26_55 E hP hD hS hl
        unfold fGR_join_55 at E
        refine z_iinc (lv' := fun v9 => [(5, .int v9), (0, .ref (o 6)), (3, .int x55_3), (4, .int x55_4)]) (cst := 1) hx hb dGR_join_55 hl (k := 3) rfl (by decide) (by decide) (fun _ => rfl) E (fun k1 ls ek1 E hl => ?_)
        have r_k1 : zr 1 48 k1 := zr_add r_x55_5 (show zr 1 1 1 from by decide) ek1 (by decide)
        refine lv_goto (tgt := 26) hx hb dGR_join_58 (by decide) ?_
        exact ih26 H locs ls S_55 x55_3 x55_4 k1 r_x55_3 r_x55_4 (zr_mono r_k1 (by decide)) gS_55 (zstepU ek1 r_x55_5 (by decide) hm26_55) E hP hD hS (lv_sub hl [1, 2, 3, 0] rfl)
      refine lv_iload hx hb dGR_join_26 (lv_at hl 3 rfl) ?_
      refine lv_aload_n hx hb dGR_join_28 rfl (lv_at hl 0 rfl) ?_
      refine c_get_15 hx hb (hB.words zU_GR) hown hK hP (hB.word (zm1 k1_227) rfl) dGR_join_29 E (fun k2 ek2 E => ?_)
      have r_k2 : zr 0 48 k2 := by rw [ek2]; exact gS_26.2.1 15
      refine z_icmp_ge (tgt := 61) hx hb dGR_join_32 (by decide) E (fun c_32 E => ?_) (fun c_32 E => ?_)
      · refine lv_aload_n hx hb dGR_join_61 rfl (lv_at hl 0 rfl) ?_
        refine lv_dup hx hb dGR_join_62 rfl ?_
        refine c_get_14 hx hb (hB.words zU_GR) hown hK hP (hB.word (zm1 k1_224) rfl) dGR_join_63 E (fun k3 ek3 E => ?_)
        refine lv_iconst (v := 1) hx hb dGR_join_66 (by decide) ?_
        refine z_isub hx hb dGR_join_67 E (fun k4 ek4 E => ?_)
        refine c_put_14 hx hb (hB.words zU_GR) hown hK hP hD hS (hB.word (zm1 k1_224) rfl) dGR_join_68 E (fun S5 H6 locs eS5 E hP hD hS => ?_)
        have gS5 : cok S5 := by rw [eS5]; exact gS_26.setI (t := 14) (zr_any k4)
        refine lv_iconst (v := 1) hx hb dGR_join_71 (by decide) ?_
        rw [hQe]
        exact W.zret (v := 1) (ty := .boolean) hx hb hr (znar (show zr 0 1 1 from by decide)) (fun t ht hW => ⟨⟨1, S5, rfl, ⟨E.symm.trans etg, gS5, (show zr 0 1 1 from by decide)⟩, by rw [ht]; exact hP, hD⟩, hS.F ht⟩) hS.2.2 dGR_join_72
      · have r_x26_5 : zr 0 47 x26_5 := zlt_x r_x26_5 r_k2 (znle c_32) (by decide)
        have r_k2 : zr 1 48 k2 := zlt_y r_x26_5 r_k2 (znle c_32) (by decide)
        refine lv_aload_n hx hb dGR_join_35 rfl (lv_at hl 0 rfl) ?_
        refine c_getA_27 hx hb (hB.words zU_GR) hown hK hP (hB.word (zm1 k1_222) rfl) dGR_join_36 ?_
        refine lv_iload hx hb dGR_join_39 (lv_at hl 3 rfl) ?_
        refine c_aldS hx hb hK hP 27 (by decide) rfl r_x26_5 (by decide) dGR_join_41 E (fun k7 ek7 E => ?_)
        have r_k7 : zr 0 47 k7 := by rw [ek7]; exact gS_26.1 27 _
        refine lv_iload hx hb dGR_join_42 (lv_at hl 2 rfl) ?_
        refine z_icmp_ne (tgt := 55) hx hb dGR_join_44 (by decide) E (fun c_44 E => ?_) (fun c_44 E => ?_)
        · exact hJ55 H locs ls S_26 x26_3 x26_4 x26_5 r_x26_3 r_x26_4 r_x26_5 gS_26 hm26 E hP hD hS (lv_sub hl [0, 1, 2, 3] rfl)
        · refine lv_aload_n hx hb dGR_join_47 rfl (lv_at hl 0 rfl) ?_
          refine c_getA_27 hx hb (hB.words zU_GR) hown hK hP (hB.word (zm1 k1_222) rfl) dGR_join_48 ?_
          refine lv_iload hx hb dGR_join_51 (lv_at hl 3 rfl) ?_
          refine lv_iload_n hx hb dGR_join_53 rfl (lv_at hl 1 rfl) ?_
          refine c_astS hx hb hK hP hD hS 27 (by decide) rfl r_x26_5 (by decide) dGR_join_54 E (fun S8 H9 locs eS8 E hP hD hS => ?_)
          have gS8 : cok S8 := by rw [eS8]; exact gS_26.setF (k := 27) r_x26_3 (Or.inl (by decide))
          exact hJ55 H9 locs ls S8 x26_3 x26_4 x26_5 r_x26_3 r_x26_4 r_x26_5 gS8 hm26 E hP hD hS (lv_sub hl [0, 1, 2, 3] rfl)
  refine lv_aload_n hx hb dGR_join_0 rfl (lv_at hl 0 rfl) ?_
  refine c_getA_27 hx hb (hB.words zU_GR) hown hK hP (hB.word (zm1 k1_222) rfl) dGR_join_1 ?_
  refine lv_iload_n hx hb dGR_join_4 rfl (lv_at hl 1 rfl) ?_
  refine c_aldS hx hb hK hP 27 (by decide) rfl r_x0 (by decide) dGR_join_5 E (fun k10 ek10 E => ?_)
  have r_k10 : zr 0 47 k10 := by rw [ek10]; exact gS.1 27 _
  refine lv_istore_n (lv' := [(3, .int k10), (0, .ref (o 6)), (1, .int x0), (2, .int x1)]) hx hb dGR_join_6 rfl hl (by decide) rfl (fun ls hl => ?_)
  refine lv_aload_n hx hb dGR_join_7 rfl (lv_at hl 1 rfl) ?_
  refine c_getA_27 hx hb (hB.words zU_GR) hown hK hP (hB.word (zm1 k1_222) rfl) dGR_join_8 ?_
  refine lv_iload_n hx hb dGR_join_11 rfl (lv_at hl 3 rfl) ?_
  refine c_aldS hx hb hK hP 27 (by decide) rfl r_x1 (by decide) dGR_join_12 E (fun k11 ek11 E => ?_)
  have r_k11 : zr 0 47 k11 := by rw [ek11]; exact gS.1 27 _
  refine lv_istore (lv' := [(4, .int k11), (3, .int k10), (0, .ref (o 6)), (1, .int x0), (2, .int x1)]) hx hb dGR_join_13 hl (by decide) rfl (fun ls hl => ?_)
  refine lv_iload_n hx hb dGR_join_15 rfl (lv_at hl 1 rfl) ?_
  refine lv_iload hx hb dGR_join_16 (lv_at hl 0 rfl) ?_
  refine z_icmp_ne (tgt := 23) hx hb dGR_join_18 (by decide) E (fun c_18 E => ?_) (fun c_18 E => ?_)
  · refine lv_iconst (v := 0) hx hb dGR_join_23 (by decide) ?_
    refine lv_istore (lv' := [(5, .int 0), (4, .int k11), (3, .int k10), (0, .ref (o 6)), (1, .int x0), (2, .int x1)]) hx hb dGR_join_24 hl (by decide) rfl (fun ls hl => ?_)
    exact hL26 49 s.heap [] ls S k10 k11 0 r_k10 r_k11 (show zr 0 48 0 from by decide) gS (by have h9 := (show zr 0 0 0 from by decide); exact zfuelU h9 (by decide)) E hP hD hS (lv_sub hl [3, 2, 1, 0] rfl)
  · refine lv_iconst (v := 0) hx hb dGR_join_21 (by decide) ?_
    rw [hQe]
    exact W.zret (v := 0) (ty := .boolean) hx hb hr (znar (show zr 0 1 0 from by decide)) (fun t ht hW => ⟨⟨0, S, rfl, ⟨E.symm.trans etg, gS, (show zr 0 1 0 from by decide)⟩, by rw [ht]; exact hP, hD⟩, hS.F ht⟩) hS.2.2 dGR_join_22
