theorem k1_3 : tables_1_1[3]? = some (Jvm.Cond.initialized "java/util/Arrays") := by decide +kernel
theorem k1_32 : tables_1_1[32]? = some (Jvm.Cond.static ({ cls := "java/util/Arrays", name := "fill", desc := "([II)V" } : Jvm.MethodName)) := by decide +kernel
theorem k1_33 : tables_1_1[33]? = some (Jvm.Cond.code ({ cls := "java/util/Arrays", name := "fill", desc := "([II)V" } : Jvm.MethodName) prog_18_method_103_code (4 : Nat) (Option.none : Option Jvm.ClassFile.FieldType)) := rfl
theorem k1_90 : tables_1_1[90]? = some (Jvm.Cond.fieldLink "RingGuard$Wires" (11 : Nat) "RingGuard$Wires" "arriving" "[I") := by decide +kernel
theorem k1_91 : tables_1_1[91]? = some (Jvm.Cond.fieldLink "RingGuard$Wires" (15 : Nat) "RingGuard$Wires" "arrivingCount" "[I") := by decide +kernel
theorem k1_92 : tables_1_1[92]? = some (Jvm.Cond.fieldLink "RingGuard$Wires" (18 : Nat) "RingGuard$Wires" "leaving" "[I") := by decide +kernel
theorem k1_93 : tables_1_1[93]? = some (Jvm.Cond.fieldLink "RingGuard$Wires" (21 : Nat) "RingGuard$Wires" "leavingCount" "[I") := by decide +kernel
theorem k1_94 : tables_1_1[94]? = some (Jvm.Cond.fieldLink "RingGuard$Wires" (24 : Nat) "RingGuard$Wires" "toLose" "[I") := by decide +kernel
theorem k1_96 : tables_1_1[96]? = some (Jvm.Cond.fieldLink "RingGuard$Wires" (27 : Nat) "RingGuard$Wires" "lostCount" "I") := by decide +kernel
theorem k1_119 : tables_1_1[119]? = some (Jvm.Cond.methodLink "RingGuard$Tables" (16 : Nat) ({ cls := "java/util/Arrays", name := "fill", desc := "([II)V" } : Jvm.MethodName)) := by decide +kernel
theorem k1_120 : tables_1_1[120]? = some (Jvm.Cond.fieldLink "RingGuard$Tables" (11 : Nat) "RingGuard$Tables" "entries" "[[I") := by decide +kernel
abbrev yWI_put : MethodName := ⟨"RingGuard$Wires", "put", "(II)V"⟩
abbrev bWI_put : ByteArray := prog_8_method_2_code
abbrev yWI_countArriving : MethodName := ⟨"RingGuard$Wires", "countArriving", "(I)I"⟩
abbrev bWI_countArriving : ByteArray := prog_8_method_4_code
abbrev yWI_arrivingCast : MethodName := ⟨"RingGuard$Wires", "arrivingCast", "(II)I"⟩
abbrev bWI_arrivingCast : ByteArray := prog_8_method_5_code
abbrev yWI_losesOne : MethodName := ⟨"RingGuard$Wires", "losesOne", "(I)Z"⟩
abbrev bWI_losesOne : ByteArray := prog_8_method_6_code
abbrev yWI_countOnLinks : MethodName := ⟨"RingGuard$Wires", "countOnLinks", "()I"⟩
abbrev bWI_countOnLinks : ByteArray := prog_8_method_7_code
abbrev yTA_learn : MethodName := ⟨"RingGuard$Tables", "learn", "(IIIII)V"⟩
abbrev bTA_learn : ByteArray := prog_7_method_2_code
abbrev yTA_linkTo : MethodName := ⟨"RingGuard$Tables", "linkTo", "(IIII)I"⟩
abbrev bTA_linkTo : ByteArray := prog_7_method_3_code
abbrev yTA_forgetHost : MethodName := ⟨"RingGuard$Tables", "forgetHost", "(I)V"⟩
abbrev bTA_forgetHost : ByteArray := prog_7_method_5_code
abbrev yTA_forgetAll : MethodName := ⟨"RingGuard$Tables", "forgetAll", "(I)V"⟩
abbrev bTA_forgetAll : ByteArray := prog_7_method_4_code
abbrev yCA_of : MethodName := ⟨"RingGuard$Cast", "of", "(IIII)I"⟩
abbrev bCA_of : ByteArray := prog_2_method_2_code
abbrev yCA_kindOf : MethodName := ⟨"RingGuard$Cast", "kindOf", "(I)I"⟩
abbrev bCA_kindOf : ByteArray := prog_2_method_3_code
abbrev yCA_sourceOf : MethodName := ⟨"RingGuard$Cast", "sourceOf", "(I)I"⟩
abbrev bCA_sourceOf : ByteArray := prog_2_method_4_code
abbrev yCA_numberOf : MethodName := ⟨"RingGuard$Cast", "numberOf", "(I)I"⟩
abbrev bCA_numberOf : ByteArray := prog_2_method_6_code
abbrev yCA_nameOf : MethodName := ⟨"RingGuard$Cast", "nameOf", "(I)I"⟩
abbrev bCA_nameOf : ByteArray := prog_2_method_5_code
theorem dCA_kindOf_0 : decode bCA_kindOf 0 = .ok (.iload_n 0, 1) := by decide +kernel
theorem dCA_kindOf_1 : decode bCA_kindOf 1 = .ok (.bipush 7, 2) := by decide +kernel
theorem dCA_kindOf_3 : decode bCA_kindOf 3 = .ok (.iand, 1) := by decide +kernel
theorem dCA_kindOf_4 : decode bCA_kindOf 4 = .ok (.ireturn, 1) := by decide +kernel
theorem dCA_nameOf_0 : decode bCA_nameOf 0 = .ok (.iload_n 0, 1) := by decide +kernel
theorem dCA_nameOf_1 : decode bCA_nameOf 1 = .ok (.bipush 9, 2) := by decide +kernel
theorem dCA_nameOf_3 : decode bCA_nameOf 3 = .ok (.ishr, 1) := by decide +kernel
theorem dCA_nameOf_4 : decode bCA_nameOf 4 = .ok (.bipush 127, 2) := by decide +kernel
theorem dCA_nameOf_6 : decode bCA_nameOf 6 = .ok (.iand, 1) := by decide +kernel
theorem dCA_nameOf_7 : decode bCA_nameOf 7 = .ok (.ireturn, 1) := by decide +kernel
theorem dCA_numberOf_0 : decode bCA_numberOf 0 = .ok (.iload_n 0, 1) := by decide +kernel
theorem dCA_numberOf_1 : decode bCA_numberOf 1 = .ok (.bipush 16, 2) := by decide +kernel
theorem dCA_numberOf_3 : decode bCA_numberOf 3 = .ok (.iushr, 1) := by decide +kernel
theorem dCA_numberOf_4 : decode bCA_numberOf 4 = .ok (.ireturn, 1) := by decide +kernel
theorem dCA_of_0 : decode bCA_of 0 = .ok (.iload_n 3, 1) := by decide +kernel
theorem dCA_of_1 : decode bCA_of 1 = .ok (.bipush 16, 2) := by decide +kernel
theorem dCA_of_3 : decode bCA_of 3 = .ok (.ishl, 1) := by decide +kernel
theorem dCA_of_4 : decode bCA_of 4 = .ok (.iload_n 2, 1) := by decide +kernel
theorem dCA_of_5 : decode bCA_of 5 = .ok (.bipush 9, 2) := by decide +kernel
theorem dCA_of_7 : decode bCA_of 7 = .ok (.ishl, 1) := by decide +kernel
theorem dCA_of_8 : decode bCA_of 8 = .ok (.ior, 1) := by decide +kernel
theorem dCA_of_9 : decode bCA_of 9 = .ok (.iload_n 1, 1) := by decide +kernel
theorem dCA_of_10 : decode bCA_of 10 = .ok (.iconst 3, 1) := by decide +kernel
theorem dCA_of_11 : decode bCA_of 11 = .ok (.ishl, 1) := by decide +kernel
theorem dCA_of_12 : decode bCA_of 12 = .ok (.ior, 1) := by decide +kernel
theorem dCA_of_13 : decode bCA_of 13 = .ok (.iload_n 0, 1) := by decide +kernel
theorem dCA_of_14 : decode bCA_of 14 = .ok (.ior, 1) := by decide +kernel
theorem dCA_of_15 : decode bCA_of 15 = .ok (.ireturn, 1) := by decide +kernel
theorem dCA_sourceOf_0 : decode bCA_sourceOf 0 = .ok (.iload_n 0, 1) := by decide +kernel
theorem dCA_sourceOf_1 : decode bCA_sourceOf 1 = .ok (.iconst 3, 1) := by decide +kernel
theorem dCA_sourceOf_2 : decode bCA_sourceOf 2 = .ok (.ishr, 1) := by decide +kernel
theorem dCA_sourceOf_3 : decode bCA_sourceOf 3 = .ok (.bipush 63, 2) := by decide +kernel
theorem dCA_sourceOf_5 : decode bCA_sourceOf 5 = .ok (.iand, 1) := by decide +kernel
theorem dCA_sourceOf_6 : decode bCA_sourceOf 6 = .ok (.ireturn, 1) := by decide +kernel
theorem dTA_forgetAll_0 : decode bTA_forgetAll 0 = .ok (.aload_n 0, 1) := by decide +kernel
theorem dTA_forgetAll_1 : decode bTA_forgetAll 1 = .ok (.getfield 11, 3) := by decide +kernel
theorem dTA_forgetAll_4 : decode bTA_forgetAll 4 = .ok (.iload_n 1, 1) := by decide +kernel
theorem dTA_forgetAll_5 : decode bTA_forgetAll 5 = .ok (.aaload, 1) := by decide +kernel
theorem dTA_forgetAll_6 : decode bTA_forgetAll 6 = .ok (.iconst (-1), 1) := by decide +kernel
theorem dTA_forgetAll_7 : decode bTA_forgetAll 7 = .ok (.invokestatic 16, 3) := by decide +kernel
theorem dTA_forgetAll_10 : decode bTA_forgetAll 10 = .ok (.return_, 1) := by decide +kernel
theorem dTA_forgetHost_0 : decode bTA_forgetHost 0 = .ok (.iconst 0, 1) := by decide +kernel
theorem dTA_forgetHost_1 : decode bTA_forgetHost 1 = .ok (.istore_n 2, 1) := by decide +kernel
theorem dTA_forgetHost_2 : decode bTA_forgetHost 2 = .ok (.iload_n 2, 1) := by decide +kernel
theorem dTA_forgetHost_3 : decode bTA_forgetHost 3 = .ok (.bipush 48, 2) := by decide +kernel
theorem dTA_forgetHost_5 : decode bTA_forgetHost 5 = .ok (.if_icmp .ge 36, 3) := by decide +kernel
theorem dTA_forgetHost_8 : decode bTA_forgetHost 8 = .ok (.iconst 0, 1) := by decide +kernel
theorem dTA_forgetHost_9 : decode bTA_forgetHost 9 = .ok (.istore_n 3, 1) := by decide +kernel
theorem dTA_forgetHost_10 : decode bTA_forgetHost 10 = .ok (.iload_n 3, 1) := by decide +kernel
theorem dTA_forgetHost_11 : decode bTA_forgetHost 11 = .ok (.iconst 4, 1) := by decide +kernel
theorem dTA_forgetHost_12 : decode bTA_forgetHost 12 = .ok (.if_icmp .ge 23, 3) := by decide +kernel
theorem dTA_forgetHost_15 : decode bTA_forgetHost 15 = .ok (.aload_n 0, 1) := by decide +kernel
theorem dTA_forgetHost_16 : decode bTA_forgetHost 16 = .ok (.getfield 11, 3) := by decide +kernel
theorem dTA_forgetHost_19 : decode bTA_forgetHost 19 = .ok (.iload_n 2, 1) := by decide +kernel
theorem dTA_forgetHost_20 : decode bTA_forgetHost 20 = .ok (.aaload, 1) := by decide +kernel
theorem dTA_forgetHost_21 : decode bTA_forgetHost 21 = .ok (.iload_n 3, 1) := by decide +kernel
theorem dTA_forgetHost_22 : decode bTA_forgetHost 22 = .ok (.bipush 64, 2) := by decide +kernel
theorem dTA_forgetHost_24 : decode bTA_forgetHost 24 = .ok (.imul, 1) := by decide +kernel
theorem dTA_forgetHost_25 : decode bTA_forgetHost 25 = .ok (.iload_n 1, 1) := by decide +kernel
theorem dTA_forgetHost_26 : decode bTA_forgetHost 26 = .ok (.iadd, 1) := by decide +kernel
theorem dTA_forgetHost_27 : decode bTA_forgetHost 27 = .ok (.iconst (-1), 1) := by decide +kernel
theorem dTA_forgetHost_28 : decode bTA_forgetHost 28 = .ok (.iastore, 1) := by decide +kernel
theorem dTA_forgetHost_29 : decode bTA_forgetHost 29 = .ok (.iinc 3 1, 3) := by decide +kernel
theorem dTA_forgetHost_32 : decode bTA_forgetHost 32 = .ok (.goto (-22), 3) := by decide +kernel
theorem dTA_forgetHost_35 : decode bTA_forgetHost 35 = .ok (.iinc 2 1, 3) := by decide +kernel
theorem dTA_forgetHost_38 : decode bTA_forgetHost 38 = .ok (.goto (-36), 3) := by decide +kernel
theorem dTA_forgetHost_41 : decode bTA_forgetHost 41 = .ok (.return_, 1) := by decide +kernel
theorem dTA_learn_0 : decode bTA_learn 0 = .ok (.aload_n 0, 1) := by decide +kernel
theorem dTA_learn_1 : decode bTA_learn 1 = .ok (.getfield 11, 3) := by decide +kernel
theorem dTA_learn_4 : decode bTA_learn 4 = .ok (.iload_n 1, 1) := by decide +kernel
theorem dTA_learn_5 : decode bTA_learn 5 = .ok (.aaload, 1) := by decide +kernel
theorem dTA_learn_6 : decode bTA_learn 6 = .ok (.iload_n 2, 1) := by decide +kernel
theorem dTA_learn_7 : decode bTA_learn 7 = .ok (.bipush 64, 2) := by decide +kernel
theorem dTA_learn_9 : decode bTA_learn 9 = .ok (.imul, 1) := by decide +kernel
theorem dTA_learn_10 : decode bTA_learn 10 = .ok (.iload_n 3, 1) := by decide +kernel
theorem dTA_learn_11 : decode bTA_learn 11 = .ok (.iadd, 1) := by decide +kernel
theorem dTA_learn_12 : decode bTA_learn 12 = .ok (.iload 5, 2) := by decide +kernel
theorem dTA_learn_14 : decode bTA_learn 14 = .ok (.bipush 60, 2) := by decide +kernel
theorem dTA_learn_16 : decode bTA_learn 16 = .ok (.imul, 1) := by decide +kernel
theorem dTA_learn_17 : decode bTA_learn 17 = .ok (.iload 4, 2) := by decide +kernel
theorem dTA_learn_19 : decode bTA_learn 19 = .ok (.iadd, 1) := by decide +kernel
theorem dTA_learn_20 : decode bTA_learn 20 = .ok (.iastore, 1) := by decide +kernel
theorem dTA_learn_21 : decode bTA_learn 21 = .ok (.return_, 1) := by decide +kernel
theorem dTA_linkTo_0 : decode bTA_linkTo 0 = .ok (.aload_n 0, 1) := by decide +kernel
theorem dTA_linkTo_1 : decode bTA_linkTo 1 = .ok (.getfield 11, 3) := by decide +kernel
theorem dTA_linkTo_4 : decode bTA_linkTo 4 = .ok (.iload_n 1, 1) := by decide +kernel
theorem dTA_linkTo_5 : decode bTA_linkTo 5 = .ok (.aaload, 1) := by decide +kernel
theorem dTA_linkTo_6 : decode bTA_linkTo 6 = .ok (.iload_n 2, 1) := by decide +kernel
theorem dTA_linkTo_7 : decode bTA_linkTo 7 = .ok (.bipush 64, 2) := by decide +kernel
theorem dTA_linkTo_9 : decode bTA_linkTo 9 = .ok (.imul, 1) := by decide +kernel
theorem dTA_linkTo_10 : decode bTA_linkTo 10 = .ok (.iload_n 3, 1) := by decide +kernel
theorem dTA_linkTo_11 : decode bTA_linkTo 11 = .ok (.iadd, 1) := by decide +kernel
theorem dTA_linkTo_12 : decode bTA_linkTo 12 = .ok (.iaload, 1) := by decide +kernel
theorem dTA_linkTo_13 : decode bTA_linkTo 13 = .ok (.istore 5, 2) := by decide +kernel
theorem dTA_linkTo_15 : decode bTA_linkTo 15 = .ok (.iload 5, 2) := by decide +kernel
theorem dTA_linkTo_17 : decode bTA_linkTo 17 = .ok (.iconst (-1), 1) := by decide +kernel
theorem dTA_linkTo_18 : decode bTA_linkTo 18 = .ok (.if_icmp .eq 17, 3) := by decide +kernel
theorem dTA_linkTo_21 : decode bTA_linkTo 21 = .ok (.iload 4, 2) := by decide +kernel
theorem dTA_linkTo_23 : decode bTA_linkTo 23 = .ok (.iload 5, 2) := by decide +kernel
theorem dTA_linkTo_25 : decode bTA_linkTo 25 = .ok (.bipush 60, 2) := by decide +kernel
theorem dTA_linkTo_27 : decode bTA_linkTo 27 = .ok (.idiv, 1) := by decide +kernel
theorem dTA_linkTo_28 : decode bTA_linkTo 28 = .ok (.isub, 1) := by decide +kernel
theorem dTA_linkTo_29 : decode bTA_linkTo 29 = .ok (.sipush 300, 3) := by decide +kernel
theorem dTA_linkTo_32 : decode bTA_linkTo 32 = .ok (.if_icmp .lt 5, 3) := by decide +kernel
theorem dTA_linkTo_35 : decode bTA_linkTo 35 = .ok (.iconst (-1), 1) := by decide +kernel
theorem dTA_linkTo_36 : decode bTA_linkTo 36 = .ok (.ireturn, 1) := by decide +kernel
theorem dTA_linkTo_37 : decode bTA_linkTo 37 = .ok (.iload 5, 2) := by decide +kernel
theorem dTA_linkTo_39 : decode bTA_linkTo 39 = .ok (.bipush 60, 2) := by decide +kernel
theorem dTA_linkTo_41 : decode bTA_linkTo 41 = .ok (.irem, 1) := by decide +kernel
theorem dTA_linkTo_42 : decode bTA_linkTo 42 = .ok (.ireturn, 1) := by decide +kernel
theorem dWI_arrivingCast_0 : decode bWI_arrivingCast 0 = .ok (.aload_n 0, 1) := by decide +kernel
theorem dWI_arrivingCast_1 : decode bWI_arrivingCast 1 = .ok (.getfield 11, 3) := by decide +kernel
theorem dWI_arrivingCast_4 : decode bWI_arrivingCast 4 = .ok (.iload_n 1, 1) := by decide +kernel
theorem dWI_arrivingCast_5 : decode bWI_arrivingCast 5 = .ok (.bipush 64, 2) := by decide +kernel
theorem dWI_arrivingCast_7 : decode bWI_arrivingCast 7 = .ok (.imul, 1) := by decide +kernel
theorem dWI_arrivingCast_8 : decode bWI_arrivingCast 8 = .ok (.iload_n 2, 1) := by decide +kernel
theorem dWI_arrivingCast_9 : decode bWI_arrivingCast 9 = .ok (.iadd, 1) := by decide +kernel
theorem dWI_arrivingCast_10 : decode bWI_arrivingCast 10 = .ok (.iaload, 1) := by decide +kernel
theorem dWI_arrivingCast_11 : decode bWI_arrivingCast 11 = .ok (.ireturn, 1) := by decide +kernel
theorem dWI_countArriving_0 : decode bWI_countArriving 0 = .ok (.aload_n 0, 1) := by decide +kernel
theorem dWI_countArriving_1 : decode bWI_countArriving 1 = .ok (.getfield 15, 3) := by decide +kernel
theorem dWI_countArriving_4 : decode bWI_countArriving 4 = .ok (.iload_n 1, 1) := by decide +kernel
theorem dWI_countArriving_5 : decode bWI_countArriving 5 = .ok (.iaload, 1) := by decide +kernel
theorem dWI_countArriving_6 : decode bWI_countArriving 6 = .ok (.ireturn, 1) := by decide +kernel
theorem dWI_countOnLinks_0 : decode bWI_countOnLinks 0 = .ok (.iconst 0, 1) := by decide +kernel
theorem dWI_countOnLinks_1 : decode bWI_countOnLinks 1 = .ok (.istore_n 1, 1) := by decide +kernel
theorem dWI_countOnLinks_2 : decode bWI_countOnLinks 2 = .ok (.iconst 0, 1) := by decide +kernel
theorem dWI_countOnLinks_3 : decode bWI_countOnLinks 3 = .ok (.istore_n 2, 1) := by decide +kernel
theorem dWI_countOnLinks_4 : decode bWI_countOnLinks 4 = .ok (.iload_n 2, 1) := by decide +kernel
theorem dWI_countOnLinks_5 : decode bWI_countOnLinks 5 = .ok (.bipush 120, 2) := by decide +kernel
theorem dWI_countOnLinks_7 : decode bWI_countOnLinks 7 = .ok (.if_icmp .ge 18, 3) := by decide +kernel
theorem dWI_countOnLinks_10 : decode bWI_countOnLinks 10 = .ok (.iload_n 1, 1) := by decide +kernel
theorem dWI_countOnLinks_11 : decode bWI_countOnLinks 11 = .ok (.aload_n 0, 1) := by decide +kernel
theorem dWI_countOnLinks_12 : decode bWI_countOnLinks 12 = .ok (.getfield 21, 3) := by decide +kernel
theorem dWI_countOnLinks_15 : decode bWI_countOnLinks 15 = .ok (.iload_n 2, 1) := by decide +kernel
theorem dWI_countOnLinks_16 : decode bWI_countOnLinks 16 = .ok (.iaload, 1) := by decide +kernel
theorem dWI_countOnLinks_17 : decode bWI_countOnLinks 17 = .ok (.iadd, 1) := by decide +kernel
theorem dWI_countOnLinks_18 : decode bWI_countOnLinks 18 = .ok (.istore_n 1, 1) := by decide +kernel
theorem dWI_countOnLinks_19 : decode bWI_countOnLinks 19 = .ok (.iinc 2 1, 3) := by decide +kernel
theorem dWI_countOnLinks_22 : decode bWI_countOnLinks 22 = .ok (.goto (-18), 3) := by decide +kernel
theorem dWI_countOnLinks_25 : decode bWI_countOnLinks 25 = .ok (.iload_n 1, 1) := by decide +kernel
theorem dWI_countOnLinks_26 : decode bWI_countOnLinks 26 = .ok (.ireturn, 1) := by decide +kernel
theorem dWI_losesOne_0 : decode bWI_losesOne 0 = .ok (.aload_n 0, 1) := by decide +kernel
theorem dWI_losesOne_1 : decode bWI_losesOne 1 = .ok (.getfield 24, 3) := by decide +kernel
theorem dWI_losesOne_4 : decode bWI_losesOne 4 = .ok (.iload_n 1, 1) := by decide +kernel
theorem dWI_losesOne_5 : decode bWI_losesOne 5 = .ok (.iaload, 1) := by decide +kernel
theorem dWI_losesOne_6 : decode bWI_losesOne 6 = .ok (.ifCond .ne 5, 3) := by decide +kernel
theorem dWI_losesOne_9 : decode bWI_losesOne 9 = .ok (.iconst 0, 1) := by decide +kernel
theorem dWI_losesOne_10 : decode bWI_losesOne 10 = .ok (.ireturn, 1) := by decide +kernel
theorem dWI_losesOne_11 : decode bWI_losesOne 11 = .ok (.aload_n 0, 1) := by decide +kernel
theorem dWI_losesOne_12 : decode bWI_losesOne 12 = .ok (.getfield 24, 3) := by decide +kernel
theorem dWI_losesOne_15 : decode bWI_losesOne 15 = .ok (.iload_n 1, 1) := by decide +kernel
theorem dWI_losesOne_16 : decode bWI_losesOne 16 = .ok (.dup2, 1) := by decide +kernel
theorem dWI_losesOne_17 : decode bWI_losesOne 17 = .ok (.iaload, 1) := by decide +kernel
theorem dWI_losesOne_18 : decode bWI_losesOne 18 = .ok (.iconst 1, 1) := by decide +kernel
theorem dWI_losesOne_19 : decode bWI_losesOne 19 = .ok (.isub, 1) := by decide +kernel
theorem dWI_losesOne_20 : decode bWI_losesOne 20 = .ok (.iastore, 1) := by decide +kernel
theorem dWI_losesOne_21 : decode bWI_losesOne 21 = .ok (.aload_n 0, 1) := by decide +kernel
theorem dWI_losesOne_22 : decode bWI_losesOne 22 = .ok (.dup, 1) := by decide +kernel
theorem dWI_losesOne_23 : decode bWI_losesOne 23 = .ok (.getfield 27, 3) := by decide +kernel
theorem dWI_losesOne_26 : decode bWI_losesOne 26 = .ok (.iconst 1, 1) := by decide +kernel
theorem dWI_losesOne_27 : decode bWI_losesOne 27 = .ok (.iadd, 1) := by decide +kernel
theorem dWI_losesOne_28 : decode bWI_losesOne 28 = .ok (.putfield 27, 3) := by decide +kernel
theorem dWI_losesOne_31 : decode bWI_losesOne 31 = .ok (.iconst 1, 1) := by decide +kernel
theorem dWI_losesOne_32 : decode bWI_losesOne 32 = .ok (.ireturn, 1) := by decide +kernel
theorem dWI_put_0 : decode bWI_put 0 = .ok (.aload_n 0, 1) := by decide +kernel
theorem dWI_put_1 : decode bWI_put 1 = .ok (.getfield 21, 3) := by decide +kernel
theorem dWI_put_4 : decode bWI_put 4 = .ok (.iload_n 1, 1) := by decide +kernel
theorem dWI_put_5 : decode bWI_put 5 = .ok (.iaload, 1) := by decide +kernel
theorem dWI_put_6 : decode bWI_put 6 = .ok (.istore_n 3, 1) := by decide +kernel
theorem dWI_put_7 : decode bWI_put 7 = .ok (.iload_n 3, 1) := by decide +kernel
theorem dWI_put_8 : decode bWI_put 8 = .ok (.bipush 64, 2) := by decide +kernel
theorem dWI_put_10 : decode bWI_put 10 = .ok (.if_icmp .lt 14, 3) := by decide +kernel
theorem dWI_put_13 : decode bWI_put 13 = .ok (.aload_n 0, 1) := by decide +kernel
theorem dWI_put_14 : decode bWI_put 14 = .ok (.dup, 1) := by decide +kernel
theorem dWI_put_15 : decode bWI_put 15 = .ok (.getfield 27, 3) := by decide +kernel
theorem dWI_put_18 : decode bWI_put 18 = .ok (.iconst 1, 1) := by decide +kernel
theorem dWI_put_19 : decode bWI_put 19 = .ok (.iadd, 1) := by decide +kernel
theorem dWI_put_20 : decode bWI_put 20 = .ok (.putfield 27, 3) := by decide +kernel
theorem dWI_put_23 : decode bWI_put 23 = .ok (.return_, 1) := by decide +kernel
theorem dWI_put_24 : decode bWI_put 24 = .ok (.aload_n 0, 1) := by decide +kernel
theorem dWI_put_25 : decode bWI_put 25 = .ok (.getfield 18, 3) := by decide +kernel
theorem dWI_put_28 : decode bWI_put 28 = .ok (.iload_n 1, 1) := by decide +kernel
theorem dWI_put_29 : decode bWI_put 29 = .ok (.bipush 64, 2) := by decide +kernel
theorem dWI_put_31 : decode bWI_put 31 = .ok (.imul, 1) := by decide +kernel
theorem dWI_put_32 : decode bWI_put 32 = .ok (.iload_n 3, 1) := by decide +kernel
theorem dWI_put_33 : decode bWI_put 33 = .ok (.iadd, 1) := by decide +kernel
theorem dWI_put_34 : decode bWI_put 34 = .ok (.iload_n 2, 1) := by decide +kernel
theorem dWI_put_35 : decode bWI_put 35 = .ok (.iastore, 1) := by decide +kernel
theorem dWI_put_36 : decode bWI_put 36 = .ok (.aload_n 0, 1) := by decide +kernel
theorem dWI_put_37 : decode bWI_put 37 = .ok (.getfield 21, 3) := by decide +kernel
theorem dWI_put_40 : decode bWI_put 40 = .ok (.iload_n 1, 1) := by decide +kernel
theorem dWI_put_41 : decode bWI_put 41 = .ok (.iload_n 3, 1) := by decide +kernel
theorem dWI_put_42 : decode bWI_put 42 = .ok (.iconst 1, 1) := by decide +kernel
theorem dWI_put_43 : decode bWI_put 43 = .ok (.iadd, 1) := by decide +kernel
theorem dWI_put_44 : decode bWI_put 44 = .ok (.iastore, 1) := by decide +kernel
theorem dWI_put_45 : decode bWI_put 45 = .ok (.return_, 1) := by decide +kernel
noncomputable def fWI_put (P S : ZS) (x0 : Int32) (x1 : Int32) : ZS := zl (S.F 12 (x0 : Int32).toNatClampNeg) (fun k1 => (if k1 < 64 then zl (x0 * 64) (fun k2 => zl (k2 + k1) (fun k3 => zl (S.setF 11 (k3 : Int32).toNatClampNeg x1) (fun S4 => zl (k1 + 1) (fun k6 => zl (S4.setF 12 (x0 : Int32).toNatClampNeg k6) (fun S7 => S7))))) else zl (S.I 9) (fun k9 => zl (k9 + 1) (fun k10 => zl (S.setI 9 k10) (fun S11 => S11)))))
set_option maxHeartbeats 4000000 in
set_option maxRecDepth 100000 in
theorem tWI_put (l : Launch) (dC : Nat → ClassId) (dI : Nat → Nat → Nat) (cI cZ cJ cA : ClassId) (a0 : Array Value) (s0 : State) (o b : Nat → Nat) (P S : ZS) (sz : Nat) (x0 : Int32) (x1 : Int32) (gP : cok P) (gS : cok S) (r_x0 : zr 0 119 x0) (qck_x1 : zck x1) : Met l yWI_put [Cond.code yWI_put bWI_put 4 none] ({ frames := 0, cells := 0, slots := 0, locals := 0 } : Room) (zP zCl dC dI (zTZ cI cZ cJ cA) a0 s0 [.ref (o 2), .int x0, .int x1] sz (CW cI cZ cA o b P S)) (zQG zCl dC dI (fun (x9 : ZS) => x9 = fWI_put P S x0 x1 ∧ cok x9) (fun x9 : ZS => (CW cI cZ cA o b P x9)) (va_A (CW cI cZ cA o b P S) sz)) 0 0 (va_A (CW cI cZ cA o b P S) sz) := by
  refine Met.ofW (cc := bWI_put) (maxL := 4) (ret := none) (by decide) rfl ?_
  intro p e s m args below meth c s₁ B hml hv
  obtain ⟨rfl, hsz, hP, hK, hD0, hB⟩ := hv
  have hx := B.exec
  have hb := B.bytes
  have hr := B.returns
  have hown : s.vm.findClass "RingGuard$Wires" = some m.cls := findClass_of_methodNamed B.named
  have hlocks := B.notSynchronized
  subst hsz
  have hD := hD0.self (sz := s.heap.size)
  have hA0 := zA0 hD0 hB
  generalize hAe : va_A (CW cI cZ cA o b P S) s.heap.size = A at hD hA0 ⊢
  have hAD := hA0
  have hA : ∀ q : Nat, s.heap.size ≤ q → A q := fun q h => by rw [← hAe]; exact Or.inr h
  have hS : va_S A s.heap s.heap [] := va_S.rf
  have hl := lv_entry ([.ref (o 2), .int x0, .int x1]) (n := 4) (Nat.le_of_ble_eq_true rfl)
  rw [lg_entry_eq]
  generalize (lg_sl ([.ref (o 2), .int x0, .int x1]) ++ List.replicate (4 - (lg_sl ([.ref (o 2), .int x0, .int x1])).length) Slot.unset).toArray = ls at hl ⊢
  have hl : lv_has ls 4 [(0, .ref (o 2)), (1, .int x0), (2, .int x1)] := hl
  refine zgenQ (fun Q hQe => ?_)
  obtain ⟨tg, etg⟩ : ∃ z, z = fWI_put P S x0 x1 := ⟨_, rfl⟩
  have E := etg
  unfold fWI_put at E
  refine lv_aload_n hx hb dWI_put_0 rfl (lv_at hl 0 rfl) ?_
  refine c_getA_12 hx hb (hB.words zU_WI) hown hK hP (hB.word (zm1 k1_93) rfl) dWI_put_1 ?_
  refine lv_iload_n hx hb dWI_put_4 rfl (lv_at hl 1 rfl) ?_
  refine c_aldS hx hb hK hP 12 (by decide) rfl r_x0 (by decide) dWI_put_5 E (fun k1 ek1 E => ?_)
  have r_k1 : zr 0 64 k1 := by rw [ek1]; exact gS.1 12 _
  refine lv_istore_n (lv' := [(3, .int k1), (0, .ref (o 2)), (1, .int x0), (2, .int x1)]) hx hb dWI_put_6 rfl hl (by decide) rfl (fun ls hl => ?_)
  refine lv_iload_n hx hb dWI_put_7 rfl (lv_at hl 0 rfl) ?_
  refine lv_bipush (v := 64) hx hb dWI_put_8 (by decide) ?_
  refine z_icmp_lt (tgt := 24) hx hb dWI_put_10 (by decide) E (fun c_10 E => ?_) (fun c_10 E => ?_)
  · have r_k1 : zr 0 63 k1 := zlt_x r_k1 (show zr 64 64 64 from by decide) c_10 (by decide)
    refine lv_aload_n hx hb dWI_put_24 rfl (lv_at hl 1 rfl) ?_
    refine c_getA_11 hx hb (hB.words zU_WI) hown hK hP (hB.word (zm1 k1_92) rfl) dWI_put_25 ?_
    refine lv_iload_n hx hb dWI_put_28 rfl (lv_at hl 2 rfl) ?_
    refine lv_bipush (v := 64) hx hb dWI_put_29 (by decide) ?_
    refine z_imul hx hb dWI_put_31 E (fun k2 ek2 E => ?_)
    have r_k2 : zr 0 7616 k2 := zr_mul r_x0 (show zr 64 64 64 from by decide) ek2 (by decide)
    refine lv_iload_n hx hb dWI_put_32 rfl (lv_at hl 0 rfl) ?_
    refine z_iadd hx hb dWI_put_33 E (fun k3 ek3 E => ?_)
    have r_k3 : zr 0 7679 k3 := zr_add r_k2 r_k1 ek3 (by decide)
    refine lv_iload_n hx hb dWI_put_34 rfl (lv_at hl 3 rfl) ?_
    refine c_astS hx hb hK hP hD hS 11 (by decide) rfl r_k3 (by decide) dWI_put_35 E (fun S4 H5 locs eS4 E hP hD hS => ?_)
    have gS4 : cok S4 := by rw [eS4]; exact gS.setF (k := 11) (zr_any x1) (Or.inr qck_x1)
    refine lv_aload_n hx hb dWI_put_36 rfl (lv_at hl 1 rfl) ?_
    refine c_getA_12 hx hb (hB.words zU_WI) hown hK hP (hB.word (zm1 k1_93) rfl) dWI_put_37 ?_
    refine lv_iload_n hx hb dWI_put_40 rfl (lv_at hl 2 rfl) ?_
    refine lv_iload_n hx hb dWI_put_41 rfl (lv_at hl 0 rfl) ?_
    refine lv_iconst (v := 1) hx hb dWI_put_42 (by decide) ?_
    refine z_iadd hx hb dWI_put_43 E (fun k6 ek6 E => ?_)
    have r_k6 : zr 1 64 k6 := zr_add r_k1 (show zr 1 1 1 from by decide) ek6 (by decide)
    refine c_astS hx hb hK hP hD hS 12 (by decide) rfl r_x0 (by decide) dWI_put_44 E (fun S7 H8 locs eS7 E hP hD hS => ?_)
    have gS7 : cok S7 := by rw [eS7]; exact gS4.setF (k := 12) (zr_mono r_k6 (by decide)) (Or.inl (by decide))
    rw [hQe]
    exact W.vret hx hb hr (fun t ht hW => ⟨⟨S7, rfl, ⟨E.symm.trans etg, gS7⟩, by rw [ht]; exact hP, hD⟩, hS.F ht⟩) hS.2.2 dWI_put_45
  · have r_k1 : zr 64 64 k1 := zle_y (show zr 64 64 64 from by decide) r_k1 (znlt c_10) (by decide)
    refine lv_aload_n hx hb dWI_put_13 rfl (lv_at hl 1 rfl) ?_
    refine lv_dup hx hb dWI_put_14 rfl ?_
    refine c_get_9 hx hb (hB.words zU_WI) hown hK hP (hB.word (zm1 k1_96) rfl) dWI_put_15 E (fun k9 ek9 E => ?_)
    refine lv_iconst (v := 1) hx hb dWI_put_18 (by decide) ?_
    refine z_iadd hx hb dWI_put_19 E (fun k10 ek10 E => ?_)
    refine c_put_9 hx hb (hB.words zU_WI) hown hK hP hD hS (hB.word (zm1 k1_96) rfl) dWI_put_20 E (fun S11 H12 locs eS11 E hP hD hS => ?_)
    have gS11 : cok S11 := by rw [eS11]; exact gS.setI (t := 9) (zr_any k10)
    rw [hQe]
    exact W.vret hx hb hr (fun t ht hW => ⟨⟨S11, rfl, ⟨E.symm.trans etg, gS11⟩, by rw [ht]; exact hP, hD⟩, hS.F ht⟩) hS.2.2 dWI_put_23
noncomputable def fWI_countArriving (P S : ZS) (x0 : Int32) : Int32 := zl (S.F 10 (x0 : Int32).toNatClampNeg) (fun k1 => k1)
set_option maxHeartbeats 4000000 in
set_option maxRecDepth 100000 in
theorem tWI_countArriving (l : Launch) (dC : Nat → ClassId) (dI : Nat → Nat → Nat) (cI cZ cJ cA : ClassId) (a0 : Array Value) (s0 : State) (o b : Nat → Nat) (P S : ZS) (sz : Nat) (x0 : Int32) (gP : cok P) (gS : cok S) (r_x0 : zr 0 119 x0) : Met l yWI_countArriving [Cond.code yWI_countArriving bWI_countArriving 2 (some .int)] ({ frames := 0, cells := 0, slots := 0, locals := 0 } : Room) (zP zCl dC dI (zTZ cI cZ cJ cA) a0 s0 [.ref (o 2), .int x0] sz (CW cI cZ cA o b P S)) (zQp (fun r => r = fWI_countArriving P S x0 ∧ zr 0 64 r) sz) 0 0 (zN sz) := by
  refine Met.ofW (cc := bWI_countArriving) (maxL := 2) (ret := (some .int)) (by decide) rfl ?_
  intro p e s m args below meth c s₁ B hml hv
  obtain ⟨rfl, hsz, hP, hK, hD0, hB⟩ := hv
  have hx := B.exec
  have hb := B.bytes
  have hr := B.returns
  have hown : s.vm.findClass "RingGuard$Wires" = some m.cls := findClass_of_methodNamed B.named
  have hlocks := B.notSynchronized
  subst hsz
  have hD := hD0
  have hA0 : ∀ q, zN s.heap.size q → s0.heap.size ≤ q := zA1 hB
  have hAD : ∀ q, zN s0.heap.size q → s0.heap.size ≤ q := fun _ h => h
  have hA : ∀ q : Nat, s.heap.size ≤ q → zN s.heap.size q := fun _ h => h
  have hS : va_S (zN s.heap.size) s.heap s.heap [] := va_S.rf
  have hl := lv_entry ([.ref (o 2), .int x0]) (n := 2) (Nat.le_of_ble_eq_true rfl)
  rw [lg_entry_eq]
  generalize (lg_sl ([.ref (o 2), .int x0]) ++ List.replicate (2 - (lg_sl ([.ref (o 2), .int x0])).length) Slot.unset).toArray = ls at hl ⊢
  have hl : lv_has ls 2 [(0, .ref (o 2)), (1, .int x0)] := hl
  refine zgenQ (fun Q hQe => ?_)
  obtain ⟨tg, etg⟩ : ∃ z, z = fWI_countArriving P S x0 := ⟨_, rfl⟩
  have E := etg
  unfold fWI_countArriving at E
  refine lv_aload_n hx hb dWI_countArriving_0 rfl (lv_at hl 0 rfl) ?_
  refine c_getA_10 hx hb (hB.words zU_WI) hown hK hP (hB.word (zm1 k1_91) rfl) dWI_countArriving_1 ?_
  refine lv_iload_n hx hb dWI_countArriving_4 rfl (lv_at hl 1 rfl) ?_
  refine c_aldS hx hb hK hP 10 (by decide) rfl r_x0 (by decide) dWI_countArriving_5 E (fun k1 ek1 E => ?_)
  have r_k1 : zr 0 64 k1 := by rw [ek1]; exact gS.1 10 _
  rw [hQe]
  exact W.iret (v := k1) hx hb hr (fun t ht hW => ⟨⟨k1, (), rfl, ⟨E.symm.trans etg, r_k1⟩, trivial⟩, hS.F ht⟩) hS.2.2 dWI_countArriving_6
noncomputable def fWI_arrivingCast (P S : ZS) (x0 : Int32) (x1 : Int32) : Int32 := zl (x0 * 64) (fun k1 => zl (k1 + x1) (fun k2 => zl (S.F 9 (k2 : Int32).toNatClampNeg) (fun k3 => k3)))
set_option maxHeartbeats 4000000 in
set_option maxRecDepth 100000 in
theorem tWI_arrivingCast (l : Launch) (dC : Nat → ClassId) (dI : Nat → Nat → Nat) (cI cZ cJ cA : ClassId) (a0 : Array Value) (s0 : State) (o b : Nat → Nat) (P S : ZS) (sz : Nat) (x0 : Int32) (x1 : Int32) (gP : cok P) (gS : cok S) (r_x0 : zr 0 119 x0) (r_x1 : zr 0 63 x1) : Met l yWI_arrivingCast [Cond.code yWI_arrivingCast bWI_arrivingCast 3 (some .int)] ({ frames := 0, cells := 0, slots := 0, locals := 0 } : Room) (zP zCl dC dI (zTZ cI cZ cJ cA) a0 s0 [.ref (o 2), .int x0, .int x1] sz (CW cI cZ cA o b P S)) (zQp (fun r => r = fWI_arrivingCast P S x0 x1 ∧ True ∧ (zck r) ∧ (r = -1 ∨ zck r)) sz) 0 0 (zN sz) := by
  refine Met.ofW (cc := bWI_arrivingCast) (maxL := 3) (ret := (some .int)) (by decide) rfl ?_
  intro p e s m args below meth c s₁ B hml hv
  obtain ⟨rfl, hsz, hP, hK, hD0, hB⟩ := hv
  have hx := B.exec
  have hb := B.bytes
  have hr := B.returns
  have hown : s.vm.findClass "RingGuard$Wires" = some m.cls := findClass_of_methodNamed B.named
  have hlocks := B.notSynchronized
  subst hsz
  have hD := hD0
  have hA0 : ∀ q, zN s.heap.size q → s0.heap.size ≤ q := zA1 hB
  have hAD : ∀ q, zN s0.heap.size q → s0.heap.size ≤ q := fun _ h => h
  have hA : ∀ q : Nat, s.heap.size ≤ q → zN s.heap.size q := fun _ h => h
  have hS : va_S (zN s.heap.size) s.heap s.heap [] := va_S.rf
  have hl := lv_entry ([.ref (o 2), .int x0, .int x1]) (n := 3) (Nat.le_of_ble_eq_true rfl)
  rw [lg_entry_eq]
  generalize (lg_sl ([.ref (o 2), .int x0, .int x1]) ++ List.replicate (3 - (lg_sl ([.ref (o 2), .int x0, .int x1])).length) Slot.unset).toArray = ls at hl ⊢
  have hl : lv_has ls 3 [(0, .ref (o 2)), (1, .int x0), (2, .int x1)] := hl
  refine zgenQ (fun Q hQe => ?_)
  obtain ⟨tg, etg⟩ : ∃ z, z = fWI_arrivingCast P S x0 x1 := ⟨_, rfl⟩
  have E := etg
  unfold fWI_arrivingCast at E
  refine lv_aload_n hx hb dWI_arrivingCast_0 rfl (lv_at hl 0 rfl) ?_
  refine c_getA_9 hx hb (hB.words zU_WI) hown hK hP (hB.word (zm1 k1_90) rfl) dWI_arrivingCast_1 ?_
  refine lv_iload_n hx hb dWI_arrivingCast_4 rfl (lv_at hl 1 rfl) ?_
  refine lv_bipush (v := 64) hx hb dWI_arrivingCast_5 (by decide) ?_
  refine z_imul hx hb dWI_arrivingCast_7 E (fun k1 ek1 E => ?_)
  have r_k1 : zr 0 7616 k1 := zr_mul r_x0 (show zr 64 64 64 from by decide) ek1 (by decide)
  refine lv_iload_n hx hb dWI_arrivingCast_8 rfl (lv_at hl 2 rfl) ?_
  refine z_iadd hx hb dWI_arrivingCast_9 E (fun k2 ek2 E => ?_)
  have r_k2 : zr 0 7679 k2 := zr_add r_k1 r_x1 ek2 (by decide)
  refine c_aldS hx hb hK hP 9 (by decide) rfl r_k2 (by decide) dWI_arrivingCast_10 E (fun k3 ek3 E => ?_)
  have qck_k3 : zck k3 := by rw [ek3]; exact gS.2.2 9 (by decide) _
  rw [hQe]
  exact W.iret (v := k3) hx hb hr (fun t ht hW => ⟨⟨k3, (), rfl, ⟨E.symm.trans etg, trivial, qck_k3, (Or.inr qck_k3)⟩, trivial⟩, hS.F ht⟩) hS.2.2 dWI_arrivingCast_11
noncomputable def fWI_losesOne (P S : ZS) (x0 : Int32) : ZS × Int32 := zl (S.F 13 (x0 : Int32).toNatClampNeg) (fun k1 => (if k1 = 0 then (S, 0) else zl (S.F 13 (x0 : Int32).toNatClampNeg) (fun k2 => zl (k1 - 1) (fun k3 => zl (S.setF 13 (x0 : Int32).toNatClampNeg k3) (fun S4 => zl (S4.I 9) (fun k6 => zl (k6 + 1) (fun k7 => zl (S4.setI 9 k7) (fun S8 => (S8, 1)))))))))
set_option maxHeartbeats 4000000 in
set_option maxRecDepth 100000 in
theorem tWI_losesOne (l : Launch) (dC : Nat → ClassId) (dI : Nat → Nat → Nat) (cI cZ cJ cA : ClassId) (a0 : Array Value) (s0 : State) (o b : Nat → Nat) (P S : ZS) (sz : Nat) (x0 : Int32) (gP : cok P) (gS : cok S) (r_x0 : zr 0 59 x0) : Met l yWI_losesOne [Cond.code yWI_losesOne bWI_losesOne 2 (some .boolean)] ({ frames := 0, cells := 0, slots := 0, locals := 0 } : Room) (zP zCl dC dI (zTZ cI cZ cJ cA) a0 s0 [.ref (o 2), .int x0] sz (CW cI cZ cA o b P S)) (zQH zCl dC dI (fun (r : Int32) (x9 : ZS) => (x9, r) = fWI_losesOne P S x0 ∧ cok x9 ∧ zr 0 1 r) (fun x9 : ZS => (CW cI cZ cA o b P x9)) (va_A (CW cI cZ cA o b P S) sz)) 0 0 (va_A (CW cI cZ cA o b P S) sz) := by
  refine Met.ofW (cc := bWI_losesOne) (maxL := 2) (ret := (some .boolean)) (by decide) rfl ?_
  intro p e s m args below meth c s₁ B hml hv
  obtain ⟨rfl, hsz, hP, hK, hD0, hB⟩ := hv
  have hx := B.exec
  have hb := B.bytes
  have hr := B.returns
  have hown : s.vm.findClass "RingGuard$Wires" = some m.cls := findClass_of_methodNamed B.named
  have hlocks := B.notSynchronized
  subst hsz
  have hD := hD0.self (sz := s.heap.size)
  have hA0 := zA0 hD0 hB
  generalize hAe : va_A (CW cI cZ cA o b P S) s.heap.size = A at hD hA0 ⊢
  have hAD := hA0
  have hA : ∀ q : Nat, s.heap.size ≤ q → A q := fun q h => by rw [← hAe]; exact Or.inr h
  have hS : va_S A s.heap s.heap [] := va_S.rf
  have hl := lv_entry ([.ref (o 2), .int x0]) (n := 2) (Nat.le_of_ble_eq_true rfl)
  rw [lg_entry_eq]
  generalize (lg_sl ([.ref (o 2), .int x0]) ++ List.replicate (2 - (lg_sl ([.ref (o 2), .int x0])).length) Slot.unset).toArray = ls at hl ⊢
  have hl : lv_has ls 2 [(0, .ref (o 2)), (1, .int x0)] := hl
  refine zgenQ (fun Q hQe => ?_)
  obtain ⟨tg, etg⟩ : ∃ z, z = fWI_losesOne P S x0 := ⟨_, rfl⟩
  have E := etg
  unfold fWI_losesOne at E
  refine lv_aload_n hx hb dWI_losesOne_0 rfl (lv_at hl 0 rfl) ?_
  refine c_getA_13 hx hb (hB.words zU_WI) hown hK hP (hB.word (zm1 k1_94) rfl) dWI_losesOne_1 ?_
  refine lv_iload_n hx hb dWI_losesOne_4 rfl (lv_at hl 1 rfl) ?_
  refine c_aldS hx hb hK hP 13 (by decide) rfl r_x0 (by decide) dWI_losesOne_5 E (fun k1 ek1 E => ?_)
  refine z_if_ne (tgt := 11) hx hb dWI_losesOne_6 (by decide) E (fun c_6 E => ?_) (fun c_6 E => ?_)
  · refine lv_aload_n hx hb dWI_losesOne_11 rfl (lv_at hl 0 rfl) ?_
    refine c_getA_13 hx hb (hB.words zU_WI) hown hK hP (hB.word (zm1 k1_94) rfl) dWI_losesOne_12 ?_
    refine lv_iload_n hx hb dWI_losesOne_15 rfl (lv_at hl 1 rfl) ?_
    refine lv_dup2_11 hx hb dWI_losesOne_16 rfl rfl ?_
    refine c_aldS hx hb hK hP 13 (by decide) rfl r_x0 (by decide) dWI_losesOne_17 E (fun k2 ek2 E => ?_)
    have x9 : k1 = k2 := by rw [ek1, ek2]
    subst x9
    refine lv_iconst (v := 1) hx hb dWI_losesOne_18 (by decide) ?_
    refine z_isub hx hb dWI_losesOne_19 E (fun k3 ek3 E => ?_)
    refine c_astS hx hb hK hP hD hS 13 (by decide) rfl r_x0 (by decide) dWI_losesOne_20 E (fun S4 H5 locs eS4 E hP hD hS => ?_)
    have gS4 : cok S4 := by rw [eS4]; exact gS.setF (k := 13) (zr_any k3) (Or.inl (by decide))
    refine lv_aload_n hx hb dWI_losesOne_21 rfl (lv_at hl 0 rfl) ?_
    refine lv_dup hx hb dWI_losesOne_22 rfl ?_
    refine c_get_9 hx hb (hB.words zU_WI) hown hK hP (hB.word (zm1 k1_96) rfl) dWI_losesOne_23 E (fun k6 ek6 E => ?_)
    refine lv_iconst (v := 1) hx hb dWI_losesOne_26 (by decide) ?_
    refine z_iadd hx hb dWI_losesOne_27 E (fun k7 ek7 E => ?_)
    refine c_put_9 hx hb (hB.words zU_WI) hown hK hP hD hS (hB.word (zm1 k1_96) rfl) dWI_losesOne_28 E (fun S8 H9 locs eS8 E hP hD hS => ?_)
    have gS8 : cok S8 := by rw [eS8]; exact gS4.setI (t := 9) (zr_any k7)
    refine lv_iconst (v := 1) hx hb dWI_losesOne_31 (by decide) ?_
    rw [hQe]
    exact W.zret (v := 1) (ty := .boolean) hx hb hr (znar (show zr 0 1 1 from by decide)) (fun t ht hW => ⟨⟨1, S8, rfl, ⟨E.symm.trans etg, gS8, (show zr 0 1 1 from by decide)⟩, by rw [ht]; exact hP, hD⟩, hS.F ht⟩) hS.2.2 dWI_losesOne_32
  · have r_k1 : zr 0 0 k1 := zeq_x (show zr 0 0 0 from by decide) c_6
    refine lv_iconst (v := 0) hx hb dWI_losesOne_9 (by decide) ?_
    rw [hQe]
    exact W.zret (v := 0) (ty := .boolean) hx hb hr (znar (show zr 0 1 0 from by decide)) (fun t ht hW => ⟨⟨0, S, rfl, ⟨E.symm.trans etg, gS, (show zr 0 1 0 from by decide)⟩, by rw [ht]; exact hP, hD⟩, hS.F ht⟩) hS.2.2 dWI_losesOne_10
noncomputable def fWI_countOnLinks_4 (P : ZS) (S : ZS) (rc4 : Int32 → Int32 → (Int32)) (x4_1 : Int32) (x4_2 : Int32) : Int32 := (if 120 ≤ x4_2 then x4_1 else zl (S.F 12 (x4_2 : Int32).toNatClampNeg) (fun k1 => zl (x4_1 + k1) (fun k2 => zl (x4_2 + 1) (fun k3 => rc4 k2 k3))))
noncomputable def fWI_countOnLinks (P S : ZS) : Int32 := zfix (fun _ _ => 0) (fWI_countOnLinks_4 P S) 121 0 0
set_option maxHeartbeats 4000000 in
set_option maxRecDepth 100000 in
theorem tWI_countOnLinks (l : Launch) (dC : Nat → ClassId) (dI : Nat → Nat → Nat) (cI cZ cJ cA : ClassId) (a0 : Array Value) (s0 : State) (o b : Nat → Nat) (P S : ZS) (sz : Nat) (gP : cok P) (gS : cok S) : Met l yWI_countOnLinks [Cond.code yWI_countOnLinks bWI_countOnLinks 3 (some .int)] ({ frames := 0, cells := 0, slots := 0, locals := 0 } : Room) (zP zCl dC dI (zTZ cI cZ cJ cA) a0 s0 [.ref (o 2)] sz (CW cI cZ cA o b P S)) (zQp (fun r => r = fWI_countOnLinks P S  ∧ True) sz) 0 0 (zN sz) := by
  refine Met.ofW (cc := bWI_countOnLinks) (maxL := 3) (ret := (some .int)) (by decide) rfl ?_
  intro p e s m args below meth c s₁ B hml hv
  obtain ⟨rfl, hsz, hP, hK, hD0, hB⟩ := hv
  have hx := B.exec
  have hb := B.bytes
  have hr := B.returns
  have hown : s.vm.findClass "RingGuard$Wires" = some m.cls := findClass_of_methodNamed B.named
  have hlocks := B.notSynchronized
  subst hsz
  have hD := hD0
  have hA0 : ∀ q, zN s.heap.size q → s0.heap.size ≤ q := zA1 hB
  have hAD : ∀ q, zN s0.heap.size q → s0.heap.size ≤ q := fun _ h => h
  have hA : ∀ q : Nat, s.heap.size ≤ q → zN s.heap.size q := fun _ h => h
  have hS : va_S (zN s.heap.size) s.heap s.heap [] := va_S.rf
  have hl := lv_entry ([.ref (o 2)]) (n := 3) (Nat.le_of_ble_eq_true rfl)
  rw [lg_entry_eq]
  generalize (lg_sl ([.ref (o 2)]) ++ List.replicate (3 - (lg_sl ([.ref (o 2)])).length) Slot.unset).toArray = ls at hl ⊢
  have hl : lv_has ls 3 [(0, .ref (o 2))] := hl
  refine zgenQ (fun Q hQe => ?_)
  obtain ⟨tg, etg⟩ : ∃ z, z = fWI_countOnLinks P S  := ⟨_, rfl⟩
  have E := etg
  unfold fWI_countOnLinks at E
  have hL4 : ∀ (n4 : Nat) (H : Heap) (locs : List Loc) (ls : Array Slot) (x4_1 : Int32) (x4_2 : Int32), zr 0 120 x4_2 → 120 + 1 - x4_2.toInt ≤ (n4 : Int) → tg = zfix (fun _ _ => 0) (fWI_countOnLinks_4 P S) n4 x4_1 x4_2 → va_P (dC, dI) zCl (CW cI cZ cA o b P S) H → va_S (zN s.heap.size) s.heap H locs → lv_has ls 3 [(0, .ref (o 2)), (1, .int x4_1), (2, .int x4_2)] → W p l e ({ frames := 0, cells := 0, slots := 0, locals := 0 } : Room) s m ([.ref (o 2)] : List Value).toArray below meth c H locs 0 0 Q (F0 m 4 ls []) := by
    intro n4
    induction n4 with
    | zero => intro H locs ls x4_1 x4_2 r_x4_2 hm4 E hP hS hl; exact absurd hm4 (zfuel0U r_x4_2)
    | succ n4 ih4 =>
      intro H locs ls x4_1 x4_2 r_x4_2 hm4 E hP hS hl
      rw [zfix_s] at E
      generalize zfix (fun _ _ => 0) (fWI_countOnLinks_4 P S) n4 = rc4 at ih4 E
      unfold fWI_countOnLinks_4 at E
      refine lv_iload_n hx hb dWI_countOnLinks_4 rfl (lv_at hl 2 rfl) ?_
      refine lv_bipush (v := 120) hx hb dWI_countOnLinks_5 (by decide) ?_
      refine z_icmp_ge (tgt := 25) hx hb dWI_countOnLinks_7 (by decide) E (fun c_7 E => ?_) (fun c_7 E => ?_)
      · have r_x4_2 : zr 120 120 x4_2 := zle_y (show zr 120 120 120 from by decide) r_x4_2 c_7 (by decide)
        refine lv_iload_n hx hb dWI_countOnLinks_25 rfl (lv_at hl 1 rfl) ?_
        rw [hQe]
        exact W.iret (v := x4_1) hx hb hr (fun t ht hW => ⟨⟨x4_1, (), rfl, ⟨E.symm.trans etg, trivial⟩, trivial⟩, hS.F ht⟩) hS.2.2 dWI_countOnLinks_26
      · have r_x4_2 : zr 0 119 x4_2 := zlt_x r_x4_2 (show zr 120 120 120 from by decide) (znle c_7) (by decide)
        refine lv_iload_n hx hb dWI_countOnLinks_10 rfl (lv_at hl 1 rfl) ?_
        refine lv_aload_n hx hb dWI_countOnLinks_11 rfl (lv_at hl 0 rfl) ?_
        refine c_getA_12 hx hb (hB.words zU_WI) hown hK hP (hB.word (zm1 k1_93) rfl) dWI_countOnLinks_12 ?_
        refine lv_iload_n hx hb dWI_countOnLinks_15 rfl (lv_at hl 2 rfl) ?_
        refine c_aldS hx hb hK hP 12 (by decide) rfl r_x4_2 (by decide) dWI_countOnLinks_16 E (fun k1 ek1 E => ?_)
        have r_k1 : zr 0 64 k1 := by rw [ek1]; exact gS.1 12 _
        refine z_iadd hx hb dWI_countOnLinks_17 E (fun k2 ek2 E => ?_)
        refine lv_istore_n (lv' := [(1, .int k2), (0, .ref (o 2)), (2, .int x4_2)]) hx hb dWI_countOnLinks_18 rfl hl (by decide) rfl (fun ls hl => ?_)
        refine z_iinc (lv' := fun v9 => [(2, .int v9), (1, .int k2), (0, .ref (o 2))]) (cst := 1) hx hb dWI_countOnLinks_19 hl (k := 2) rfl (by decide) (by decide) (fun _ => rfl) E (fun k3 ls ek3 E hl => ?_)
        have r_k3 : zr 1 120 k3 := zr_add r_x4_2 (show zr 1 1 1 from by decide) ek3 (by decide)
        refine lv_goto (tgt := 4) hx hb dWI_countOnLinks_22 (by decide) ?_
        exact ih4 H locs ls k2 k3 (zr_mono r_k3 (by decide)) (zstepU ek3 r_x4_2 (by decide) hm4) E hP hS (lv_sub hl [2, 1, 0] rfl)
  refine lv_iconst (v := 0) hx hb dWI_countOnLinks_0 (by decide) ?_
  refine lv_istore_n (lv' := [(1, .int 0), (0, .ref (o 2))]) hx hb dWI_countOnLinks_1 rfl hl (by decide) rfl (fun ls hl => ?_)
  refine lv_iconst (v := 0) hx hb dWI_countOnLinks_2 (by decide) ?_
  refine lv_istore_n (lv' := [(2, .int 0), (1, .int 0), (0, .ref (o 2))]) hx hb dWI_countOnLinks_3 rfl hl (by decide) rfl (fun ls hl => ?_)
  exact hL4 121 s.heap [] ls 0 0 (show zr 0 120 0 from by decide) (by have h9 := (show zr 0 0 0 from by decide); exact zfuelU h9 (by decide)) E hP hS (lv_sub hl [2, 1, 0] rfl)
noncomputable def fTA_learn (P S : ZS) (x0 : Int32) (x1 : Int32) (x2 : Int32) (x3 : Int32) (x4 : Int32) : ZS := zl (x1 * 64) (fun k1 => zl (k1 + x2) (fun k2 => zl (x4 * 60) (fun k3 => zl (k3 + x3) (fun k4 => zl (S.setF (28 + (x0 : Int32).toNatClampNeg) (k2 : Int32).toNatClampNeg k4) (fun S5 => S5)))))
set_option maxHeartbeats 4000000 in
set_option maxRecDepth 100000 in
theorem tTA_learn (l : Launch) (dC : Nat → ClassId) (dI : Nat → Nat → Nat) (cI cZ cJ cA : ClassId) (a0 : Array Value) (s0 : State) (o b : Nat → Nat) (P S : ZS) (sz : Nat) (x0 : Int32) (x1 : Int32) (x2 : Int32) (x3 : Int32) (x4 : Int32) (gP : cok P) (gS : cok S) (r_x0 : zr 0 47 x0) (r_x1 : zr 0 3 x1) (r_x2 : zr 0 63 x2) : Met l yTA_learn [Cond.code yTA_learn bTA_learn 6 none] ({ frames := 0, cells := 0, slots := 0, locals := 0 } : Room) (zP zCl dC dI (zTZ cI cZ cJ cA) a0 s0 [.ref (o 3), .int x0, .int x1, .int x2, .int x3, .int x4] sz (CW cI cZ cA o b P S)) (zQG zCl dC dI (fun (x9 : ZS) => x9 = fTA_learn P S x0 x1 x2 x3 x4 ∧ cok x9) (fun x9 : ZS => (CW cI cZ cA o b P x9)) (va_A (CW cI cZ cA o b P S) sz)) 0 0 (va_A (CW cI cZ cA o b P S) sz) := by
  refine Met.ofW (cc := bTA_learn) (maxL := 6) (ret := none) (by decide) rfl ?_
  intro p e s m args below meth c s₁ B hml hv
  obtain ⟨rfl, hsz, hP, hK, hD0, hB⟩ := hv
  have hx := B.exec
  have hb := B.bytes
  have hr := B.returns
  have hown : s.vm.findClass "RingGuard$Tables" = some m.cls := findClass_of_methodNamed B.named
  have hlocks := B.notSynchronized
  subst hsz
  have hD := hD0.self (sz := s.heap.size)
  have hA0 := zA0 hD0 hB
  generalize hAe : va_A (CW cI cZ cA o b P S) s.heap.size = A at hD hA0 ⊢
  have hAD := hA0
  have hA : ∀ q : Nat, s.heap.size ≤ q → A q := fun q h => by rw [← hAe]; exact Or.inr h
  have hS : va_S A s.heap s.heap [] := va_S.rf
  have hl := lv_entry ([.ref (o 3), .int x0, .int x1, .int x2, .int x3, .int x4]) (n := 6) (Nat.le_of_ble_eq_true rfl)
  rw [lg_entry_eq]
  generalize (lg_sl ([.ref (o 3), .int x0, .int x1, .int x2, .int x3, .int x4]) ++ List.replicate (6 - (lg_sl ([.ref (o 3), .int x0, .int x1, .int x2, .int x3, .int x4])).length) Slot.unset).toArray = ls at hl ⊢
  have hl : lv_has ls 6 [(0, .ref (o 3)), (1, .int x0), (2, .int x1), (3, .int x2), (4, .int x3), (5, .int x4)] := hl
  refine zgenQ (fun Q hQe => ?_)
  obtain ⟨tg, etg⟩ : ∃ z, z = fTA_learn P S x0 x1 x2 x3 x4 := ⟨_, rfl⟩
  have E := etg
  unfold fTA_learn at E
  refine lv_aload_n hx hb dTA_learn_0 rfl (lv_at hl 0 rfl) ?_
  refine c_getO_TA_entries hx hb (hB.words zU_TA) hown hK hP (hB.word (zm1 k1_120) rfl) dTA_learn_1 ?_
  refine lv_iload_n hx hb dTA_learn_4 rfl (lv_at hl 1 rfl) ?_
  refine c_aald hx hb hK hP r_x0 (by decide) dTA_learn_5 ?_
  refine lv_iload_n hx hb dTA_learn_6 rfl (lv_at hl 2 rfl) ?_
  refine lv_bipush (v := 64) hx hb dTA_learn_7 (by decide) ?_
  refine z_imul hx hb dTA_learn_9 E (fun k1 ek1 E => ?_)
  have r_k1 : zr 0 192 k1 := zr_mul r_x1 (show zr 64 64 64 from by decide) ek1 (by decide)
  refine lv_iload_n hx hb dTA_learn_10 rfl (lv_at hl 3 rfl) ?_
  refine z_iadd hx hb dTA_learn_11 E (fun k2 ek2 E => ?_)
  have r_k2 : zr 0 255 k2 := zr_add r_k1 r_x2 ek2 (by decide)
  refine lv_iload hx hb dTA_learn_12 (lv_at hl 5 rfl) ?_
  refine lv_bipush (v := 60) hx hb dTA_learn_14 (by decide) ?_
  refine z_imul hx hb dTA_learn_16 E (fun k3 ek3 E => ?_)
  refine lv_iload hx hb dTA_learn_17 (lv_at hl 4 rfl) ?_
  refine z_iadd hx hb dTA_learn_19 E (fun k4 ek4 E => ?_)
  refine c_astR hx hb hK hP hD hS (zrow r_x0 (by decide)) r_k2 (by decide) dTA_learn_20 E (fun S5 H6 locs eS5 E hP hD hS => ?_)
  have gS5 : cok S5 := by rw [eS5]; exact zokR gS (zrow r_x0 (by decide))
  rw [hQe]
  exact W.vret hx hb hr (fun t ht hW => ⟨⟨S5, rfl, ⟨E.symm.trans etg, gS5⟩, by rw [ht]; exact hP, hD⟩, hS.F ht⟩) hS.2.2 dTA_learn_21
noncomputable def fTA_linkTo_35 (P : ZS) (S : ZS) : Int32 := (-1)
noncomputable def fTA_linkTo (P S : ZS) (x0 : Int32) (x1 : Int32) (x2 : Int32) (x3 : Int32) : Int32 := zl (x1 * 64) (fun k1 => zl (k1 + x2) (fun k2 => zl (S.F (28 + (x0 : Int32).toNatClampNeg) (k2 : Int32).toNatClampNeg) (fun k3 => (if k3 = (-1) then fTA_linkTo_35 P S else zl (k3 / 60) (fun k4 => zl (x3 - k4) (fun k5 => (if k5 < 300 then zl (k3 - k3 / 60 * 60) (fun k6 => k6) else fTA_linkTo_35 P S)))))))
set_option maxHeartbeats 4000000 in
set_option maxRecDepth 100000 in
theorem tTA_linkTo (l : Launch) (dC : Nat → ClassId) (dI : Nat → Nat → Nat) (cI cZ cJ cA : ClassId) (a0 : Array Value) (s0 : State) (o b : Nat → Nat) (P S : ZS) (sz : Nat) (x0 : Int32) (x1 : Int32) (x2 : Int32) (x3 : Int32) (gP : cok P) (gS : cok S) (r_x0 : zr 0 47 x0) (r_x1 : zr 0 3 x1) (r_x2 : zr 0 63 x2) : Met l yTA_linkTo [Cond.code yTA_linkTo bTA_linkTo 6 (some .int)] ({ frames := 0, cells := 0, slots := 0, locals := 0 } : Room) (zP zCl dC dI (zTZ cI cZ cJ cA) a0 s0 [.ref (o 3), .int x0, .int x1, .int x2, .int x3] sz (CW cI cZ cA o b P S)) (zQp (fun r => r = fTA_linkTo P S x0 x1 x2 x3 ∧ True) sz) 0 0 (zN sz) := by
  refine Met.ofW (cc := bTA_linkTo) (maxL := 6) (ret := (some .int)) (by decide) rfl ?_
  intro p e s m args below meth c s₁ B hml hv
  obtain ⟨rfl, hsz, hP, hK, hD0, hB⟩ := hv
  have hx := B.exec
  have hb := B.bytes
  have hr := B.returns
  have hown : s.vm.findClass "RingGuard$Tables" = some m.cls := findClass_of_methodNamed B.named
  have hlocks := B.notSynchronized
  subst hsz
  have hD := hD0
  have hA0 : ∀ q, zN s.heap.size q → s0.heap.size ≤ q := zA1 hB
  have hAD : ∀ q, zN s0.heap.size q → s0.heap.size ≤ q := fun _ h => h
  have hA : ∀ q : Nat, s.heap.size ≤ q → zN s.heap.size q := fun _ h => h
  have hS : va_S (zN s.heap.size) s.heap s.heap [] := va_S.rf
  have hl := lv_entry ([.ref (o 3), .int x0, .int x1, .int x2, .int x3]) (n := 6) (Nat.le_of_ble_eq_true rfl)
  rw [lg_entry_eq]
  generalize (lg_sl ([.ref (o 3), .int x0, .int x1, .int x2, .int x3]) ++ List.replicate (6 - (lg_sl ([.ref (o 3), .int x0, .int x1, .int x2, .int x3])).length) Slot.unset).toArray = ls at hl ⊢
  have hl : lv_has ls 6 [(0, .ref (o 3)), (1, .int x0), (2, .int x1), (3, .int x2), (4, .int x3)] := hl
  refine zgenQ (fun Q hQe => ?_)
  obtain ⟨tg, etg⟩ : ∃ z, z = fTA_linkTo P S x0 x1 x2 x3 := ⟨_, rfl⟩
  have E := etg
  unfold fTA_linkTo at E
  have hJ35 : ∀ (H : Heap) (locs : List Loc) (ls : Array Slot), tg = fTA_linkTo_35 P S  → va_P (dC, dI) zCl (CW cI cZ cA o b P S) H → va_S (zN s.heap.size) s.heap H locs → lv_has ls 6 [] → W p l e ({ frames := 0, cells := 0, slots := 0, locals := 0 } : Room) s m ([.ref (o 3), .int x0, .int x1, .int x2, .int x3] : List Value).toArray below meth c H locs 0 0 Q (F0 m 35 ls []) := by
    intro H locs ls E hP hS hl
    unfold fTA_linkTo_35 at E
    refine lv_iconst (v := (-1)) hx hb dTA_linkTo_35 (by decide) ?_
    rw [hQe]
    exact W.iret (v := (-1)) hx hb hr (fun t ht hW => ⟨⟨(-1), (), rfl, ⟨E.symm.trans etg, trivial⟩, trivial⟩, hS.F ht⟩) hS.2.2 dTA_linkTo_36
  refine lv_aload_n hx hb dTA_linkTo_0 rfl (lv_at hl 0 rfl) ?_
  refine c_getO_TA_entries hx hb (hB.words zU_TA) hown hK hP (hB.word (zm1 k1_120) rfl) dTA_linkTo_1 ?_
  refine lv_iload_n hx hb dTA_linkTo_4 rfl (lv_at hl 1 rfl) ?_
  refine c_aald hx hb hK hP r_x0 (by decide) dTA_linkTo_5 ?_
  refine lv_iload_n hx hb dTA_linkTo_6 rfl (lv_at hl 2 rfl) ?_
  refine lv_bipush (v := 64) hx hb dTA_linkTo_7 (by decide) ?_
  refine z_imul hx hb dTA_linkTo_9 E (fun k1 ek1 E => ?_)
  have r_k1 : zr 0 192 k1 := zr_mul r_x1 (show zr 64 64 64 from by decide) ek1 (by decide)
  refine lv_iload_n hx hb dTA_linkTo_10 rfl (lv_at hl 3 rfl) ?_
  refine z_iadd hx hb dTA_linkTo_11 E (fun k2 ek2 E => ?_)
  have r_k2 : zr 0 255 k2 := zr_add r_k1 r_x2 ek2 (by decide)
  refine c_aldR hx hb hK hP (zrow r_x0 (by decide)) r_k2 (by decide) dTA_linkTo_12 E (fun k3 ek3 E => ?_)
  refine lv_istore (lv' := [(5, .int k3), (0, .ref (o 3)), (1, .int x0), (2, .int x1), (3, .int x2), (4, .int x3)]) hx hb dTA_linkTo_13 hl (by decide) rfl (fun ls hl => ?_)
  refine lv_iload hx hb dTA_linkTo_15 (lv_at hl 0 rfl) ?_
  refine lv_iconst (v := (-1)) hx hb dTA_linkTo_17 (by decide) ?_
  refine z_icmp_eq (tgt := 35) hx hb dTA_linkTo_18 (by decide) E (fun c_18 E => ?_) (fun c_18 E => ?_)
  · have r_k3 : zr (-1) (-1) k3 := zeq_x (show zr (-1) (-1) (-1) from by decide) c_18
    exact hJ35 s.heap [] ls  E hP hS (lv_sub hl [] rfl)
  · refine lv_iload hx hb dTA_linkTo_21 (lv_at hl 5 rfl) ?_
    refine lv_iload hx hb dTA_linkTo_23 (lv_at hl 0 rfl) ?_
    refine lv_bipush (v := 60) hx hb dTA_linkTo_25 (by decide) ?_
    refine z_idiv hx hb dTA_linkTo_27 (by decide) E (fun k4 ek4 E => ?_)
    refine z_isub hx hb dTA_linkTo_28 E (fun k5 ek5 E => ?_)
    refine lv_sipush (v := 300) hx hb dTA_linkTo_29 (by decide) ?_
    refine z_icmp_lt (tgt := 37) hx hb dTA_linkTo_32 (by decide) E (fun c_32 E => ?_) (fun c_32 E => ?_)
    · have r_k5 : zr (-2147483648) 299 k5 := zlt_x (zr_any k5) (show zr 300 300 300 from by decide) c_32 (by decide)
      refine lv_iload hx hb dTA_linkTo_37 (lv_at hl 0 rfl) ?_
      refine lv_bipush (v := 60) hx hb dTA_linkTo_39 (by decide) ?_
      refine z_irem hx hb dTA_linkTo_41 (by decide) E (fun k6 ek6 E => ?_)
      rw [hQe]
      exact W.iret (v := k6) hx hb hr (fun t ht hW => ⟨⟨k6, (), rfl, ⟨E.symm.trans etg, trivial⟩, trivial⟩, hS.F ht⟩) hS.2.2 dTA_linkTo_42
    · have r_k5 : zr 300 2147483647 k5 := zle_y (show zr 300 300 300 from by decide) (zr_any k5) (znlt c_32) (by decide)
      exact hJ35 s.heap [] ls  E hP hS (lv_sub hl [] rfl)
noncomputable def fTA_forgetHost_10 (P : ZS) (rc2 : ZS → Int32 → Int32 → (ZS)) (rc10 : ZS → Int32 → Int32 → Int32 → (ZS)) (S_10 : ZS) (x10_1 : Int32) (x10_2 : Int32) (x10_3 : Int32) : ZS := (if 4 ≤ x10_3 then zl (x10_2 + 1) (fun k1 => rc2 S_10 x10_1 k1) else zl (x10_3 * 64) (fun k2 => zl (k2 + x10_1) (fun k3 => zl (S_10.setF (28 + (x10_2 : Int32).toNatClampNeg) (k3 : Int32).toNatClampNeg (-1)) (fun S4 => zl (x10_3 + 1) (fun k6 => rc10 S4 x10_1 x10_2 k6)))))
noncomputable def fTA_forgetHost_2 (P : ZS) (rc2 : ZS → Int32 → Int32 → (ZS)) (S_2 : ZS) (x2_1 : Int32) (x2_2 : Int32) : ZS := (if 48 ≤ x2_2 then S_2 else zfix (fun S9 _ _ _ => S9) (fTA_forgetHost_10 P rc2) 5 S_2 x2_1 x2_2 0)
noncomputable def fTA_forgetHost (P S : ZS) (x0 : Int32) : ZS := zfix (fun S9 _ _ => S9) (fTA_forgetHost_2 P) 49 S x0 0
set_option maxHeartbeats 4000000 in
set_option maxRecDepth 100000 in
theorem tTA_forgetHost (l : Launch) (dC : Nat → ClassId) (dI : Nat → Nat → Nat) (cI cZ cJ cA : ClassId) (a0 : Array Value) (s0 : State) (o b : Nat → Nat) (P S : ZS) (sz : Nat) (x0 : Int32) (gP : cok P) (gS : cok S) (r_x0 : zr 0 63 x0) : Met l yTA_forgetHost [Cond.code yTA_forgetHost bTA_forgetHost 4 none] ({ frames := 0, cells := 0, slots := 0, locals := 0 } : Room) (zP zCl dC dI (zTZ cI cZ cJ cA) a0 s0 [.ref (o 3), .int x0] sz (CW cI cZ cA o b P S)) (zQG zCl dC dI (fun (x9 : ZS) => x9 = fTA_forgetHost P S x0 ∧ cok x9) (fun x9 : ZS => (CW cI cZ cA o b P x9)) (va_A (CW cI cZ cA o b P S) sz)) 0 0 (va_A (CW cI cZ cA o b P S) sz) := by
  refine Met.ofW (cc := bTA_forgetHost) (maxL := 4) (ret := none) (by decide) rfl ?_
  intro p e s m args below meth c s₁ B hml hv
  obtain ⟨rfl, hsz, hP, hK, hD0, hB⟩ := hv
  have hx := B.exec
  have hb := B.bytes
  have hr := B.returns
  have hown : s.vm.findClass "RingGuard$Tables" = some m.cls := findClass_of_methodNamed B.named
  have hlocks := B.notSynchronized
  subst hsz
  have hD := hD0.self (sz := s.heap.size)
  have hA0 := zA0 hD0 hB
  generalize hAe : va_A (CW cI cZ cA o b P S) s.heap.size = A at hD hA0 ⊢
  have hAD := hA0
  have hA : ∀ q : Nat, s.heap.size ≤ q → A q := fun q h => by rw [← hAe]; exact Or.inr h
  have hS : va_S A s.heap s.heap [] := va_S.rf
  have hl := lv_entry ([.ref (o 3), .int x0]) (n := 4) (Nat.le_of_ble_eq_true rfl)
  rw [lg_entry_eq]
  generalize (lg_sl ([.ref (o 3), .int x0]) ++ List.replicate (4 - (lg_sl ([.ref (o 3), .int x0])).length) Slot.unset).toArray = ls at hl ⊢
  have hl : lv_has ls 4 [(0, .ref (o 3)), (1, .int x0)] := hl
  refine zgenQ (fun Q hQe => ?_)
  obtain ⟨tg, etg⟩ : ∃ z, z = fTA_forgetHost P S x0 := ⟨_, rfl⟩
  have E := etg
  unfold fTA_forgetHost at E
  have hL2 : ∀ (n2 : Nat) (H : Heap) (locs : List Loc) (ls : Array Slot) (S_2 : ZS) (x2_1 : Int32) (x2_2 : Int32), zr 0 63 x2_1 → zr 0 48 x2_2 → cok S_2 → 48 + 1 - x2_2.toInt ≤ (n2 : Int) → tg = zfix (fun S9 _ _ => S9) (fTA_forgetHost_2 P) n2 S_2 x2_1 x2_2 → va_P (dC, dI) zCl (CW cI cZ cA o b P S_2) H → va_D A (CW cI cZ cA o b P S_2) → va_S A s.heap H locs → lv_has ls 4 [(0, .ref (o 3)), (1, .int x2_1), (2, .int x2_2)] → W p l e ({ frames := 0, cells := 0, slots := 0, locals := 0 } : Room) s m ([.ref (o 3), .int x0] : List Value).toArray below meth c H locs 0 0 Q (F0 m 2 ls []) := by
    intro n2
    induction n2 with
    | zero => intro H locs ls S_2 x2_1 x2_2 r_x2_1 r_x2_2 gS_2 hm2 E hP hD hS hl; exact absurd hm2 (zfuel0U r_x2_2)
    | succ n2 ih2 =>
      intro H locs ls S_2 x2_1 x2_2 r_x2_1 r_x2_2 gS_2 hm2 E hP hD hS hl
      rw [zfix_s] at E
      generalize zfix (fun S9 _ _ => S9) (fTA_forgetHost_2 P) n2 = rc2 at ih2 E
      unfold fTA_forgetHost_2 at E
      have hL10 : ∀ (n10 : Nat) (H : Heap) (locs : List Loc) (ls : Array Slot) (S_10 : ZS) (x10_1 : Int32) (x10_2 : Int32) (x10_3 : Int32), zr 0 63 x10_1 → zr 0 47 x10_2 → zr 0 4 x10_3 → cok S_10 → 48 + 1 - x10_2.toInt ≤ ((n2 + 1 : Nat) : Int) → 4 + 1 - x10_3.toInt ≤ (n10 : Int) → tg = zfix (fun S9 _ _ _ => S9) (fTA_forgetHost_10 P rc2) n10 S_10 x10_1 x10_2 x10_3 → va_P (dC, dI) zCl (CW cI cZ cA o b P S_10) H → va_D A (CW cI cZ cA o b P S_10) → va_S A s.heap H locs → lv_has ls 4 [(0, .ref (o 3)), (1, .int x10_1), (2, .int x10_2), (3, .int x10_3)] → W p l e ({ frames := 0, cells := 0, slots := 0, locals := 0 } : Room) s m ([.ref (o 3), .int x0] : List Value).toArray below meth c H locs 0 0 Q (F0 m 10 ls []) := by
        intro n10
        induction n10 with
        | zero => intro H locs ls S_10 x10_1 x10_2 x10_3 r_x10_1 r_x10_2 r_x10_3 gS_10 hm2_10 hm10 E hP hD hS hl; exact absurd hm10 (zfuel0U r_x10_3)
        | succ n10 ih10 =>
          intro H locs ls S_10 x10_1 x10_2 x10_3 r_x10_1 r_x10_2 r_x10_3 gS_10 hm2_10 hm10 E hP hD hS hl
          rw [zfix_s] at E
          generalize zfix (fun S9 _ _ _ => S9) (fTA_forgetHost_10 P rc2) n10 = rc10 at ih10 E
          unfold fTA_forgetHost_10 at E
          refine lv_iload_n hx hb dTA_forgetHost_10 rfl (lv_at hl 3 rfl) ?_
          refine lv_iconst (v := 4) hx hb dTA_forgetHost_11 (by decide) ?_
          refine z_icmp_ge (tgt := 35) hx hb dTA_forgetHost_12 (by decide) E (fun c_12 E => ?_) (fun c_12 E => ?_)
          · have r_x10_3 : zr 4 4 x10_3 := zle_y (show zr 4 4 4 from by decide) r_x10_3 c_12 (by decide)
            refine z_iinc (lv' := fun v9 => [(2, .int v9), (0, .ref (o 3)), (1, .int x10_1), (3, .int x10_3)]) (cst := 1) hx hb dTA_forgetHost_35 hl (k := 2) rfl (by decide) (by decide) (fun _ => rfl) E (fun k1 ls ek1 E hl => ?_)
            have r_k1 : zr 1 48 k1 := zr_add r_x10_2 (show zr 1 1 1 from by decide) ek1 (by decide)
            refine lv_goto (tgt := 2) hx hb dTA_forgetHost_38 (by decide) ?_
            exact ih2 H locs ls S_10 x10_1 k1 r_x10_1 (zr_mono r_k1 (by decide)) gS_10 (zstepU ek1 r_x10_2 (by decide) hm2_10) E hP hD hS (lv_sub hl [1, 2, 0] rfl)
          · have r_x10_3 : zr 0 3 x10_3 := zlt_x r_x10_3 (show zr 4 4 4 from by decide) (znle c_12) (by decide)
            refine lv_aload_n hx hb dTA_forgetHost_15 rfl (lv_at hl 0 rfl) ?_
            refine c_getO_TA_entries hx hb (hB.words zU_TA) hown hK hP (hB.word (zm1 k1_120) rfl) dTA_forgetHost_16 ?_
            refine lv_iload_n hx hb dTA_forgetHost_19 rfl (lv_at hl 2 rfl) ?_
            refine c_aald hx hb hK hP r_x10_2 (by decide) dTA_forgetHost_20 ?_
            refine lv_iload_n hx hb dTA_forgetHost_21 rfl (lv_at hl 3 rfl) ?_
            refine lv_bipush (v := 64) hx hb dTA_forgetHost_22 (by decide) ?_
            refine z_imul hx hb dTA_forgetHost_24 E (fun k2 ek2 E => ?_)
            have r_k2 : zr 0 192 k2 := zr_mul r_x10_3 (show zr 64 64 64 from by decide) ek2 (by decide)
            refine lv_iload_n hx hb dTA_forgetHost_25 rfl (lv_at hl 1 rfl) ?_
            refine z_iadd hx hb dTA_forgetHost_26 E (fun k3 ek3 E => ?_)
            have r_k3 : zr 0 255 k3 := zr_add r_k2 r_x10_1 ek3 (by decide)
            refine lv_iconst (v := (-1)) hx hb dTA_forgetHost_27 (by decide) ?_
            refine c_astR hx hb hK hP hD hS (zrow r_x10_2 (by decide)) r_k3 (by decide) dTA_forgetHost_28 E (fun S4 H5 locs eS4 E hP hD hS => ?_)
            have gS4 : cok S4 := by rw [eS4]; exact zokR gS_10 (zrow r_x10_2 (by decide))
            refine z_iinc (lv' := fun v9 => [(3, .int v9), (0, .ref (o 3)), (1, .int x10_1), (2, .int x10_2)]) (cst := 1) hx hb dTA_forgetHost_29 hl (k := 3) rfl (by decide) (by decide) (fun _ => rfl) E (fun k6 ls ek6 E hl => ?_)
            have r_k6 : zr 1 4 k6 := zr_add r_x10_3 (show zr 1 1 1 from by decide) ek6 (by decide)
            refine lv_goto (tgt := 10) hx hb dTA_forgetHost_32 (by decide) ?_
            exact ih10 H5 locs ls S4 x10_1 x10_2 k6 r_x10_1 r_x10_2 (zr_mono r_k6 (by decide)) gS4 hm2_10 (zstepU ek6 r_x10_3 (by decide) hm10) E hP hD hS (lv_sub hl [1, 2, 3, 0] rfl)
      refine lv_iload_n hx hb dTA_forgetHost_2 rfl (lv_at hl 2 rfl) ?_
      refine lv_bipush (v := 48) hx hb dTA_forgetHost_3 (by decide) ?_
      refine z_icmp_ge (tgt := 41) hx hb dTA_forgetHost_5 (by decide) E (fun c_5 E => ?_) (fun c_5 E => ?_)
      · have r_x2_2 : zr 48 48 x2_2 := zle_y (show zr 48 48 48 from by decide) r_x2_2 c_5 (by decide)
        rw [hQe]
        exact W.vret hx hb hr (fun t ht hW => ⟨⟨S_2, rfl, ⟨E.symm.trans etg, gS_2⟩, by rw [ht]; exact hP, hD⟩, hS.F ht⟩) hS.2.2 dTA_forgetHost_41
      · have r_x2_2 : zr 0 47 x2_2 := zlt_x r_x2_2 (show zr 48 48 48 from by decide) (znle c_5) (by decide)
        refine lv_iconst (v := 0) hx hb dTA_forgetHost_8 (by decide) ?_
        refine lv_istore_n (lv' := [(3, .int 0), (0, .ref (o 3)), (1, .int x2_1), (2, .int x2_2)]) hx hb dTA_forgetHost_9 rfl hl (by decide) rfl (fun ls hl => ?_)
        exact hL10 5 H locs ls S_2 x2_1 x2_2 0 r_x2_1 r_x2_2 (show zr 0 4 0 from by decide) gS_2 hm2 (by have h9 := (show zr 0 0 0 from by decide); exact zfuelU h9 (by decide)) E hP hD hS (lv_sub hl [1, 2, 3, 0] rfl)
  refine lv_iconst (v := 0) hx hb dTA_forgetHost_0 (by decide) ?_
  refine lv_istore_n (lv' := [(2, .int 0), (0, .ref (o 3)), (1, .int x0)]) hx hb dTA_forgetHost_1 rfl hl (by decide) rfl (fun ls hl => ?_)
  exact hL2 49 s.heap [] ls S x0 0 r_x0 (show zr 0 48 0 from by decide) gS (by have h9 := (show zr 0 0 0 from by decide); exact zfuelU h9 (by decide)) E hP hD hS (lv_sub hl [1, 2, 0] rfl)
noncomputable def fTA_forgetAll (P S : ZS) (x0 : Int32) : ZS := zl (S.row (28 + (x0 : Int32).toNatClampNeg) (fun _ => (-1))) (fun S1 => S1)
set_option maxHeartbeats 4000000 in
set_option maxRecDepth 100000 in
theorem tTA_forgetAll (l : Launch) (dC : Nat → ClassId) (dI : Nat → Nat → Nat) (cI cZ cJ cA : ClassId) (a0 : Array Value) (s0 : State) (o b : Nat → Nat) (P S : ZS) (sz : Nat) (x0 : Int32) (gP : cok P) (gS : cok S) (r_x0 : zr 0 47 x0) : Met l yTA_forgetAll [Cond.code yTA_forgetAll bTA_forgetAll 2 none] ({ frames := 1, cells := 0, slots := 0, locals := 23 } : Room) (zP zCl dC dI (zTZ cI cZ cJ cA) a0 s0 [.ref (o 3), .int x0] sz (CW cI cZ cA o b P S)) (zQG zCl dC dI (fun (x9 : ZS) => x9 = fTA_forgetAll P S x0 ∧ cok x9) (fun x9 : ZS => (CW cI cZ cA o b P x9)) (va_A (CW cI cZ cA o b P S) sz)) 0 0 (va_A (CW cI cZ cA o b P S) sz) := by
  refine Met.ofW (cc := bTA_forgetAll) (maxL := 2) (ret := none) (by decide) rfl ?_
  intro p e s m args below meth c s₁ B hml hv
  obtain ⟨rfl, hsz, hP, hK, hD0, hB⟩ := hv
  have hx := B.exec
  have hb := B.bytes
  have hr := B.returns
  have hown : s.vm.findClass "RingGuard$Tables" = some m.cls := findClass_of_methodNamed B.named
  have hlocks := B.notSynchronized
  subst hsz
  have hD := hD0.self (sz := s.heap.size)
  have hA0 := zA0 hD0 hB
  generalize hAe : va_A (CW cI cZ cA o b P S) s.heap.size = A at hD hA0 ⊢
  have hAD := hA0
  have hA : ∀ q : Nat, s.heap.size ≤ q → A q := fun q h => by rw [← hAe]; exact Or.inr h
  have hS : va_S A s.heap s.heap [] := va_S.rf
  have hl := lv_entry ([.ref (o 3), .int x0]) (n := 2) (Nat.le_of_ble_eq_true rfl)
  rw [lg_entry_eq]
  generalize (lg_sl ([.ref (o 3), .int x0]) ++ List.replicate (2 - (lg_sl ([.ref (o 3), .int x0])).length) Slot.unset).toArray = ls at hl ⊢
  have hl : lv_has ls 2 [(0, .ref (o 3)), (1, .int x0)] := hl
  refine zgenQ (fun Q hQe => ?_)
  obtain ⟨tg, etg⟩ : ∃ z, z = fTA_forgetAll P S x0 := ⟨_, rfl⟩
  have E := etg
  unfold fTA_forgetAll at E
  refine lv_aload_n hx hb dTA_forgetAll_0 rfl (lv_at hl 0 rfl) ?_
  refine c_getO_TA_entries hx hb (hB.words zU_TA) hown hK hP (hB.word (zm1 k1_120) rfl) dTA_forgetAll_1 ?_
  refine lv_iload_n hx hb dTA_forgetAll_4 rfl (lv_at hl 1 rfl) ?_
  refine c_aald hx hb hK hP r_x0 (by decide) dTA_forgetAll_5 ?_
  refine lv_iconst (v := (-1)) hx hb dTA_forgetAll_6 (by decide) ?_
  have hkF : 9 ≤ 28 + (x0 : Int32).toNatClampNeg ∧ 28 + (x0 : Int32).toNatClampNeg < 76 := ⟨by have h9 := (zrow r_x0 (by decide)); omega, by have h9 := (zrow r_x0 (by decide)); omega⟩
  have hPF := c_fillP (N := 256) (cI := cI) (cZ := cZ) hkF (cC_row (by omega)) (cL_row (by omega)) hP
  have hDF := c_fillD (N := 256) (cI := cI) (cZ := cZ) hkF (cC_row (by omega)) (cL_row (by omega)) hD
  refine c_fill (k := 28 + (x0 : Int32).toNatClampNeg) (N := 256) (v := (-1)) hkF (cC_row (by omega)) (cL_row (by omega)) hP hD hS hA (va_runS (As := [.ref (b (28 + (x0 : Int32).toNatClampNeg)), .int (-1)]) (rest := []) ⟨hx, hb, hml, hown, zno⟩ (zw_fill l dC dI cI cZ cJ cA a0 s0 (b (28 + (x0 : Int32).toNatClampNeg)) 256 s.heap.size (S.F (28 + (x0 : Int32).toNatClampNeg)) (-1) (by decide)) ⟨zcb 2 (hB.word (zm1 k1_33) rfl) (hB.word (zm1 k1_3) rfl) (hB.word (zm1 k1_119) rfl) rfl rfl (by decide +kernel) ⟨Nat.le_of_ble_eq_true rfl, Nat.le_of_ble_eq_true rfl⟩, hB.word (zm1 k1_32) rfl⟩ ⟨zP_blind, zP_pre hPF hK hDF hAD (zB_on hB hA0 hS)⟩ rfl rfl hl.1 rfl (lv_room (Nat.le_of_ble_eq_true rfl)) dTA_forgetAll_7 ⟨Nat.le_of_ble_eq_true rfl, Nat.le_of_ble_eq_true rfl⟩) E (fun S1 H2 locs eS1 E hP hD hS => ?_)
  have gS1 : cok S1 := by rw [eS1]; exact gS.row (fun j => by rw [cLo_row (by omega), cHi_row (by omega)]; exact zr_any _) (Or.inl (cK_row (by omega)))
  rw [hQe]
  exact W.vret hx hb hr (fun t ht hW => ⟨⟨S1, rfl, ⟨E.symm.trans etg, gS1⟩, by rw [ht]; exact hP, hD⟩, hS.F ht⟩) hS.2.2 dTA_forgetAll_10
theorem znI {b : Int} {x : Int32} (h : zr 0 b x) : x = nI x.toNatClampNeg := by
  apply Int32.toInt_inj.mp
  have e := ztn h (by decide)
  have h1 := Int32.toInt_lt x
  rw [nI_toInt (by omega)]
  omega
theorem zck_of {x0 x1 x2 x3 : Int32} (h0 : zr 0 7 x0) (h1 : zr 0 63 x1) (h2 : zr 0 113 x2) : zck (x3 <<< (16 &&& 31) ||| x2 <<< (9 &&& 31) ||| x1 <<< (3 &&& 31) ||| x0) := by
  have e0 := ztn h0 (by decide)
  have e1 := ztn h1 (by decide)
  have e2 := ztn h2 (by decide)
  have b0 := h0.2
  have b1 := h1.2
  have b2 := h2.2
  have k := zname_of (nm := x2.toNatClampNeg) (so := x1.toNatClampNeg) (ki := x0.toNatClampNeg) x3 (by omega) (by omega) (by omega)
  rw [← znI h0, ← znI h1, ← znI h2] at k
  have s1 : (16 &&& 31 : Int32) = nI 16 := by decide
  have s2 : (9 &&& 31 : Int32) = nI 9 := by decide
  have s3 : (3 &&& 31 : Int32) = nI 3 := by decide
  have s4 : (9 &&& 31 : Int32) = 9 := by decide
  unfold zck
  rw [s1, s3]
  rw [show (x3 <<< nI 16 ||| x2 <<< (9 &&& 31) ||| x1 <<< nI 3 ||| x0) = (x3 <<< nI 16 ||| x2 <<< nI 9 ||| x1 <<< nI 3 ||| x0) by rw [s2], s4, zname_eq, k, ← znI h2]
  exact h2
noncomputable def fCA_of (P S : ZS) (x0 : Int32) (x1 : Int32) (x2 : Int32) (x3 : Int32) : Int32 := zl (x3 <<< (16 &&& 31)) (fun k1 => zl (x2 <<< (9 &&& 31)) (fun k2 => zl (k1 ||| k2) (fun k3 => zl (x1 <<< (3 &&& 31)) (fun k4 => zl (k3 ||| k4) (fun k5 => zl (k5 ||| x0) (fun k6 => k6))))))
set_option maxHeartbeats 4000000 in
set_option maxRecDepth 100000 in
theorem tCA_of (l : Launch) (dC : Nat → ClassId) (dI : Nat → Nat → Nat) (cI cZ cJ cA : ClassId) (a0 : Array Value) (s0 : State) (o b : Nat → Nat) (P S : ZS) (sz : Nat) (x0 : Int32) (x1 : Int32) (x2 : Int32) (x3 : Int32) (gP : cok P) (gS : cok S) (r_x0 : zr 0 7 x0) (r_x1 : zr 0 63 x1) (r_x2 : zr 0 113 x2) : Met l yCA_of [Cond.code yCA_of bCA_of 4 (some .int)] ({ frames := 0, cells := 0, slots := 0, locals := 0 } : Room) (zP zCl dC dI (zTZ cI cZ cJ cA) a0 s0 [.int x0, .int x1, .int x2, .int x3] sz (CW cI cZ cA o b P S)) (zQp (fun r => r = fCA_of P S x0 x1 x2 x3 ∧ True ∧ (zck r) ∧ (r = -1 ∨ zck r)) sz) 0 0 (zN sz) := by
  refine Met.ofW (cc := bCA_of) (maxL := 4) (ret := (some .int)) (by decide) rfl ?_
  intro p e s m args below meth c s₁ B hml hv
  obtain ⟨rfl, hsz, hP, hK, hD0, hB⟩ := hv
  have hx := B.exec
  have hb := B.bytes
  have hr := B.returns
  have hown : s.vm.findClass "RingGuard$Cast" = some m.cls := findClass_of_methodNamed B.named
  have hlocks := B.notSynchronized
  subst hsz
  have hD := hD0
  have hA0 : ∀ q, zN s.heap.size q → s0.heap.size ≤ q := zA1 hB
  have hAD : ∀ q, zN s0.heap.size q → s0.heap.size ≤ q := fun _ h => h
  have hA : ∀ q : Nat, s.heap.size ≤ q → zN s.heap.size q := fun _ h => h
  have hS : va_S (zN s.heap.size) s.heap s.heap [] := va_S.rf
  have hl := lv_entry ([.int x0, .int x1, .int x2, .int x3]) (n := 4) (Nat.le_of_ble_eq_true rfl)
  rw [lg_entry_eq]
  generalize (lg_sl ([.int x0, .int x1, .int x2, .int x3]) ++ List.replicate (4 - (lg_sl ([.int x0, .int x1, .int x2, .int x3])).length) Slot.unset).toArray = ls at hl ⊢
  have hl : lv_has ls 4 [(0, .int x0), (1, .int x1), (2, .int x2), (3, .int x3)] := hl
  refine zgenQ (fun Q hQe => ?_)
  obtain ⟨tg, etg⟩ : ∃ z, z = fCA_of P S x0 x1 x2 x3 := ⟨_, rfl⟩
  have E := etg
  unfold fCA_of at E
  refine lv_iload_n hx hb dCA_of_0 rfl (lv_at hl 3 rfl) ?_
  refine lv_bipush (v := 16) hx hb dCA_of_1 (by decide) ?_
  refine z_ishl hx hb dCA_of_3 E (fun k1 ek1 E => ?_)
  refine lv_iload_n hx hb dCA_of_4 rfl (lv_at hl 2 rfl) ?_
  refine lv_bipush (v := 9) hx hb dCA_of_5 (by decide) ?_
  refine z_ishl hx hb dCA_of_7 E (fun k2 ek2 E => ?_)
  refine z_ior hx hb dCA_of_8 E (fun k3 ek3 E => ?_)
  refine lv_iload_n hx hb dCA_of_9 rfl (lv_at hl 1 rfl) ?_
  refine lv_iconst (v := 3) hx hb dCA_of_10 (by decide) ?_
  refine z_ishl hx hb dCA_of_11 E (fun k4 ek4 E => ?_)
  refine z_ior hx hb dCA_of_12 E (fun k5 ek5 E => ?_)
  refine lv_iload_n hx hb dCA_of_13 rfl (lv_at hl 0 rfl) ?_
  refine z_ior hx hb dCA_of_14 E (fun k6 ek6 E => ?_)
  have qck_k6 : zck k6 := by rw [ek6, ek5, ek4, ek3, ek2, ek1]; exact zck_of r_x0 r_x1 r_x2
  rw [hQe]
  exact W.iret (v := k6) hx hb hr (fun t ht hW => ⟨⟨k6, (), rfl, ⟨E.symm.trans etg, trivial, qck_k6, (Or.inr qck_k6)⟩, trivial⟩, hS.F ht⟩) hS.2.2 dCA_of_15
noncomputable def fCA_kindOf (P S : ZS) (x0 : Int32) : Int32 := zl (x0 &&& 7) (fun k1 => k1)
set_option maxHeartbeats 4000000 in
set_option maxRecDepth 100000 in
theorem tCA_kindOf (l : Launch) (dC : Nat → ClassId) (dI : Nat → Nat → Nat) (cI cZ cJ cA : ClassId) (a0 : Array Value) (s0 : State) (o b : Nat → Nat) (P S : ZS) (sz : Nat) (x0 : Int32) (gP : cok P) (gS : cok S) : Met l yCA_kindOf [Cond.code yCA_kindOf bCA_kindOf 1 (some .int)] ({ frames := 0, cells := 0, slots := 0, locals := 0 } : Room) (zP zCl dC dI (zTZ cI cZ cJ cA) a0 s0 [.int x0] sz (CW cI cZ cA o b P S)) (zQp (fun r => r = fCA_kindOf P S x0 ∧ zr 0 7 r) sz) 0 0 (zN sz) := by
  refine Met.ofW (cc := bCA_kindOf) (maxL := 1) (ret := (some .int)) (by decide) rfl ?_
  intro p e s m args below meth c s₁ B hml hv
  obtain ⟨rfl, hsz, hP, hK, hD0, hB⟩ := hv
  have hx := B.exec
  have hb := B.bytes
  have hr := B.returns
  have hown : s.vm.findClass "RingGuard$Cast" = some m.cls := findClass_of_methodNamed B.named
  have hlocks := B.notSynchronized
  subst hsz
  have hD := hD0
  have hA0 : ∀ q, zN s.heap.size q → s0.heap.size ≤ q := zA1 hB
  have hAD : ∀ q, zN s0.heap.size q → s0.heap.size ≤ q := fun _ h => h
  have hA : ∀ q : Nat, s.heap.size ≤ q → zN s.heap.size q := fun _ h => h
  have hS : va_S (zN s.heap.size) s.heap s.heap [] := va_S.rf
  have hl := lv_entry ([.int x0]) (n := 1) (Nat.le_of_ble_eq_true rfl)
  rw [lg_entry_eq]
  generalize (lg_sl ([.int x0]) ++ List.replicate (1 - (lg_sl ([.int x0])).length) Slot.unset).toArray = ls at hl ⊢
  have hl : lv_has ls 1 [(0, .int x0)] := hl
  refine zgenQ (fun Q hQe => ?_)
  obtain ⟨tg, etg⟩ : ∃ z, z = fCA_kindOf P S x0 := ⟨_, rfl⟩
  have E := etg
  unfold fCA_kindOf at E
  refine lv_iload_n hx hb dCA_kindOf_0 rfl (lv_at hl 0 rfl) ?_
  refine lv_bipush (v := 7) hx hb dCA_kindOf_1 (by decide) ?_
  refine z_iand hx hb dCA_kindOf_3 E (fun k1 ek1 E => ?_)
  have r_k1 : zr 0 7 k1 := zr_and (c := 7) (by decide) ek1 (by decide)
  rw [hQe]
  exact W.iret (v := k1) hx hb hr (fun t ht hW => ⟨⟨k1, (), rfl, ⟨E.symm.trans etg, r_k1⟩, trivial⟩, hS.F ht⟩) hS.2.2 dCA_kindOf_4
noncomputable def fCA_sourceOf (P S : ZS) (x0 : Int32) : Int32 := zl (x0 >>> (3 &&& 31)) (fun k1 => zl (k1 &&& 63) (fun k2 => k2))
set_option maxHeartbeats 4000000 in
set_option maxRecDepth 100000 in
theorem tCA_sourceOf (l : Launch) (dC : Nat → ClassId) (dI : Nat → Nat → Nat) (cI cZ cJ cA : ClassId) (a0 : Array Value) (s0 : State) (o b : Nat → Nat) (P S : ZS) (sz : Nat) (x0 : Int32) (gP : cok P) (gS : cok S) : Met l yCA_sourceOf [Cond.code yCA_sourceOf bCA_sourceOf 1 (some .int)] ({ frames := 0, cells := 0, slots := 0, locals := 0 } : Room) (zP zCl dC dI (zTZ cI cZ cJ cA) a0 s0 [.int x0] sz (CW cI cZ cA o b P S)) (zQp (fun r => r = fCA_sourceOf P S x0 ∧ zr 0 63 r) sz) 0 0 (zN sz) := by
  refine Met.ofW (cc := bCA_sourceOf) (maxL := 1) (ret := (some .int)) (by decide) rfl ?_
  intro p e s m args below meth c s₁ B hml hv
  obtain ⟨rfl, hsz, hP, hK, hD0, hB⟩ := hv
  have hx := B.exec
  have hb := B.bytes
  have hr := B.returns
  have hown : s.vm.findClass "RingGuard$Cast" = some m.cls := findClass_of_methodNamed B.named
  have hlocks := B.notSynchronized
  subst hsz
  have hD := hD0
  have hA0 : ∀ q, zN s.heap.size q → s0.heap.size ≤ q := zA1 hB
  have hAD : ∀ q, zN s0.heap.size q → s0.heap.size ≤ q := fun _ h => h
  have hA : ∀ q : Nat, s.heap.size ≤ q → zN s.heap.size q := fun _ h => h
  have hS : va_S (zN s.heap.size) s.heap s.heap [] := va_S.rf
  have hl := lv_entry ([.int x0]) (n := 1) (Nat.le_of_ble_eq_true rfl)
  rw [lg_entry_eq]
  generalize (lg_sl ([.int x0]) ++ List.replicate (1 - (lg_sl ([.int x0])).length) Slot.unset).toArray = ls at hl ⊢
  have hl : lv_has ls 1 [(0, .int x0)] := hl
  refine zgenQ (fun Q hQe => ?_)
  obtain ⟨tg, etg⟩ : ∃ z, z = fCA_sourceOf P S x0 := ⟨_, rfl⟩
  have E := etg
  unfold fCA_sourceOf at E
  refine lv_iload_n hx hb dCA_sourceOf_0 rfl (lv_at hl 0 rfl) ?_
  refine lv_iconst (v := 3) hx hb dCA_sourceOf_1 (by decide) ?_
  refine z_ishr hx hb dCA_sourceOf_2 E (fun k1 ek1 E => ?_)
  refine lv_bipush (v := 63) hx hb dCA_sourceOf_3 (by decide) ?_
  refine z_iand hx hb dCA_sourceOf_5 E (fun k2 ek2 E => ?_)
  have r_k2 : zr 0 63 k2 := zr_and (c := 63) (by decide) ek2 (by decide)
  rw [hQe]
  exact W.iret (v := k2) hx hb hr (fun t ht hW => ⟨⟨k2, (), rfl, ⟨E.symm.trans etg, r_k2⟩, trivial⟩, hS.F ht⟩) hS.2.2 dCA_sourceOf_6
noncomputable def fCA_numberOf (P S : ZS) (x0 : Int32) : Int32 := zl ((x0.toUInt32 >>> ((16 : Int32).toUInt32 &&& Int32.toUInt32 31)).toInt32) (fun k1 => k1)
set_option maxHeartbeats 4000000 in
set_option maxRecDepth 100000 in
theorem tCA_numberOf (l : Launch) (dC : Nat → ClassId) (dI : Nat → Nat → Nat) (cI cZ cJ cA : ClassId) (a0 : Array Value) (s0 : State) (o b : Nat → Nat) (P S : ZS) (sz : Nat) (x0 : Int32) (gP : cok P) (gS : cok S) : Met l yCA_numberOf [Cond.code yCA_numberOf bCA_numberOf 1 (some .int)] ({ frames := 0, cells := 0, slots := 0, locals := 0 } : Room) (zP zCl dC dI (zTZ cI cZ cJ cA) a0 s0 [.int x0] sz (CW cI cZ cA o b P S)) (zQp (fun r => r = fCA_numberOf P S x0 ∧ True) sz) 0 0 (zN sz) := by
  refine Met.ofW (cc := bCA_numberOf) (maxL := 1) (ret := (some .int)) (by decide) rfl ?_
  intro p e s m args below meth c s₁ B hml hv
  obtain ⟨rfl, hsz, hP, hK, hD0, hB⟩ := hv
  have hx := B.exec
  have hb := B.bytes
  have hr := B.returns
  have hown : s.vm.findClass "RingGuard$Cast" = some m.cls := findClass_of_methodNamed B.named
  have hlocks := B.notSynchronized
  subst hsz
  have hD := hD0
  have hA0 : ∀ q, zN s.heap.size q → s0.heap.size ≤ q := zA1 hB
  have hAD : ∀ q, zN s0.heap.size q → s0.heap.size ≤ q := fun _ h => h
  have hA : ∀ q : Nat, s.heap.size ≤ q → zN s.heap.size q := fun _ h => h
  have hS : va_S (zN s.heap.size) s.heap s.heap [] := va_S.rf
  have hl := lv_entry ([.int x0]) (n := 1) (Nat.le_of_ble_eq_true rfl)
  rw [lg_entry_eq]
  generalize (lg_sl ([.int x0]) ++ List.replicate (1 - (lg_sl ([.int x0])).length) Slot.unset).toArray = ls at hl ⊢
  have hl : lv_has ls 1 [(0, .int x0)] := hl
  refine zgenQ (fun Q hQe => ?_)
  obtain ⟨tg, etg⟩ : ∃ z, z = fCA_numberOf P S x0 := ⟨_, rfl⟩
  have E := etg
  unfold fCA_numberOf at E
  refine lv_iload_n hx hb dCA_numberOf_0 rfl (lv_at hl 0 rfl) ?_
  refine lv_bipush (v := 16) hx hb dCA_numberOf_1 (by decide) ?_
  refine z_iushr hx hb dCA_numberOf_3 E (fun k1 ek1 E => ?_)
  rw [hQe]
  exact W.iret (v := k1) hx hb hr (fun t ht hW => ⟨⟨k1, (), rfl, ⟨E.symm.trans etg, trivial⟩, trivial⟩, hS.F ht⟩) hS.2.2 dCA_numberOf_4
noncomputable def fCA_nameOf (P S : ZS) (x0 : Int32) : Int32 := zl (x0 >>> (9 &&& 31)) (fun k1 => zl (k1 &&& 127) (fun k2 => k2))
set_option maxHeartbeats 4000000 in
set_option maxRecDepth 100000 in
theorem tCA_nameOf (l : Launch) (dC : Nat → ClassId) (dI : Nat → Nat → Nat) (cI cZ cJ cA : ClassId) (a0 : Array Value) (s0 : State) (o b : Nat → Nat) (P S : ZS) (sz : Nat) (x0 : Int32) (gP : cok P) (gS : cok S) (qck_x0 : zck x0) : Met l yCA_nameOf [Cond.code yCA_nameOf bCA_nameOf 1 (some .int)] ({ frames := 0, cells := 0, slots := 0, locals := 0 } : Room) (zP zCl dC dI (zTZ cI cZ cJ cA) a0 s0 [.int x0] sz (CW cI cZ cA o b P S)) (zQp (fun r => r = fCA_nameOf P S x0 ∧ zr 0 113 r) sz) 0 0 (zN sz) := by
  refine Met.ofW (cc := bCA_nameOf) (maxL := 1) (ret := (some .int)) (by decide) rfl ?_
  intro p e s m args below meth c s₁ B hml hv
  obtain ⟨rfl, hsz, hP, hK, hD0, hB⟩ := hv
  have hx := B.exec
  have hb := B.bytes
  have hr := B.returns
  have hown : s.vm.findClass "RingGuard$Cast" = some m.cls := findClass_of_methodNamed B.named
  have hlocks := B.notSynchronized
  subst hsz
  have hD := hD0
  have hA0 : ∀ q, zN s.heap.size q → s0.heap.size ≤ q := zA1 hB
  have hAD : ∀ q, zN s0.heap.size q → s0.heap.size ≤ q := fun _ h => h
  have hA : ∀ q : Nat, s.heap.size ≤ q → zN s.heap.size q := fun _ h => h
  have hS : va_S (zN s.heap.size) s.heap s.heap [] := va_S.rf
  have hl := lv_entry ([.int x0]) (n := 1) (Nat.le_of_ble_eq_true rfl)
  rw [lg_entry_eq]
  generalize (lg_sl ([.int x0]) ++ List.replicate (1 - (lg_sl ([.int x0])).length) Slot.unset).toArray = ls at hl ⊢
  have hl : lv_has ls 1 [(0, .int x0)] := hl
  refine zgenQ (fun Q hQe => ?_)
  obtain ⟨tg, etg⟩ : ∃ z, z = fCA_nameOf P S x0 := ⟨_, rfl⟩
  have E := etg
  unfold fCA_nameOf at E
  refine lv_iload_n hx hb dCA_nameOf_0 rfl (lv_at hl 0 rfl) ?_
  refine lv_bipush (v := 9) hx hb dCA_nameOf_1 (by decide) ?_
  refine z_ishr hx hb dCA_nameOf_3 E (fun k1 ek1 E => ?_)
  refine lv_bipush (v := 127) hx hb dCA_nameOf_4 (by decide) ?_
  refine z_iand hx hb dCA_nameOf_6 E (fun k2 ek2 E => ?_)
  have r_k2 : zr 0 127 k2 := zr_and (c := 127) (by decide) ek2 (by decide)
  have r_k22 : zr 0 113 k2 := by rw [ek2, ek1]; exact qck_x0
  rw [hQe]
  exact W.iret (v := k2) hx hb hr (fun t ht hW => ⟨⟨k2, (), rfl, ⟨E.symm.trans etg, r_k22⟩, trivial⟩, hS.F ht⟩) hS.2.2 dCA_nameOf_7
