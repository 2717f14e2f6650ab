theorem k1_8 : tables_1_1[8]? = some (Jvm.Cond.initialized "RingGuard$Groups") := by decide +kernel
theorem k1_225 : tables_1_1[225]? = some (Jvm.Cond.fieldLink "RingGuard$Plan" (95 : Nat) "RingGuard$Groups" "groupCount" "I") := by decide +kernel
theorem k2_201 : tables_1_2[201]? = some (Jvm.Cond.methodLink "RingGuard$Plan" (58 : Nat) ({ cls := "RingGuard$Plan", name := "hasBareBridge", desc := "()Z" } : Jvm.MethodName)) := by decide +kernel
theorem k2_202 : tables_1_2[202]? = some (Jvm.Cond.privateMethod ({ cls := "RingGuard$Plan", name := "hasBareBridge", desc := "()Z" } : Jvm.MethodName)) := by decide +kernel
theorem k2_203 : tables_1_2[203]? = some (Jvm.Cond.instanceMethod ({ cls := "RingGuard$Plan", name := "hasBareBridge", desc := "()Z" } : Jvm.MethodName)) := by decide +kernel
theorem k2_204 : tables_1_2[204]? = some (Jvm.Cond.code ({ cls := "RingGuard$Plan", name := "hasBareBridge", desc := "()Z" } : Jvm.MethodName) prog_5_method_9_code (2 : Nat) (Option.some Jvm.ClassFile.FieldType.boolean)) := rfl
theorem k2_213 : tables_1_2[213]? = some (Jvm.Cond.methodLink "RingGuard$Plan" (50 : Nat) ({ cls := "RingGuard$Plan", name := "hasLinks", desc := "(I)Z" } : Jvm.MethodName)) := by decide +kernel
theorem k2_214 : tables_1_2[214]? = some (Jvm.Cond.privateMethod ({ cls := "RingGuard$Plan", name := "hasLinks", desc := "(I)Z" } : Jvm.MethodName)) := by decide +kernel
theorem k2_215 : tables_1_2[215]? = some (Jvm.Cond.instanceMethod ({ cls := "RingGuard$Plan", name := "hasLinks", desc := "(I)Z" } : Jvm.MethodName)) := by decide +kernel
theorem k2_216 : tables_1_2[216]? = some (Jvm.Cond.code ({ cls := "RingGuard$Plan", name := "hasLinks", desc := "(I)Z" } : Jvm.MethodName) prog_5_method_8_code (3 : Nat) (Option.some Jvm.ClassFile.FieldType.boolean)) := rfl
theorem k2_217 : tables_1_2[217]? = some (Jvm.Cond.methodLink "RingGuard$Plan" (62 : Nat) ({ cls := "RingGuard$Plan", name := "hasRightShape", desc := "(IZLRingGuard$Groups;)Z" } : Jvm.MethodName)) := by decide +kernel
theorem k2_218 : tables_1_2[218]? = some (Jvm.Cond.privateMethod ({ cls := "RingGuard$Plan", name := "hasRightShape", desc := "(IZLRingGuard$Groups;)Z" } : Jvm.MethodName)) := by decide +kernel
theorem k2_219 : tables_1_2[219]? = some (Jvm.Cond.instanceMethod ({ cls := "RingGuard$Plan", name := "hasRightShape", desc := "(IZLRingGuard$Groups;)Z" } : Jvm.MethodName)) := by decide +kernel
theorem k2_220 : tables_1_2[220]? = some (Jvm.Cond.code ({ cls := "RingGuard$Plan", name := "hasRightShape", desc := "(IZLRingGuard$Groups;)Z" } : Jvm.MethodName) prog_5_method_13_code (9 : Nat) (Option.some Jvm.ClassFile.FieldType.boolean)) := rfl
theorem k2_225 : tables_1_2[225]? = some (Jvm.Cond.methodLink "RingGuard$Plan" (79 : Nat) ({ cls := "RingGuard$Plan", name := "isOnePiece", desc := "(IILRingGuard$Groups;)Z" } : Jvm.MethodName)) := by decide +kernel
theorem k2_226 : tables_1_2[226]? = some (Jvm.Cond.privateMethod ({ cls := "RingGuard$Plan", name := "isOnePiece", desc := "(IILRingGuard$Groups;)Z" } : Jvm.MethodName)) := by decide +kernel
theorem k2_227 : tables_1_2[227]? = some (Jvm.Cond.instanceMethod ({ cls := "RingGuard$Plan", name := "isOnePiece", desc := "(IILRingGuard$Groups;)Z" } : Jvm.MethodName)) := by decide +kernel
theorem k2_228 : tables_1_2[228]? = some (Jvm.Cond.code ({ cls := "RingGuard$Plan", name := "isOnePiece", desc := "(IILRingGuard$Groups;)Z" } : Jvm.MethodName) prog_5_method_14_code (5 : Nat) (Option.some Jvm.ClassFile.FieldType.boolean)) := rfl
theorem k2_229 : tables_1_2[229]? = some (Jvm.Cond.methodLink "RingGuard$Plan" (86 : Nat) ({ cls := "RingGuard$Groups", name := "separate", desc := "(I)V" } : Jvm.MethodName)) := by decide +kernel
theorem k2_230 : tables_1_2[230]? = some (Jvm.Cond.instanceMethod ({ cls := "RingGuard$Groups", name := "separate", desc := "(I)V" } : Jvm.MethodName)) := by decide +kernel
theorem k2_231 : tables_1_2[231]? = some (Jvm.Cond.selects "RingGuard$Groups" ({ cls := "RingGuard$Groups", name := "separate", desc := "(I)V" } : Jvm.MethodName) ({ cls := "RingGuard$Groups", name := "separate", desc := "(I)V" } : Jvm.MethodName)) := by decide +kernel
theorem k2_232 : tables_1_2[232]? = some (Jvm.Cond.code ({ cls := "RingGuard$Groups", name := "separate", desc := "(I)V" } : Jvm.MethodName) prog_4_method_2_code (3 : Nat) (Option.none : Option Jvm.ClassFile.FieldType)) := rfl
theorem k2_233 : tables_1_2[233]? = some (Jvm.Cond.methodLink "RingGuard$Plan" (92 : Nat) ({ cls := "RingGuard$Groups", name := "join", desc := "(II)Z" } : Jvm.MethodName)) := by decide +kernel
theorem k2_234 : tables_1_2[234]? = some (Jvm.Cond.instanceMethod ({ cls := "RingGuard$Groups", name := "join", desc := "(II)Z" } : Jvm.MethodName)) := by decide +kernel
theorem k2_235 : tables_1_2[235]? = some (Jvm.Cond.selects "RingGuard$Groups" ({ cls := "RingGuard$Groups", name := "join", desc := "(II)Z" } : Jvm.MethodName) ({ cls := "RingGuard$Groups", name := "join", desc := "(II)Z" } : Jvm.MethodName)) := by decide +kernel
theorem k2_236 : tables_1_2[236]? = some (Jvm.Cond.code ({ cls := "RingGuard$Groups", name := "join", desc := "(II)Z" } : Jvm.MethodName) prog_4_method_3_code (6 : Nat) (Option.some Jvm.ClassFile.FieldType.boolean)) := rfl
theorem k2_237 : tables_1_2[237]? = some (Jvm.Cond.methodLink "RingGuard$Plan" (83 : Nat) ({ cls := "RingGuard$Plan", name := "isHeldByClosedRing", desc := "(I)Z" } : Jvm.MethodName)) := by decide +kernel
theorem k2_238 : tables_1_2[238]? = some (Jvm.Cond.privateMethod ({ cls := "RingGuard$Plan", name := "isHeldByClosedRing", desc := "(I)Z" } : Jvm.MethodName)) := by decide +kernel
theorem k2_239 : tables_1_2[239]? = some (Jvm.Cond.instanceMethod ({ cls := "RingGuard$Plan", name := "isHeldByClosedRing", desc := "(I)Z" } : Jvm.MethodName)) := by decide +kernel
theorem k3_0 : tables_1_3[0]? = some (Jvm.Cond.code ({ cls := "RingGuard$Plan", name := "isHeldByClosedRing", desc := "(I)Z" } : Jvm.MethodName) prog_5_method_15_code (3 : Nat) (Option.some Jvm.ClassFile.FieldType.boolean)) := rfl
theorem k3_5 : tables_1_3[5]? = some (Jvm.Cond.methodLink "RingGuard$Plan" (66 : Nat) ({ cls := "RingGuard$Plan", name := "hasRightOwner", desc := "(I)Z" } : Jvm.MethodName)) := by decide +kernel
theorem k3_6 : tables_1_3[6]? = some (Jvm.Cond.privateMethod ({ cls := "RingGuard$Plan", name := "hasRightOwner", desc := "(I)Z" } : Jvm.MethodName)) := by decide +kernel
theorem k3_7 : tables_1_3[7]? = some (Jvm.Cond.instanceMethod ({ cls := "RingGuard$Plan", name := "hasRightOwner", desc := "(I)Z" } : Jvm.MethodName)) := by decide +kernel
theorem k3_8 : tables_1_3[8]? = some (Jvm.Cond.code ({ cls := "RingGuard$Plan", name := "hasRightOwner", desc := "(I)Z" } : Jvm.MethodName) prog_5_method_12_code (3 : Nat) (Option.some Jvm.ClassFile.FieldType.boolean)) := rfl
abbrev yPL_isOnePiece : MethodName := ⟨"RingGuard$Plan", "isOnePiece", "(IILRingGuard$Groups;)Z"⟩
abbrev bPL_isOnePiece : ByteArray := prog_5_method_14_code
abbrev yPL_hasRightShape : MethodName := ⟨"RingGuard$Plan", "hasRightShape", "(IZLRingGuard$Groups;)Z"⟩
abbrev bPL_hasRightShape : ByteArray := prog_5_method_13_code
abbrev yPL_firstFault : MethodName := ⟨"RingGuard$Plan", "firstFault", "(LRingGuard$Groups;)I"⟩
abbrev bPL_firstFault : ByteArray := prog_5_method_7_code
abbrev yPL_addLink : MethodName := ⟨"RingGuard$Plan", "addLink", "(III)I"⟩
abbrev bPL_addLink : ByteArray := prog_5_method_2_code
theorem dPL_addLink_0 : decode bPL_addLink 0 = .ok (.aload_n 0, 1) := by decide +kernel
theorem dPL_addLink_1 : decode bPL_addLink 1 = .ok (.getfield 46, 3) := by decide +kernel
theorem dPL_addLink_4 : decode bPL_addLink 4 = .ok (.istore 4, 2) := by decide +kernel
theorem dPL_addLink_6 : decode bPL_addLink 6 = .ok (.aload_n 0, 1) := by decide +kernel
theorem dPL_addLink_7 : decode bPL_addLink 7 = .ok (.getfield 9, 3) := by decide +kernel
theorem dPL_addLink_10 : decode bPL_addLink 10 = .ok (.iload 4, 2) := by decide +kernel
theorem dPL_addLink_12 : decode bPL_addLink 12 = .ok (.iload_n 1, 1) := by decide +kernel
theorem dPL_addLink_13 : decode bPL_addLink 13 = .ok (.iastore, 1) := by decide +kernel
theorem dPL_addLink_14 : decode bPL_addLink 14 = .ok (.aload_n 0, 1) := by decide +kernel
theorem dPL_addLink_15 : decode bPL_addLink 15 = .ok (.getfield 15, 3) := by decide +kernel
theorem dPL_addLink_18 : decode bPL_addLink 18 = .ok (.iload 4, 2) := by decide +kernel
theorem dPL_addLink_20 : decode bPL_addLink 20 = .ok (.iload_n 2, 1) := by decide +kernel
theorem dPL_addLink_21 : decode bPL_addLink 21 = .ok (.iastore, 1) := by decide +kernel
theorem dPL_addLink_22 : decode bPL_addLink 22 = .ok (.aload_n 0, 1) := by decide +kernel
theorem dPL_addLink_23 : decode bPL_addLink 23 = .ok (.getfield 18, 3) := by decide +kernel
theorem dPL_addLink_26 : decode bPL_addLink 26 = .ok (.iload 4, 2) := by decide +kernel
theorem dPL_addLink_28 : decode bPL_addLink 28 = .ok (.iload_n 3, 1) := by decide +kernel
theorem dPL_addLink_29 : decode bPL_addLink 29 = .ok (.iastore, 1) := by decide +kernel
theorem dPL_addLink_30 : decode bPL_addLink 30 = .ok (.aload_n 0, 1) := by decide +kernel
theorem dPL_addLink_31 : decode bPL_addLink 31 = .ok (.getfield 27, 3) := by decide +kernel
theorem dPL_addLink_34 : decode bPL_addLink 34 = .ok (.iconst 2, 1) := by decide +kernel
theorem dPL_addLink_35 : decode bPL_addLink 35 = .ok (.iload 4, 2) := by decide +kernel
theorem dPL_addLink_37 : decode bPL_addLink 37 = .ok (.imul, 1) := by decide +kernel
theorem dPL_addLink_38 : decode bPL_addLink 38 = .ok (.iload_n 1, 1) := by decide +kernel
theorem dPL_addLink_39 : decode bPL_addLink 39 = .ok (.bipush 6, 2) := by decide +kernel
theorem dPL_addLink_41 : decode bPL_addLink 41 = .ok (.imul, 1) := by decide +kernel
theorem dPL_addLink_42 : decode bPL_addLink 42 = .ok (.iload_n 3, 1) := by decide +kernel
theorem dPL_addLink_43 : decode bPL_addLink 43 = .ok (.iadd, 1) := by decide +kernel
theorem dPL_addLink_44 : decode bPL_addLink 44 = .ok (.iastore, 1) := by decide +kernel
theorem dPL_addLink_45 : decode bPL_addLink 45 = .ok (.aload_n 0, 1) := by decide +kernel
theorem dPL_addLink_46 : decode bPL_addLink 46 = .ok (.getfield 27, 3) := by decide +kernel
theorem dPL_addLink_49 : decode bPL_addLink 49 = .ok (.iconst 2, 1) := by decide +kernel
theorem dPL_addLink_50 : decode bPL_addLink 50 = .ok (.iload 4, 2) := by decide +kernel
theorem dPL_addLink_52 : decode bPL_addLink 52 = .ok (.imul, 1) := by decide +kernel
theorem dPL_addLink_53 : decode bPL_addLink 53 = .ok (.iconst 1, 1) := by decide +kernel
theorem dPL_addLink_54 : decode bPL_addLink 54 = .ok (.iadd, 1) := by decide +kernel
theorem dPL_addLink_55 : decode bPL_addLink 55 = .ok (.iload_n 2, 1) := by decide +kernel
theorem dPL_addLink_56 : decode bPL_addLink 56 = .ok (.bipush 6, 2) := by decide +kernel
theorem dPL_addLink_58 : decode bPL_addLink 58 = .ok (.imul, 1) := by decide +kernel
theorem dPL_addLink_59 : decode bPL_addLink 59 = .ok (.iload_n 3, 1) := by decide +kernel
theorem dPL_addLink_60 : decode bPL_addLink 60 = .ok (.iadd, 1) := by decide +kernel
theorem dPL_addLink_61 : decode bPL_addLink 61 = .ok (.iastore, 1) := by decide +kernel
theorem dPL_addLink_62 : decode bPL_addLink 62 = .ok (.aload_n 0, 1) := by decide +kernel
theorem dPL_addLink_63 : decode bPL_addLink 63 = .ok (.iload 4, 2) := by decide +kernel
theorem dPL_addLink_65 : decode bPL_addLink 65 = .ok (.iconst 1, 1) := by decide +kernel
theorem dPL_addLink_66 : decode bPL_addLink 66 = .ok (.iadd, 1) := by decide +kernel
theorem dPL_addLink_67 : decode bPL_addLink 67 = .ok (.putfield 46, 3) := by decide +kernel
theorem dPL_addLink_70 : decode bPL_addLink 70 = .ok (.iload 4, 2) := by decide +kernel
theorem dPL_addLink_72 : decode bPL_addLink 72 = .ok (.ireturn, 1) := by decide +kernel
theorem dPL_firstFault_0 : decode bPL_firstFault 0 = .ok (.aload_n 0, 1) := by decide +kernel
theorem dPL_firstFault_1 : decode bPL_firstFault 1 = .ok (.getfield 46, 3) := by decide +kernel
theorem dPL_firstFault_4 : decode bPL_firstFault 4 = .ok (.ifCond .eq 10, 3) := by decide +kernel
theorem dPL_firstFault_7 : decode bPL_firstFault 7 = .ok (.aload_n 0, 1) := by decide +kernel
theorem dPL_firstFault_8 : decode bPL_firstFault 8 = .ok (.invokevirtual 58, 3) := by decide +kernel
theorem dPL_firstFault_11 : decode bPL_firstFault 11 = .ok (.ifCond .eq 6, 3) := by decide +kernel
theorem dPL_firstFault_14 : decode bPL_firstFault 14 = .ok (.bipush 7, 2) := by decide +kernel
theorem dPL_firstFault_16 : decode bPL_firstFault 16 = .ok (.ireturn, 1) := by decide +kernel
theorem dPL_firstFault_17 : decode bPL_firstFault 17 = .ok (.iconst 1, 1) := by decide +kernel
theorem dPL_firstFault_18 : decode bPL_firstFault 18 = .ok (.istore_n 2, 1) := by decide +kernel
theorem dPL_firstFault_19 : decode bPL_firstFault 19 = .ok (.iconst 0, 1) := by decide +kernel
theorem dPL_firstFault_20 : decode bPL_firstFault 20 = .ok (.istore_n 3, 1) := by decide +kernel
theorem dPL_firstFault_21 : decode bPL_firstFault 21 = .ok (.iload_n 3, 1) := by decide +kernel
theorem dPL_firstFault_22 : decode bPL_firstFault 22 = .ok (.bipush 6, 2) := by decide +kernel
theorem dPL_firstFault_24 : decode bPL_firstFault 24 = .ok (.if_icmp .ge 44, 3) := by decide +kernel
theorem dPL_firstFault_27 : decode bPL_firstFault 27 = .ok (.aload_n 0, 1) := by decide +kernel
theorem dPL_firstFault_28 : decode bPL_firstFault 28 = .ok (.iload_n 3, 1) := by decide +kernel
theorem dPL_firstFault_29 : decode bPL_firstFault 29 = .ok (.invokevirtual 50, 3) := by decide +kernel
theorem dPL_firstFault_32 : decode bPL_firstFault 32 = .ok (.ifCond .ne 6, 3) := by decide +kernel
theorem dPL_firstFault_35 : decode bPL_firstFault 35 = .ok (.goto 27, 3) := by decide +kernel
theorem dPL_firstFault_38 : decode bPL_firstFault 38 = .ok (.aload_n 0, 1) := by decide +kernel
theorem dPL_firstFault_39 : decode bPL_firstFault 39 = .ok (.iload_n 3, 1) := by decide +kernel
theorem dPL_firstFault_40 : decode bPL_firstFault 40 = .ok (.iload_n 2, 1) := by decide +kernel
theorem dPL_firstFault_41 : decode bPL_firstFault 41 = .ok (.aload_n 1, 1) := by decide +kernel
theorem dPL_firstFault_42 : decode bPL_firstFault 42 = .ok (.invokevirtual 62, 3) := by decide +kernel
theorem dPL_firstFault_45 : decode bPL_firstFault 45 = .ok (.ifCond .eq 11, 3) := by decide +kernel
theorem dPL_firstFault_48 : decode bPL_firstFault 48 = .ok (.aload_n 0, 1) := by decide +kernel
theorem dPL_firstFault_49 : decode bPL_firstFault 49 = .ok (.iload_n 3, 1) := by decide +kernel
theorem dPL_firstFault_50 : decode bPL_firstFault 50 = .ok (.invokevirtual 66, 3) := by decide +kernel
theorem dPL_firstFault_53 : decode bPL_firstFault 53 = .ok (.ifCond .ne 7, 3) := by decide +kernel
theorem dPL_firstFault_56 : decode bPL_firstFault 56 = .ok (.iconst 1, 1) := by decide +kernel
theorem dPL_firstFault_57 : decode bPL_firstFault 57 = .ok (.iload_n 3, 1) := by decide +kernel
theorem dPL_firstFault_58 : decode bPL_firstFault 58 = .ok (.iadd, 1) := by decide +kernel
theorem dPL_firstFault_59 : decode bPL_firstFault 59 = .ok (.ireturn, 1) := by decide +kernel
theorem dPL_firstFault_60 : decode bPL_firstFault 60 = .ok (.iconst 0, 1) := by decide +kernel
theorem dPL_firstFault_61 : decode bPL_firstFault 61 = .ok (.istore_n 2, 1) := by decide +kernel
theorem dPL_firstFault_62 : decode bPL_firstFault 62 = .ok (.iinc 3 1, 3) := by decide +kernel
theorem dPL_firstFault_65 : decode bPL_firstFault 65 = .ok (.goto (-44), 3) := by decide +kernel
theorem dPL_firstFault_68 : decode bPL_firstFault 68 = .ok (.iconst 0, 1) := by decide +kernel
theorem dPL_firstFault_69 : decode bPL_firstFault 69 = .ok (.ireturn, 1) := by decide +kernel
theorem dPL_hasRightShape_0 : decode bPL_hasRightShape 0 = .ok (.iconst 0, 1) := by decide +kernel
theorem dPL_hasRightShape_1 : decode bPL_hasRightShape 1 = .ok (.istore 4, 2) := by decide +kernel
theorem dPL_hasRightShape_3 : decode bPL_hasRightShape 3 = .ok (.iconst 0, 1) := by decide +kernel
theorem dPL_hasRightShape_4 : decode bPL_hasRightShape 4 = .ok (.istore 5, 2) := by decide +kernel
theorem dPL_hasRightShape_6 : decode bPL_hasRightShape 6 = .ok (.iconst 0, 1) := by decide +kernel
theorem dPL_hasRightShape_7 : decode bPL_hasRightShape 7 = .ok (.istore 6, 2) := by decide +kernel
theorem dPL_hasRightShape_9 : decode bPL_hasRightShape 9 = .ok (.iconst 0, 1) := by decide +kernel
theorem dPL_hasRightShape_10 : decode bPL_hasRightShape 10 = .ok (.istore 7, 2) := by decide +kernel
theorem dPL_hasRightShape_12 : decode bPL_hasRightShape 12 = .ok (.iload 7, 2) := by decide +kernel
theorem dPL_hasRightShape_14 : decode bPL_hasRightShape 14 = .ok (.aload_n 0, 1) := by decide +kernel
theorem dPL_hasRightShape_15 : decode bPL_hasRightShape 15 = .ok (.getfield 69, 3) := by decide +kernel
theorem dPL_hasRightShape_18 : decode bPL_hasRightShape 18 = .ok (.if_icmp .ge 82, 3) := by decide +kernel
theorem dPL_hasRightShape_21 : decode bPL_hasRightShape 21 = .ok (.aload_n 0, 1) := by decide +kernel
theorem dPL_hasRightShape_22 : decode bPL_hasRightShape 22 = .ok (.iload 7, 2) := by decide +kernel
theorem dPL_hasRightShape_24 : decode bPL_hasRightShape 24 = .ok (.iload_n 1, 1) := by decide +kernel
theorem dPL_hasRightShape_25 : decode bPL_hasRightShape 25 = .ok (.invokevirtual 76, 3) := by decide +kernel
theorem dPL_hasRightShape_28 : decode bPL_hasRightShape 28 = .ok (.istore 8, 2) := by decide +kernel
theorem dPL_hasRightShape_30 : decode bPL_hasRightShape 30 = .ok (.iload 8, 2) := by decide +kernel
theorem dPL_hasRightShape_32 : decode bPL_hasRightShape 32 = .ok (.iconst 2, 1) := by decide +kernel
theorem dPL_hasRightShape_33 : decode bPL_hasRightShape 33 = .ok (.if_icmp .le 5, 3) := by decide +kernel
theorem dPL_hasRightShape_36 : decode bPL_hasRightShape 36 = .ok (.iconst 0, 1) := by decide +kernel
theorem dPL_hasRightShape_37 : decode bPL_hasRightShape 37 = .ok (.ireturn, 1) := by decide +kernel
theorem dPL_hasRightShape_38 : decode bPL_hasRightShape 38 = .ok (.iload 4, 2) := by decide +kernel
theorem dPL_hasRightShape_40 : decode bPL_hasRightShape 40 = .ok (.iload 8, 2) := by decide +kernel
theorem dPL_hasRightShape_42 : decode bPL_hasRightShape 42 = .ok (.ifCond .le 7, 3) := by decide +kernel
theorem dPL_hasRightShape_45 : decode bPL_hasRightShape 45 = .ok (.iconst 1, 1) := by decide +kernel
theorem dPL_hasRightShape_46 : decode bPL_hasRightShape 46 = .ok (.goto 4, 3) := by decide +kernel
theorem dPL_hasRightShape_49 : decode bPL_hasRightShape 49 = .ok (.iconst 0, 1) := by decide +kernel
theorem dPL_hasRightShape_50 : decode bPL_hasRightShape 50 = .ok (.iadd, 1) := by decide +kernel
theorem dPL_hasRightShape_51 : decode bPL_hasRightShape 51 = .ok (.istore 4, 2) := by decide +kernel
theorem dPL_hasRightShape_53 : decode bPL_hasRightShape 53 = .ok (.iload 5, 2) := by decide +kernel
theorem dPL_hasRightShape_55 : decode bPL_hasRightShape 55 = .ok (.iload 8, 2) := by decide +kernel
theorem dPL_hasRightShape_57 : decode bPL_hasRightShape 57 = .ok (.iconst 1, 1) := by decide +kernel
theorem dPL_hasRightShape_58 : decode bPL_hasRightShape 58 = .ok (.if_icmp .ne 7, 3) := by decide +kernel
theorem dPL_hasRightShape_61 : decode bPL_hasRightShape 61 = .ok (.iconst 1, 1) := by decide +kernel
theorem dPL_hasRightShape_62 : decode bPL_hasRightShape 62 = .ok (.goto 4, 3) := by decide +kernel
theorem dPL_hasRightShape_65 : decode bPL_hasRightShape 65 = .ok (.iconst 0, 1) := by decide +kernel
theorem dPL_hasRightShape_66 : decode bPL_hasRightShape 66 = .ok (.iadd, 1) := by decide +kernel
theorem dPL_hasRightShape_67 : decode bPL_hasRightShape 67 = .ok (.istore 5, 2) := by decide +kernel
theorem dPL_hasRightShape_69 : decode bPL_hasRightShape 69 = .ok (.iload 6, 2) := by decide +kernel
theorem dPL_hasRightShape_71 : decode bPL_hasRightShape 71 = .ok (.iload 8, 2) := by decide +kernel
theorem dPL_hasRightShape_73 : decode bPL_hasRightShape 73 = .ok (.ifCond .le 17, 3) := by decide +kernel
theorem dPL_hasRightShape_76 : decode bPL_hasRightShape 76 = .ok (.aload_n 0, 1) := by decide +kernel
theorem dPL_hasRightShape_77 : decode bPL_hasRightShape 77 = .ok (.iload 7, 2) := by decide +kernel
theorem dPL_hasRightShape_79 : decode bPL_hasRightShape 79 = .ok (.iload_n 1, 1) := by decide +kernel
theorem dPL_hasRightShape_80 : decode bPL_hasRightShape 80 = .ok (.invokevirtual 72, 3) := by decide +kernel
theorem dPL_hasRightShape_83 : decode bPL_hasRightShape 83 = .ok (.ifCond .eq 7, 3) := by decide +kernel
theorem dPL_hasRightShape_86 : decode bPL_hasRightShape 86 = .ok (.iconst 1, 1) := by decide +kernel
theorem dPL_hasRightShape_87 : decode bPL_hasRightShape 87 = .ok (.goto 4, 3) := by decide +kernel
theorem dPL_hasRightShape_90 : decode bPL_hasRightShape 90 = .ok (.iconst 0, 1) := by decide +kernel
theorem dPL_hasRightShape_91 : decode bPL_hasRightShape 91 = .ok (.iadd, 1) := by decide +kernel
theorem dPL_hasRightShape_92 : decode bPL_hasRightShape 92 = .ok (.istore 6, 2) := by decide +kernel
theorem dPL_hasRightShape_94 : decode bPL_hasRightShape 94 = .ok (.iinc 7 1, 3) := by decide +kernel
theorem dPL_hasRightShape_97 : decode bPL_hasRightShape 97 = .ok (.goto (-85), 3) := by decide +kernel
theorem dPL_hasRightShape_100 : decode bPL_hasRightShape 100 = .ok (.iload 4, 2) := by decide +kernel
theorem dPL_hasRightShape_102 : decode bPL_hasRightShape 102 = .ok (.iconst 3, 1) := by decide +kernel
theorem dPL_hasRightShape_103 : decode bPL_hasRightShape 103 = .ok (.if_icmp .lt 14, 3) := by decide +kernel
theorem dPL_hasRightShape_106 : decode bPL_hasRightShape 106 = .ok (.aload_n 0, 1) := by decide +kernel
theorem dPL_hasRightShape_107 : decode bPL_hasRightShape 107 = .ok (.iload_n 1, 1) := by decide +kernel
theorem dPL_hasRightShape_108 : decode bPL_hasRightShape 108 = .ok (.iload 4, 2) := by decide +kernel
theorem dPL_hasRightShape_110 : decode bPL_hasRightShape 110 = .ok (.aload_n 3, 1) := by decide +kernel
theorem dPL_hasRightShape_111 : decode bPL_hasRightShape 111 = .ok (.invokevirtual 79, 3) := by decide +kernel
theorem dPL_hasRightShape_114 : decode bPL_hasRightShape 114 = .ok (.ifCond .ne 5, 3) := by decide +kernel
theorem dPL_hasRightShape_117 : decode bPL_hasRightShape 117 = .ok (.iconst 0, 1) := by decide +kernel
theorem dPL_hasRightShape_118 : decode bPL_hasRightShape 118 = .ok (.ireturn, 1) := by decide +kernel
theorem dPL_hasRightShape_119 : decode bPL_hasRightShape 119 = .ok (.aload_n 0, 1) := by decide +kernel
theorem dPL_hasRightShape_120 : decode bPL_hasRightShape 120 = .ok (.getfield 36, 3) := by decide +kernel
theorem dPL_hasRightShape_123 : decode bPL_hasRightShape 123 = .ok (.iload_n 1, 1) := by decide +kernel
theorem dPL_hasRightShape_124 : decode bPL_hasRightShape 124 = .ok (.iload 5, 2) := by decide +kernel
theorem dPL_hasRightShape_126 : decode bPL_hasRightShape 126 = .ok (.ifCond .ne 7, 3) := by decide +kernel
theorem dPL_hasRightShape_129 : decode bPL_hasRightShape 129 = .ok (.iconst 1, 1) := by decide +kernel
theorem dPL_hasRightShape_130 : decode bPL_hasRightShape 130 = .ok (.goto 4, 3) := by decide +kernel
theorem dPL_hasRightShape_133 : decode bPL_hasRightShape 133 = .ok (.iconst 0, 1) := by decide +kernel
theorem dPL_hasRightShape_134 : decode bPL_hasRightShape 134 = .ok (.bastore, 1) := by decide +kernel
theorem dPL_hasRightShape_135 : decode bPL_hasRightShape 135 = .ok (.iload 5, 2) := by decide +kernel
theorem dPL_hasRightShape_137 : decode bPL_hasRightShape 137 = .ok (.ifCond .ne 23, 3) := by decide +kernel
theorem dPL_hasRightShape_140 : decode bPL_hasRightShape 140 = .ok (.iload 6, 2) := by decide +kernel
theorem dPL_hasRightShape_142 : decode bPL_hasRightShape 142 = .ok (.iload_n 2, 1) := by decide +kernel
theorem dPL_hasRightShape_143 : decode bPL_hasRightShape 143 = .ok (.ifCond .eq 7, 3) := by decide +kernel
theorem dPL_hasRightShape_146 : decode bPL_hasRightShape 146 = .ok (.iconst 0, 1) := by decide +kernel
theorem dPL_hasRightShape_147 : decode bPL_hasRightShape 147 = .ok (.goto 4, 3) := by decide +kernel
theorem dPL_hasRightShape_150 : decode bPL_hasRightShape 150 = .ok (.iconst 1, 1) := by decide +kernel
theorem dPL_hasRightShape_151 : decode bPL_hasRightShape 151 = .ok (.if_icmp .ne 7, 3) := by decide +kernel
theorem dPL_hasRightShape_154 : decode bPL_hasRightShape 154 = .ok (.iconst 1, 1) := by decide +kernel
theorem dPL_hasRightShape_155 : decode bPL_hasRightShape 155 = .ok (.goto 4, 3) := by decide +kernel
theorem dPL_hasRightShape_158 : decode bPL_hasRightShape 158 = .ok (.iconst 0, 1) := by decide +kernel
theorem dPL_hasRightShape_159 : decode bPL_hasRightShape 159 = .ok (.ireturn, 1) := by decide +kernel
theorem dPL_hasRightShape_160 : decode bPL_hasRightShape 160 = .ok (.iload 6, 2) := by decide +kernel
theorem dPL_hasRightShape_162 : decode bPL_hasRightShape 162 = .ok (.iconst 2, 1) := by decide +kernel
theorem dPL_hasRightShape_163 : decode bPL_hasRightShape 163 = .ok (.if_icmp .ne 15, 3) := by decide +kernel
theorem dPL_hasRightShape_166 : decode bPL_hasRightShape 166 = .ok (.aload_n 0, 1) := by decide +kernel
theorem dPL_hasRightShape_167 : decode bPL_hasRightShape 167 = .ok (.iload_n 1, 1) := by decide +kernel
theorem dPL_hasRightShape_168 : decode bPL_hasRightShape 168 = .ok (.invokevirtual 83, 3) := by decide +kernel
theorem dPL_hasRightShape_171 : decode bPL_hasRightShape 171 = .ok (.ifCond .eq 7, 3) := by decide +kernel
theorem dPL_hasRightShape_174 : decode bPL_hasRightShape 174 = .ok (.iconst 1, 1) := by decide +kernel
theorem dPL_hasRightShape_175 : decode bPL_hasRightShape 175 = .ok (.goto 4, 3) := by decide +kernel
theorem dPL_hasRightShape_178 : decode bPL_hasRightShape 178 = .ok (.iconst 0, 1) := by decide +kernel
theorem dPL_hasRightShape_179 : decode bPL_hasRightShape 179 = .ok (.ireturn, 1) := by decide +kernel
theorem dPL_isOnePiece_0 : decode bPL_isOnePiece 0 = .ok (.aload_n 3, 1) := by decide +kernel
theorem dPL_isOnePiece_1 : decode bPL_isOnePiece 1 = .ok (.aload_n 0, 1) := by decide +kernel
theorem dPL_isOnePiece_2 : decode bPL_isOnePiece 2 = .ok (.getfield 69, 3) := by decide +kernel
theorem dPL_isOnePiece_5 : decode bPL_isOnePiece 5 = .ok (.invokevirtual 86, 3) := by decide +kernel
theorem dPL_isOnePiece_8 : decode bPL_isOnePiece 8 = .ok (.iconst 0, 1) := by decide +kernel
theorem dPL_isOnePiece_9 : decode bPL_isOnePiece 9 = .ok (.istore 4, 2) := by decide +kernel
theorem dPL_isOnePiece_11 : decode bPL_isOnePiece 11 = .ok (.iload 4, 2) := by decide +kernel
theorem dPL_isOnePiece_13 : decode bPL_isOnePiece 13 = .ok (.aload_n 0, 1) := by decide +kernel
theorem dPL_isOnePiece_14 : decode bPL_isOnePiece 14 = .ok (.getfield 46, 3) := by decide +kernel
theorem dPL_isOnePiece_17 : decode bPL_isOnePiece 17 = .ok (.if_icmp .ge 39, 3) := by decide +kernel
theorem dPL_isOnePiece_20 : decode bPL_isOnePiece 20 = .ok (.aload_n 0, 1) := by decide +kernel
theorem dPL_isOnePiece_21 : decode bPL_isOnePiece 21 = .ok (.getfield 18, 3) := by decide +kernel
theorem dPL_isOnePiece_24 : decode bPL_isOnePiece 24 = .ok (.iload 4, 2) := by decide +kernel
theorem dPL_isOnePiece_26 : decode bPL_isOnePiece 26 = .ok (.iaload, 1) := by decide +kernel
theorem dPL_isOnePiece_27 : decode bPL_isOnePiece 27 = .ok (.iload_n 1, 1) := by decide +kernel
theorem dPL_isOnePiece_28 : decode bPL_isOnePiece 28 = .ok (.if_icmp .ne 22, 3) := by decide +kernel
theorem dPL_isOnePiece_31 : decode bPL_isOnePiece 31 = .ok (.aload_n 3, 1) := by decide +kernel
theorem dPL_isOnePiece_32 : decode bPL_isOnePiece 32 = .ok (.aload_n 0, 1) := by decide +kernel
theorem dPL_isOnePiece_33 : decode bPL_isOnePiece 33 = .ok (.getfield 9, 3) := by decide +kernel
theorem dPL_isOnePiece_36 : decode bPL_isOnePiece 36 = .ok (.iload 4, 2) := by decide +kernel
theorem dPL_isOnePiece_38 : decode bPL_isOnePiece 38 = .ok (.iaload, 1) := by decide +kernel
theorem dPL_isOnePiece_39 : decode bPL_isOnePiece 39 = .ok (.aload_n 0, 1) := by decide +kernel
theorem dPL_isOnePiece_40 : decode bPL_isOnePiece 40 = .ok (.getfield 15, 3) := by decide +kernel
theorem dPL_isOnePiece_43 : decode bPL_isOnePiece 43 = .ok (.iload 4, 2) := by decide +kernel
theorem dPL_isOnePiece_45 : decode bPL_isOnePiece 45 = .ok (.iaload, 1) := by decide +kernel
theorem dPL_isOnePiece_46 : decode bPL_isOnePiece 46 = .ok (.invokevirtual 92, 3) := by decide +kernel
theorem dPL_isOnePiece_49 : decode bPL_isOnePiece 49 = .ok (.pop, 1) := by decide +kernel
theorem dPL_isOnePiece_50 : decode bPL_isOnePiece 50 = .ok (.iinc 4 1, 3) := by decide +kernel
theorem dPL_isOnePiece_53 : decode bPL_isOnePiece 53 = .ok (.goto (-42), 3) := by decide +kernel
theorem dPL_isOnePiece_56 : decode bPL_isOnePiece 56 = .ok (.aload_n 3, 1) := by decide +kernel
theorem dPL_isOnePiece_57 : decode bPL_isOnePiece 57 = .ok (.getfield 95, 3) := by decide +kernel
theorem dPL_isOnePiece_60 : decode bPL_isOnePiece 60 = .ok (.aload_n 0, 1) := by decide +kernel
theorem dPL_isOnePiece_61 : decode bPL_isOnePiece 61 = .ok (.getfield 69, 3) := by decide +kernel
theorem dPL_isOnePiece_64 : decode bPL_isOnePiece 64 = .ok (.iload_n 2, 1) := by decide +kernel
theorem dPL_isOnePiece_65 : decode bPL_isOnePiece 65 = .ok (.isub, 1) := by decide +kernel
theorem dPL_isOnePiece_66 : decode bPL_isOnePiece 66 = .ok (.iconst 1, 1) := by decide +kernel
theorem dPL_isOnePiece_67 : decode bPL_isOnePiece 67 = .ok (.iadd, 1) := by decide +kernel
theorem dPL_isOnePiece_68 : decode bPL_isOnePiece 68 = .ok (.if_icmp .ne 7, 3) := by decide +kernel
theorem dPL_isOnePiece_71 : decode bPL_isOnePiece 71 = .ok (.iconst 1, 1) := by decide +kernel
theorem dPL_isOnePiece_72 : decode bPL_isOnePiece 72 = .ok (.goto 4, 3) := by decide +kernel
theorem dPL_isOnePiece_75 : decode bPL_isOnePiece 75 = .ok (.iconst 0, 1) := by decide +kernel
theorem dPL_isOnePiece_76 : decode bPL_isOnePiece 76 = .ok (.ireturn, 1) := by decide +kernel
noncomputable def fPL_isOnePiece_50 (P : ZS) (rc11 : ZS → Int32 → Int32 → Int32 → (ZS × Int32)) (S_50 : ZS) (x50_1 : Int32) (x50_2 : Int32) (x50_4 : Int32) : ZS × Int32 := zl (x50_4 + 1) (fun k1 => rc11 S_50 x50_1 x50_2 k1)
noncomputable def fPL_isOnePiece_11 (P : ZS) (rc11 : ZS → Int32 → Int32 → Int32 → (ZS × Int32)) (S_11 : ZS) (x11_1 : Int32) (x11_2 : Int32) (x11_4 : Int32) : ZS × Int32 := zl (P.I 1) (fun k2 => (if k2 ≤ x11_4 then zl (S_11.I 14) (fun k3 => zl (P.I 0) (fun k4 => zl (k4 - x11_2) (fun k5 => zl (k5 + 1) (fun k6 => (if k3 = k6 then (S_11, 1) else (S_11, 0)))))) else zl (P.F 2 (x11_4 : Int32).toNatClampNeg) (fun k7 => (if k7 = x11_1 then zl (P.F 0 (x11_4 : Int32).toNatClampNeg) (fun k8 => zl (P.F 1 (x11_4 : Int32).toNatClampNeg) (fun k9 => zl2 (fGR_join P S_11 k8 k9) (fun S12 k11 => fPL_isOnePiece_50 P rc11 S12 x11_1 x11_2 x11_4))) else fPL_isOnePiece_50 P rc11 S_11 x11_1 x11_2 x11_4))))
noncomputable def fPL_isOnePiece (P S : ZS) (x0 : Int32) (x1 : Int32) : ZS × Int32 := zl (P.I 0) (fun k14 => zl (fGR_separate P S k14) (fun S16 => zfix (fun S9 _ _ _ => (S9, 0)) (fPL_isOnePiece_11 P) 61 S16 x0 x1 0))
set_option maxHeartbeats 4000000 in
set_option maxRecDepth 100000 in
theorem tPL_isOnePiece (l : Launch) (dC : Nat → ClassId) (dI : Nat → Nat → Nat) (cI cZ cJ cA : ClassId) (a0 : Array Value) (s0 : State) (o b : Nat → Nat) (P S : ZS) (sz : Nat) (x0 : Int32) (x1 : Int32) (gP : cok P) (gS : cok S) : Met l yPL_isOnePiece [Cond.code yPL_isOnePiece bPL_isOnePiece 5 (some .boolean)] ({ frames := 1, cells := 0, slots := 0, locals := 25 } : Room) (zP zCl dC dI (zTZ cI cZ cJ cA) a0 s0 [.ref (o 1), .int x0, .int x1, .ref (o 6)] sz (CW cI cZ cA o b P S)) (zQH zCl dC dI (fun (r : Int32) (x9 : ZS) => (x9, r) = fPL_isOnePiece P S x0 x1 ∧ cok x9 ∧ zr 0 1 r) (fun x9 : ZS => (CW cI cZ cA o b P x9)) (va_A (CW cI cZ cA o b P S) sz)) 0 0 (va_A (CW cI cZ cA o b P S) sz) := by
  refine Met.ofW (cc := bPL_isOnePiece) (maxL := 5) (ret := (some .boolean)) (by decide) rfl ?_
  intro p e s m args below meth c s₁ B hml hv
  obtain ⟨rfl, hsz, hP, hK, hD0, hB⟩ := hv
  have hx := B.exec
  have hb := B.bytes
  have hr := B.returns
  have hown : s.vm.findClass "RingGuard$Plan" = some m.cls := findClass_of_methodNamed B.named
  have hlocks := B.notSynchronized
  subst hsz
  have hD := hD0.self (sz := s.heap.size)
  have hA0 := zA0 hD0 hB
  generalize hAe : va_A (CW cI cZ cA o b P S) s.heap.size = A at hD hA0 ⊢
  have hAD := hA0
  have hA : ∀ q : Nat, s.heap.size ≤ q → A q := fun q h => by rw [← hAe]; exact Or.inr h
  have hS : va_S A s.heap s.heap [] := va_S.rf
  have hl := lv_entry ([.ref (o 1), .int x0, .int x1, .ref (o 6)]) (n := 5) (Nat.le_of_ble_eq_true rfl)
  rw [lg_entry_eq]
  generalize (lg_sl ([.ref (o 1), .int x0, .int x1, .ref (o 6)]) ++ List.replicate (5 - (lg_sl ([.ref (o 1), .int x0, .int x1, .ref (o 6)])).length) Slot.unset).toArray = ls at hl ⊢
  have hl : lv_has ls 5 [(0, .ref (o 1)), (1, .int x0), (2, .int x1), (3, .ref (o 6))] := hl
  refine zgenQ (fun Q hQe => ?_)
  obtain ⟨tg, etg⟩ : ∃ z, z = fPL_isOnePiece P S x0 x1 := ⟨_, rfl⟩
  have E := etg
  unfold fPL_isOnePiece at E
  have hL11 : ∀ (n11 : Nat) (H : Heap) (locs : List Loc) (ls : Array Slot) (S_11 : ZS) (x11_1 : Int32) (x11_2 : Int32) (x11_4 : Int32), zr 0 60 x11_4 → cok S_11 → 60 + 1 - x11_4.toInt ≤ (n11 : Int) → tg = zfix (fun S9 _ _ _ => (S9, 0)) (fPL_isOnePiece_11 P) n11 S_11 x11_1 x11_2 x11_4 → va_P (dC, dI) zCl (CW cI cZ cA o b P S_11) H → va_D A (CW cI cZ cA o b P S_11) → va_S A s.heap H locs → lv_has ls 5 [(0, .ref (o 1)), (1, .int x11_1), (2, .int x11_2), (3, .ref (o 6)), (4, .int x11_4)] → W p l e ({ frames := 1, cells := 0, slots := 0, locals := 25 } : Room) s m ([.ref (o 1), .int x0, .int x1, .ref (o 6)] : List Value).toArray below meth c H locs 0 0 Q (F0 m 11 ls []) := by
    intro n11
    induction n11 with
    | zero => intro H locs ls S_11 x11_1 x11_2 x11_4 r_x11_4 gS_11 hm11 E hP hD hS hl; exact absurd hm11 (zfuel0U r_x11_4)
    | succ n11 ih11 =>
      intro H locs ls S_11 x11_1 x11_2 x11_4 r_x11_4 gS_11 hm11 E hP hD hS hl
      rw [zfix_s] at E
      generalize zfix (fun S9 _ _ _ => (S9, 0)) (fPL_isOnePiece_11 P) n11 = rc11 at ih11 E
      unfold fPL_isOnePiece_11 at E
      have hJ50 : ∀ (H : Heap) (locs : List Loc) (ls : Array Slot) (S_50 : ZS) (x50_1 : Int32) (x50_2 : Int32) (x50_4 : Int32), zr 0 59 x50_4 → cok S_50 → 60 + 1 - x50_4.toInt ≤ ((n11 + 1 : Nat) : Int) → tg = fPL_isOnePiece_50 P rc11 S_50 x50_1 x50_2 x50_4 → va_P (dC, dI) zCl (CW cI cZ cA o b P S_50) H → va_D A (CW cI cZ cA o b P S_50) → va_S A s.heap H locs → lv_has ls 5 [(0, .ref (o 1)), (1, .int x50_1), (2, .int x50_2), (3, .ref (o 6)), (4, .int x50_4)] → W p l e ({ frames := 1, cells := 0, slots := 0, locals := 25 } : Room) s m ([.ref (o 1), .int x0, .int x1, .ref (o 6)] : List Value).toArray below meth c H locs 0 0 Q (F0 m 50 ls []) := by
        intro H locs ls S_50 x50_1 x50_2 x50_4 r_x50_4 gS_50 hm11_50 E hP hD hS hl
        unfold fPL_isOnePiece_50 at E
        refine z_iinc (lv' := fun v9 => [(4, .int v9), (0, .ref (o 1)), (1, .int x50_1), (2, .int x50_2), (3, .ref (o 6))]) (cst := 1) hx hb dPL_isOnePiece_50 hl (k := 4) rfl (by decide) (by decide) (fun _ => rfl) E (fun k1 ls ek1 E hl => ?_)
        have r_k1 : zr 1 60 k1 := zr_add r_x50_4 (show zr 1 1 1 from by decide) ek1 (by decide)
        refine lv_goto (tgt := 11) hx hb dPL_isOnePiece_53 (by decide) ?_
        exact ih11 H locs ls S_50 x50_1 x50_2 k1 (zr_mono r_k1 (by decide)) gS_50 (zstepU ek1 r_x50_4 (by decide) hm11_50) E hP hD hS (lv_sub hl [1, 2, 3, 4, 0] rfl)
      refine lv_iload hx hb dPL_isOnePiece_11 (lv_at hl 4 rfl) ?_
      refine lv_aload_n hx hb dPL_isOnePiece_13 rfl (lv_at hl 0 rfl) ?_
      refine c_get_1 hx hb (hB.words zU_PL) hown hK hP (hB.word (zm1 k1_37) rfl) dPL_isOnePiece_14 E (fun k2 ek2 E => ?_)
      have r_k2 : zr 0 60 k2 := by rw [ek2]; exact gP.2.1 1
      refine z_icmp_ge (tgt := 56) hx hb dPL_isOnePiece_17 (by decide) E (fun c_17 E => ?_) (fun c_17 E => ?_)
      · refine lv_aload_n hx hb dPL_isOnePiece_56 rfl (lv_at hl 3 rfl) ?_
        refine c_get_14 hx hb (hB.words zU_GR) hown hK hP (hB.word (zm1 k1_225) rfl) dPL_isOnePiece_57 E (fun k3 ek3 E => ?_)
        refine lv_aload_n hx hb dPL_isOnePiece_60 rfl (lv_at hl 0 rfl) ?_
        refine c_get_0 hx hb (hB.words zU_PL) hown hK hP (hB.word (zm1 k1_35) rfl) dPL_isOnePiece_61 E (fun k4 ek4 E => ?_)
        have r_k4 : zr 0 48 k4 := by rw [ek4]; exact gP.2.1 0
        refine lv_iload_n hx hb dPL_isOnePiece_64 rfl (lv_at hl 2 rfl) ?_
        refine z_isub hx hb dPL_isOnePiece_65 E (fun k5 ek5 E => ?_)
        refine lv_iconst (v := 1) hx hb dPL_isOnePiece_66 (by decide) ?_
        refine z_iadd hx hb dPL_isOnePiece_67 E (fun k6 ek6 E => ?_)
        refine z_icmp_ne (tgt := 75) hx hb dPL_isOnePiece_68 (by decide) E (fun c_68 E => ?_) (fun c_68 E => ?_)
        · refine lv_iconst (v := 0) hx hb dPL_isOnePiece_75 (by decide) ?_
          rw [hQe]
          exact W.zret (v := 0) (ty := .boolean) hx hb hr (znar (show zr 0 1 0 from by decide)) (fun t ht hW => ⟨⟨0, S_11, rfl, ⟨E.symm.trans etg, gS_11, (show zr 0 1 0 from by decide)⟩, by rw [ht]; exact hP, hD⟩, hS.F ht⟩) hS.2.2 dPL_isOnePiece_76
        · refine lv_iconst (v := 1) hx hb dPL_isOnePiece_71 (by decide) ?_
          refine lv_goto (tgt := 76) hx hb dPL_isOnePiece_72 (by decide) ?_
          rw [hQe]
          exact W.zret (v := 1) (ty := .boolean) hx hb hr (znar (show zr 0 1 1 from by decide)) (fun t ht hW => ⟨⟨1, S_11, rfl, ⟨E.symm.trans etg, gS_11, (show zr 0 1 1 from by decide)⟩, by rw [ht]; exact hP, hD⟩, hS.F ht⟩) hS.2.2 dPL_isOnePiece_76
      · have r_x11_4 : zr 0 59 x11_4 := zlt_x r_x11_4 r_k2 (znle c_17) (by decide)
        have r_k2 : zr 1 60 k2 := zlt_y r_x11_4 r_k2 (znle c_17) (by decide)
        refine lv_aload_n hx hb dPL_isOnePiece_20 rfl (lv_at hl 0 rfl) ?_
        refine c_getA_2 hx hb (hB.words zU_PL) hown hK hP (hB.word (zm1 k1_45) rfl) dPL_isOnePiece_21 ?_
        refine lv_iload hx hb dPL_isOnePiece_24 (lv_at hl 4 rfl) ?_
        refine c_aldP hx hb hK hP 2 (by decide) rfl r_x11_4 (by decide) dPL_isOnePiece_26 E (fun k7 ek7 E => ?_)
        have r_k7 : zr 0 5 k7 := by rw [ek7]; exact gP.1 2 _
        refine lv_iload_n hx hb dPL_isOnePiece_27 rfl (lv_at hl 1 rfl) ?_
        refine z_icmp_ne (tgt := 50) hx hb dPL_isOnePiece_28 (by decide) E (fun c_28 E => ?_) (fun c_28 E => ?_)
        · exact hJ50 H locs ls S_11 x11_1 x11_2 x11_4 r_x11_4 gS_11 hm11 E hP hD hS (lv_sub hl [0, 1, 2, 3, 4] rfl)
        · have r_x11_1 : zr 0 5 x11_1 := zeq_x r_k7 c_28.symm
          refine lv_aload_n hx hb dPL_isOnePiece_31 rfl (lv_at hl 3 rfl) ?_
          refine lv_aload_n hx hb dPL_isOnePiece_32 rfl (lv_at hl 0 rfl) ?_
          refine c_getA_0 hx hb (hB.words zU_PL) hown hK hP (hB.word (zm1 k1_41) rfl) dPL_isOnePiece_33 ?_
          refine lv_iload hx hb dPL_isOnePiece_36 (lv_at hl 4 rfl) ?_
          refine c_aldP hx hb hK hP 0 (by decide) rfl r_x11_4 (by decide) dPL_isOnePiece_38 E (fun k8 ek8 E => ?_)
          have r_k8 : zr 0 47 k8 := by rw [ek8]; exact gP.1 0 _
          refine lv_aload_n hx hb dPL_isOnePiece_39 rfl (lv_at hl 0 rfl) ?_
          refine c_getA_1 hx hb (hB.words zU_PL) hown hK hP (hB.word (zm1 k1_43) rfl) dPL_isOnePiece_40 ?_
          refine lv_iload hx hb dPL_isOnePiece_43 (lv_at hl 4 rfl) ?_
          refine c_aldP hx hb hK hP 1 (by decide) rfl r_x11_4 (by decide) dPL_isOnePiece_45 E (fun k9 ek9 E => ?_)
          have r_k9 : zr 0 47 k9 := by rw [ek9]; exact gP.1 1 _
          refine zcI (va_runV (As := [.int k8, .int k9]) (rest := []) ⟨hx, hb, hml, hown, zno⟩ (tGR_join l dC dI cI cZ cJ cA a0 s0 o b P S_11 H.size k8 k9 gP gS_11 r_k8 r_k9) (zcw 2 (hB.word (zm2 k2_236) rfl) (hB.word (zm1 k1_8) rfl) (hB.word (zm2 k2_233) rfl) (hB.word (zm2 k2_234) rfl) (hB.word (zm2 k2_235) rfl) rfl rfl (by decide +kernel) ⟨Nat.le_of_ble_eq_true rfl, Nat.le_of_ble_eq_true rfl⟩) ⟨zP_blind, va_recv hK hP (ci := 6) (q0 := 6) rfl rfl, zP_pre hP hK hD hAD (zB_on hB hA0 hS)⟩ rfl rfl hl.1 rfl (lv_room (Nat.le_of_ble_eq_true rfl)) dPL_isOnePiece_46 ⟨Nat.le_of_ble_eq_true rfl, Nat.le_of_ble_eq_true rfl⟩) hD hS hA (fun k11 S12 H10 locs h13 hP hD hS => ?_)
          have E := zl2_s E h13.1
          have gS12 := h13.2.1
          refine lv_pop hx hb dPL_isOnePiece_49 rfl ?_
          exact hJ50 H10 locs ls S12 x11_1 x11_2 x11_4 r_x11_4 gS12 hm11 E hP hD hS (lv_sub hl [0, 1, 2, 3, 4] rfl)
  refine lv_aload_n hx hb dPL_isOnePiece_0 rfl (lv_at hl 3 rfl) ?_
  refine lv_aload_n hx hb dPL_isOnePiece_1 rfl (lv_at hl 0 rfl) ?_
  refine c_get_0 hx hb (hB.words zU_PL) hown hK hP (hB.word (zm1 k1_35) rfl) dPL_isOnePiece_2 E (fun k14 ek14 E => ?_)
  have r_k14 : zr 0 48 k14 := by rw [ek14]; exact gP.2.1 0
  refine zcV (va_runV (As := [.int k14]) (rest := []) ⟨hx, hb, hml, hown, zno⟩ (tGR_separate l dC dI cI cZ cJ cA a0 s0 o b P S s.heap.size k14 gP gS r_k14) (zcw 1 (hB.word (zm2 k2_232) rfl) (hB.word (zm1 k1_8) rfl) (hB.word (zm2 k2_229) rfl) (hB.word (zm2 k2_230) rfl) (hB.word (zm2 k2_231) rfl) rfl rfl (by decide +kernel) ⟨Nat.le_of_ble_eq_true rfl, Nat.le_of_ble_eq_true rfl⟩) ⟨zP_blind, va_recv hK hP (ci := 6) (q0 := 6) rfl rfl, zP_pre hP hK hD hAD (zB_on hB hA0 hS)⟩ rfl rfl hl.1 rfl (lv_room (Nat.le_of_ble_eq_true rfl)) dPL_isOnePiece_5 ⟨Nat.le_of_ble_eq_true rfl, Nat.le_of_ble_eq_true rfl⟩) hD hS hA (fun S16 H15 locs h17 hP hD hS => ?_)
  have E := zl_s E h17.1
  have gS16 := h17.2
  refine lv_iconst (v := 0) hx hb dPL_isOnePiece_8 (by decide) ?_
  refine lv_istore (lv' := [(4, .int 0), (0, .ref (o 1)), (1, .int x0), (2, .int x1), (3, .ref (o 6))]) hx hb dPL_isOnePiece_9 hl (by decide) rfl (fun ls hl => ?_)
  exact hL11 61 H15 locs ls S16 x0 x1 0 (show zr 0 60 0 from by decide) gS16 (by have h9 := (show zr 0 0 0 from by decide); exact zfuelU h9 (by decide)) E hP hD hS (lv_sub hl [1, 2, 3, 4, 0] rfl)
noncomputable def fPL_hasRightShape_117 (P_117 : ZS) (S_117 : ZS) : ZS × ZS × Int32 := (P_117, S_117, 0)
noncomputable def fPL_hasRightShape_178 (P_178 : ZS) (S_178 : ZS) : ZS × ZS × Int32 := (P_178, S_178, 0)
noncomputable def fPL_hasRightShape_151 (P_151 : ZS) (S_151 : ZS) (y151_0 : Int32) (y151_1 : Int32) : ZS × ZS × Int32 := (if y151_1 = y151_0 then (P_151, S_151, 1) else (P_151, S_151, 0))
noncomputable def fPL_hasRightShape_134 (P_134 : ZS) (S_134 : ZS) (x134_1 : Int32) (x134_2 : Int32) (x134_5 : Int32) (x134_6 : Int32) (y134_0 : Int32) (y134_1 : Int32) : ZS × ZS × Int32 := zl (P_134.setF 8 (y134_1 : Int32).toNatClampNeg y134_0) (fun P1 => (if x134_5 = 0 then (if x134_2 = 0 then fPL_hasRightShape_151 P1 S_134 1 x134_6 else fPL_hasRightShape_151 P1 S_134 0 x134_6) else (if x134_6 = 2 then zl (fPL_isHeldByClosedRing P1 S_134 x134_1) (fun k4 => (if k4 = 0 then fPL_hasRightShape_178 P1 S_134 else (P1, S_134, 1))) else fPL_hasRightShape_178 P1 S_134)))
noncomputable def fPL_hasRightShape_91 (rc12 : ZS → ZS → Int32 → Int32 → Int32 → Int32 → Int32 → Int32 → (ZS × ZS × Int32)) (P_91 : ZS) (S_91 : ZS) (x91_1 : Int32) (x91_2 : Int32) (x91_4 : Int32) (x91_5 : Int32) (x91_7 : Int32) (y91_0 : Int32) (y91_1 : Int32) : ZS × ZS × Int32 := zl (y91_1 + y91_0) (fun k5 => zl (x91_7 + 1) (fun k6 => rc12 P_91 S_91 x91_1 x91_2 x91_4 x91_5 k5 k6))
noncomputable def fPL_hasRightShape_90 (rc12 : ZS → ZS → Int32 → Int32 → Int32 → Int32 → Int32 → Int32 → (ZS × ZS × Int32)) (P_90 : ZS) (S_90 : ZS) (x90_1 : Int32) (x90_2 : Int32) (x90_4 : Int32) (x90_5 : Int32) (x90_7 : Int32) (y90_0 : Int32) : ZS × ZS × Int32 := fPL_hasRightShape_91 rc12 P_90 S_90 x90_1 x90_2 x90_4 x90_5 x90_7 0 y90_0
noncomputable def fPL_hasRightShape_66 (rc12 : ZS → ZS → Int32 → Int32 → Int32 → Int32 → Int32 → Int32 → (ZS × ZS × Int32)) (P_66 : ZS) (S_66 : ZS) (x66_1 : Int32) (x66_2 : Int32) (x66_4 : Int32) (x66_6 : Int32) (x66_7 : Int32) (x66_8 : Int32) (y66_0 : Int32) (y66_1 : Int32) : ZS × ZS × Int32 := zl (y66_1 + y66_0) (fun k7 => (if x66_8 ≤ 0 then fPL_hasRightShape_90 rc12 P_66 S_66 x66_1 x66_2 x66_4 k7 x66_7 x66_6 else zl (fPL_isInRingBefore P_66 S_66 x66_7 x66_1) (fun k9 => (if k9 = 0 then fPL_hasRightShape_90 rc12 P_66 S_66 x66_1 x66_2 x66_4 k7 x66_7 x66_6 else fPL_hasRightShape_91 rc12 P_66 S_66 x66_1 x66_2 x66_4 k7 x66_7 1 x66_6))))
noncomputable def fPL_hasRightShape_50 (rc12 : ZS → ZS → Int32 → Int32 → Int32 → Int32 → Int32 → Int32 → (ZS × ZS × Int32)) (P_50 : ZS) (S_50 : ZS) (x50_1 : Int32) (x50_2 : Int32) (x50_5 : Int32) (x50_6 : Int32) (x50_7 : Int32) (x50_8 : Int32) (y50_0 : Int32) (y50_1 : Int32) : ZS × ZS × Int32 := zl (y50_1 + y50_0) (fun k10 => (if x50_8 = 1 then fPL_hasRightShape_66 rc12 P_50 S_50 x50_1 x50_2 k10 x50_6 x50_7 x50_8 1 x50_5 else fPL_hasRightShape_66 rc12 P_50 S_50 x50_1 x50_2 k10 x50_6 x50_7 x50_8 0 x50_5))
noncomputable def fPL_hasRightShape_12 (rc12 : ZS → ZS → Int32 → Int32 → Int32 → Int32 → Int32 → Int32 → (ZS × ZS × Int32)) (P_12 : ZS) (S_12 : ZS) (x12_1 : Int32) (x12_2 : Int32) (x12_4 : Int32) (x12_5 : Int32) (x12_6 : Int32) (x12_7 : Int32) : ZS × ZS × Int32 := zl (P_12.I 0) (fun k11 => (if k11 ≤ x12_7 then (if x12_4 < 3 then fPL_hasRightShape_117 P_12 S_12 else zl2 (fPL_isOnePiece P_12 S_12 x12_1 x12_4) (fun S14 k13 => (if k13 = 0 then fPL_hasRightShape_117 P_12 S14 else (if x12_5 = 0 then fPL_hasRightShape_134 P_12 S14 x12_1 x12_2 x12_5 x12_6 1 x12_1 else fPL_hasRightShape_134 P_12 S14 x12_1 x12_2 x12_5 x12_6 0 x12_1)))) else zl (fPL_countLinks P_12 S_12 x12_7 x12_1) (fun k17 => (if k17 ≤ 2 then (if k17 ≤ 0 then fPL_hasRightShape_50 rc12 P_12 S_12 x12_1 x12_2 x12_5 x12_6 x12_7 k17 0 x12_4 else fPL_hasRightShape_50 rc12 P_12 S_12 x12_1 x12_2 x12_5 x12_6 x12_7 k17 1 x12_4) else (P_12, S_12, 0)))))
noncomputable def fPL_hasRightShape (P S : ZS) (x0 : Int32) (x1 : Int32) : ZS × ZS × Int32 := zfix (fun P9 S9 _ _ _ _ _ _ => (P9, S9, 0)) (fPL_hasRightShape_12 ) 49 P S x0 x1 0 0 0 0
set_option maxHeartbeats 4000000 in
set_option maxRecDepth 100000 in
theorem tPL_hasRightShape (l : Launch) (dC : Nat → ClassId) (dI : Nat → Nat → Nat) (cI cZ cJ cA : ClassId) (a0 : Array Value) (s0 : State) (o b : Nat → Nat) (P S : ZS) (sz : Nat) (x0 : Int32) (x1 : Int32) (gP : cok P) (gS : cok S) (r_x0 : zr 0 5 x0) (r_x1 : zr 0 1 x1) : Met l yPL_hasRightShape [Cond.code yPL_hasRightShape bPL_hasRightShape 9 (some .boolean)] ({ frames := 4, cells := 0, slots := 0, locals := 91 } : Room) (zP zCl dC dI (zTZ cI cZ cJ cA) a0 s0 [.ref (o 1), .int x0, .int x1, .ref (o 6)] sz (CW cI cZ cA o b P S)) (zQH zCl dC dI (fun (r : Int32) (x9 : ZS × ZS) => (x9.1, x9.2, r) = fPL_hasRightShape P S x0 x1 ∧ cok x9.1 ∧ cok x9.2 ∧ zr 0 1 r) (fun x9 : ZS × ZS => (CW cI cZ cA o b x9.1 x9.2)) (va_A (CW cI cZ cA o b P S) sz)) 0 0 (va_A (CW cI cZ cA o b P S) sz) := by
  refine Met.ofW (cc := bPL_hasRightShape) (maxL := 9) (ret := (some .boolean)) (by decide) rfl ?_
  intro p e s m args below meth c s₁ B hml hv
  obtain ⟨rfl, hsz, hP, hK, hD0, hB⟩ := hv
  have hx := B.exec
  have hb := B.bytes
  have hr := B.returns
  have hown : s.vm.findClass "RingGuard$Plan" = some m.cls := findClass_of_methodNamed B.named
  have hlocks := B.notSynchronized
  subst hsz
  have hD := hD0.self (sz := s.heap.size)
  have hA0 := zA0 hD0 hB
  generalize hAe : va_A (CW cI cZ cA o b P S) s.heap.size = A at hD hA0 ⊢
  have hAD := hA0
  have hA : ∀ q : Nat, s.heap.size ≤ q → A q := fun q h => by rw [← hAe]; exact Or.inr h
  have hS : va_S A s.heap s.heap [] := va_S.rf
  have hl := lv_entry ([.ref (o 1), .int x0, .int x1, .ref (o 6)]) (n := 9) (Nat.le_of_ble_eq_true rfl)
  rw [lg_entry_eq]
  generalize (lg_sl ([.ref (o 1), .int x0, .int x1, .ref (o 6)]) ++ List.replicate (9 - (lg_sl ([.ref (o 1), .int x0, .int x1, .ref (o 6)])).length) Slot.unset).toArray = ls at hl ⊢
  have hl : lv_has ls 9 [(0, .ref (o 1)), (1, .int x0), (2, .int x1), (3, .ref (o 6))] := hl
  refine zgenQ (fun Q hQe => ?_)
  obtain ⟨tg, etg⟩ : ∃ z, z = fPL_hasRightShape P S x0 x1 := ⟨_, rfl⟩
  have E := etg
  unfold fPL_hasRightShape at E
  have hL12 : ∀ (n12 : Nat) (H : Heap) (locs : List Loc) (ls : Array Slot) (P_12 : ZS) (S_12 : ZS) (x12_1 : Int32) (x12_2 : Int32) (x12_4 : Int32) (x12_5 : Int32) (x12_6 : Int32) (x12_7 : Int32), zr 0 5 x12_1 → zr 0 1 x12_2 → zr 0 48 x12_7 → cok P_12 → cok S_12 → 48 + 1 - x12_7.toInt ≤ (n12 : Int) → tg = zfix (fun P9 S9 _ _ _ _ _ _ => (P9, S9, 0)) (fPL_hasRightShape_12 ) n12 P_12 S_12 x12_1 x12_2 x12_4 x12_5 x12_6 x12_7 → va_P (dC, dI) zCl (CW cI cZ cA o b P_12 S_12) H → va_D A (CW cI cZ cA o b P_12 S_12) → va_S A s.heap H locs → lv_has ls 9 [(0, .ref (o 1)), (1, .int x12_1), (2, .int x12_2), (3, .ref (o 6)), (4, .int x12_4), (5, .int x12_5), (6, .int x12_6), (7, .int x12_7)] → W p l e ({ frames := 4, cells := 0, slots := 0, locals := 91 } : Room) s m ([.ref (o 1), .int x0, .int x1, .ref (o 6)] : List Value).toArray below meth c H locs 0 0 Q (F0 m 12 ls []) := by
    intro n12
    induction n12 with
    | zero => intro H locs ls P_12 S_12 x12_1 x12_2 x12_4 x12_5 x12_6 x12_7 r_x12_1 r_x12_2 r_x12_7 gP_12 gS_12 hm12 E hP hD hS hl; exact absurd hm12 (zfuel0U r_x12_7)
    | succ n12 ih12 =>
      intro H locs ls P_12 S_12 x12_1 x12_2 x12_4 x12_5 x12_6 x12_7 r_x12_1 r_x12_2 r_x12_7 gP_12 gS_12 hm12 E hP hD hS hl
      rw [zfix_s] at E
      generalize zfix (fun P9 S9 _ _ _ _ _ _ => (P9, S9, 0)) (fPL_hasRightShape_12 ) n12 = rc12 at ih12 E
      unfold fPL_hasRightShape_12 at E
      have hJ117 : ∀ (H : Heap) (locs : List Loc) (ls : Array Slot) (P_117 : ZS) (S_117 : ZS), cok P_117 → cok S_117 → tg = fPL_hasRightShape_117  P_117 S_117 → va_P (dC, dI) zCl (CW cI cZ cA o b P_117 S_117) H → va_D A (CW cI cZ cA o b P_117 S_117) → va_S A s.heap H locs → lv_has ls 9 [] → W p l e ({ frames := 4, cells := 0, slots := 0, locals := 91 } : Room) s m ([.ref (o 1), .int x0, .int x1, .ref (o 6)] : List Value).toArray below meth c H locs 0 0 Q (F0 m 117 ls []) := by
        intro H locs ls P_117 S_117 gP_117 gS_117 E hP hD hS hl
        unfold fPL_hasRightShape_117 at E
        refine lv_iconst (v := 0) hx hb dPL_hasRightShape_117 (by decide) ?_
        rw [hQe]
        exact W.zret (v := 0) (ty := .boolean) hx hb hr (znar (show zr 0 1 0 from by decide)) (fun t ht hW => ⟨⟨0, (P_117, S_117), rfl, ⟨E.symm.trans etg, gP_117, gS_117, (show zr 0 1 0 from by decide)⟩, by rw [ht]; exact hP, hD⟩, hS.F ht⟩) hS.2.2 dPL_hasRightShape_118
      have hJ134 : ∀ (H : Heap) (locs : List Loc) (ls : Array Slot) (P_134 : ZS) (S_134 : ZS) (x134_1 : Int32) (x134_2 : Int32) (x134_5 : Int32) (x134_6 : Int32) (y134_0 : Int32) (y134_1 : Int32), zr 0 5 x134_1 → zr 0 1 x134_2 → zr 0 1 y134_0 → zr 0 5 y134_1 → cok P_134 → cok S_134 → (y134_0 = 0 ∨ zr 0 0 (x134_5)) → tg = fPL_hasRightShape_134  P_134 S_134 x134_1 x134_2 x134_5 x134_6 y134_0 y134_1 → va_P (dC, dI) zCl (CW cI cZ cA o b P_134 S_134) H → va_D A (CW cI cZ cA o b P_134 S_134) → va_S A s.heap H locs → lv_has ls 9 [(0, .ref (o 1)), (1, .int x134_1), (2, .int x134_2), (5, .int x134_5), (6, .int x134_6)] → W p l e ({ frames := 4, cells := 0, slots := 0, locals := 91 } : Room) s m ([.ref (o 1), .int x0, .int x1, .ref (o 6)] : List Value).toArray below meth c H locs 0 0 Q (F0 m 134 ls [.int y134_0, .int y134_1, .ref (b 8)]) := by
        intro H locs ls P_134 S_134 x134_1 x134_2 x134_5 x134_6 y134_0 y134_1 r_x134_1 r_x134_2 r_y134_0 r_y134_1 gP_134 gS_134 cd134_0 E hP hD hS hl
        unfold fPL_hasRightShape_134 at E
        have hJ178 : ∀ (H : Heap) (locs : List Loc) (ls : Array Slot) (P_178 : ZS) (S_178 : ZS), cok P_178 → cok S_178 → tg = fPL_hasRightShape_178  P_178 S_178 → va_P (dC, dI) zCl (CW cI cZ cA o b P_178 S_178) H → va_D A (CW cI cZ cA o b P_178 S_178) → va_S A s.heap H locs → lv_has ls 9 [] → W p l e ({ frames := 4, cells := 0, slots := 0, locals := 91 } : Room) s m ([.ref (o 1), .int x0, .int x1, .ref (o 6)] : List Value).toArray below meth c H locs 0 0 Q (F0 m 178 ls []) := by
          intro H locs ls P_178 S_178 gP_178 gS_178 E hP hD hS hl
          unfold fPL_hasRightShape_178 at E
          refine lv_iconst (v := 0) hx hb dPL_hasRightShape_178 (by decide) ?_
          rw [hQe]
          exact W.zret (v := 0) (ty := .boolean) hx hb hr (znar (show zr 0 1 0 from by decide)) (fun t ht hW => ⟨⟨0, (P_178, S_178), rfl, ⟨E.symm.trans etg, gP_178, gS_178, (show zr 0 1 0 from by decide)⟩, by rw [ht]; exact hP, hD⟩, hS.F ht⟩) hS.2.2 dPL_hasRightShape_179
        have hJ151 : ∀ (H : Heap) (locs : List Loc) (ls : Array Slot) (P_151 : ZS) (S_151 : ZS) (y151_0 : Int32) (y151_1 : Int32), zr 0 1 y151_0 → cok P_151 → cok S_151 → tg = fPL_hasRightShape_151  P_151 S_151 y151_0 y151_1 → va_P (dC, dI) zCl (CW cI cZ cA o b P_151 S_151) H → va_D A (CW cI cZ cA o b P_151 S_151) → va_S A s.heap H locs → lv_has ls 9 [] → W p l e ({ frames := 4, cells := 0, slots := 0, locals := 91 } : Room) s m ([.ref (o 1), .int x0, .int x1, .ref (o 6)] : List Value).toArray below meth c H locs 0 0 Q (F0 m 151 ls [.int y151_0, .int y151_1]) := by
          intro H locs ls P_151 S_151 y151_0 y151_1 r_y151_0 gP_151 gS_151 E hP hD hS hl
          unfold fPL_hasRightShape_151 at E
          refine z_icmp_ne (tgt := 158) hx hb dPL_hasRightShape_151 (by decide) E (fun c_151 E => ?_) (fun c_151 E => ?_)
          · refine lv_iconst (v := 0) hx hb dPL_hasRightShape_158 (by decide) ?_
            rw [hQe]
            exact W.zret (v := 0) (ty := .boolean) hx hb hr (znar (show zr 0 1 0 from by decide)) (fun t ht hW => ⟨⟨0, (P_151, S_151), rfl, ⟨E.symm.trans etg, gP_151, gS_151, (show zr 0 1 0 from by decide)⟩, by rw [ht]; exact hP, hD⟩, hS.F ht⟩) hS.2.2 dPL_hasRightShape_159
          · have r_y151_1 : zr 0 1 y151_1 := zeq_x r_y151_0 c_151
            refine lv_iconst (v := 1) hx hb dPL_hasRightShape_154 (by decide) ?_
            refine lv_goto (tgt := 159) hx hb dPL_hasRightShape_155 (by decide) ?_
            rw [hQe]
            exact W.zret (v := 1) (ty := .boolean) hx hb hr (znar (show zr 0 1 1 from by decide)) (fun t ht hW => ⟨⟨1, (P_151, S_151), rfl, ⟨E.symm.trans etg, gP_151, gS_151, (show zr 0 1 1 from by decide)⟩, by rw [ht]; exact hP, hD⟩, hS.F ht⟩) hS.2.2 dPL_hasRightShape_159
        refine c_zastP hx hb hK hP hD hS 8 (by decide) rfl r_y134_1 (by decide) r_y134_0 dPL_hasRightShape_134 E (fun P1 H2 locs eP1 E hP hD hS => ?_)
        have gP1 : cok P1 := by rw [eP1]; exact gP_134.setF (k := 8) r_y134_0 (Or.inl (by decide))
        refine lv_iload hx hb dPL_hasRightShape_135 (lv_at hl 3 rfl) ?_
        refine z_if_ne (tgt := 160) hx hb dPL_hasRightShape_137 (by decide) E (fun c_137 E => ?_) (fun c_137 E => ?_)
        · refine lv_iload hx hb dPL_hasRightShape_160 (lv_at hl 4 rfl) ?_
          refine lv_iconst (v := 2) hx hb dPL_hasRightShape_162 (by decide) ?_
          refine z_icmp_ne (tgt := 178) hx hb dPL_hasRightShape_163 (by decide) E (fun c_163 E => ?_) (fun c_163 E => ?_)
          · exact hJ178 H2 locs ls P1 S_134 gP1 gS_134 E hP hD hS (lv_sub hl [] rfl)
          · have r_x134_6 : zr 2 2 x134_6 := zeq_x (show zr 2 2 2 from by decide) c_163
            refine lv_aload_n hx hb dPL_hasRightShape_166 rfl (lv_at hl 0 rfl) ?_
            refine lv_iload_n hx hb dPL_hasRightShape_167 rfl (lv_at hl 1 rfl) ?_
            refine zcallp (va_runV (As := [.int x134_1]) (rest := []) ⟨hx, hb, hml, hown, zno⟩ (tPL_isHeldByClosedRing l dC dI cI cZ cJ cA a0 s0 o b P1 S_134 H2.size x134_1 gP1 gS_134 r_x134_1) (zcw 1 (hB.word (zm3 k3_0) rfl) (hB.word (zm1 k1_2) rfl) (hB.word (zm2 k2_237) rfl) (hB.word (zm2 k2_239) rfl) (k2_selects_private (by decide) (hB.word (zm1 k1_26) rfl) (hB.word (zm2 k2_238) rfl) (hB.word (zm2 k2_239) rfl)) rfl rfl (by decide +kernel) ⟨Nat.le_of_ble_eq_true rfl, Nat.le_of_ble_eq_true rfl⟩) ⟨zP_blind, va_recv hK hP (ci := 1) (q0 := 1) rfl rfl, zP_pre hP hK hD hAD (zB_on hB hA0 hS)⟩ rfl rfl hl.1 rfl (lv_room (Nat.le_of_ble_eq_true rfl)) dPL_hasRightShape_168 ⟨Nat.le_of_ble_eq_true rfl, Nat.le_of_ble_eq_true rfl⟩) hS hA (fun k4 H3 locs hk4 hz1 hk1 hS => ?_)
            have hP := zKeep hP hk1
            have E := zl_s E hk4.1
            refine z_if_eq (tgt := 178) hx hb dPL_hasRightShape_171 (by decide) E (fun c_171 E => ?_) (fun c_171 E => ?_)
            · have r_k4 : zr 0 0 k4 := zeq_x (show zr 0 0 0 from by decide) c_171
              exact hJ178 H3 locs ls P1 S_134 gP1 gS_134 E hP hD hS (lv_sub hl [] rfl)
            · have r_k4 : zr 1 1 k4 := zne_lo hk4.2 c_171 (by decide)
              refine lv_iconst (v := 1) hx hb dPL_hasRightShape_174 (by decide) ?_
              refine lv_goto (tgt := 179) hx hb dPL_hasRightShape_175 (by decide) ?_
              rw [hQe]
              exact W.zret (v := 1) (ty := .boolean) hx hb hr (znar (show zr 0 1 1 from by decide)) (fun t ht hW => ⟨⟨1, (P1, S_134), rfl, ⟨E.symm.trans etg, gP1, gS_134, (show zr 0 1 1 from by decide)⟩, by rw [ht]; exact hP, hD⟩, hS.F ht⟩) hS.2.2 dPL_hasRightShape_179
        · have r_x134_5 : zr 0 0 x134_5 := zeq_x (show zr 0 0 0 from by decide) c_137
          refine lv_iload hx hb dPL_hasRightShape_140 (lv_at hl 4 rfl) ?_
          refine lv_iload_n hx hb dPL_hasRightShape_142 rfl (lv_at hl 2 rfl) ?_
          refine z_if_eq (tgt := 150) hx hb dPL_hasRightShape_143 (by decide) E (fun c_143 E => ?_) (fun c_143 E => ?_)
          · have r_x134_2 : zr 0 0 x134_2 := zeq_x (show zr 0 0 0 from by decide) c_143
            refine lv_iconst (v := 1) hx hb dPL_hasRightShape_150 (by decide) ?_
            exact hJ151 H2 locs ls P1 S_134 1 x134_6 (show zr 0 1 1 from by decide) gP1 gS_134 E hP hD hS (lv_sub hl [] rfl)
          · have r_x134_2 : zr 1 1 x134_2 := zne_lo r_x134_2 c_143 (by decide)
            refine lv_iconst (v := 0) hx hb dPL_hasRightShape_146 (by decide) ?_
            refine lv_goto (tgt := 151) hx hb dPL_hasRightShape_147 (by decide) ?_
            exact hJ151 H2 locs ls P1 S_134 0 x134_6 (show zr 0 1 0 from by decide) gP1 gS_134 E hP hD hS (lv_sub hl [] rfl)
      have hJ50 : ∀ (H : Heap) (locs : List Loc) (ls : Array Slot) (P_50 : ZS) (S_50 : ZS) (x50_1 : Int32) (x50_2 : Int32) (x50_5 : Int32) (x50_6 : Int32) (x50_7 : Int32) (x50_8 : Int32) (y50_0 : Int32) (y50_1 : Int32), zr 0 5 x50_1 → zr 0 1 x50_2 → zr 0 47 x50_7 → zr (-2147483648) 2 x50_8 → zr 0 1 y50_0 → cok P_50 → cok S_50 → 48 + 1 - x50_7.toInt ≤ ((n12 + 1 : Nat) : Int) → (y50_0 = 0 ∨ zr 1 2 (x50_8)) → (y50_0 = 1 ∨ zr (-2147483648) 0 (x50_8)) → tg = fPL_hasRightShape_50 rc12 P_50 S_50 x50_1 x50_2 x50_5 x50_6 x50_7 x50_8 y50_0 y50_1 → va_P (dC, dI) zCl (CW cI cZ cA o b P_50 S_50) H → va_D A (CW cI cZ cA o b P_50 S_50) → va_S A s.heap H locs → lv_has ls 9 [(0, .ref (o 1)), (1, .int x50_1), (2, .int x50_2), (3, .ref (o 6)), (5, .int x50_5), (6, .int x50_6), (7, .int x50_7), (8, .int x50_8)] → W p l e ({ frames := 4, cells := 0, slots := 0, locals := 91 } : Room) s m ([.ref (o 1), .int x0, .int x1, .ref (o 6)] : List Value).toArray below meth c H locs 0 0 Q (F0 m 50 ls [.int y50_0, .int y50_1]) := by
        intro H locs ls P_50 S_50 x50_1 x50_2 x50_5 x50_6 x50_7 x50_8 y50_0 y50_1 r_x50_1 r_x50_2 r_x50_7 r_x50_8 r_y50_0 gP_50 gS_50 hm12_50 cd50_0 cd50_1 E hP hD hS hl
        unfold fPL_hasRightShape_50 at E
        have hJ66 : ∀ (H : Heap) (locs : List Loc) (ls : Array Slot) (P_66 : ZS) (S_66 : ZS) (x66_1 : Int32) (x66_2 : Int32) (x66_4 : Int32) (x66_6 : Int32) (x66_7 : Int32) (x66_8 : Int32) (y66_0 : Int32) (y66_1 : Int32), zr 0 5 x66_1 → zr 0 1 x66_2 → zr 0 47 x66_7 → zr (-2147483648) 2 x66_8 → zr 0 1 y66_0 → cok P_66 → cok S_66 → 48 + 1 - x66_7.toInt ≤ ((n12 + 1 : Nat) : Int) → (y66_0 = 0 ∨ zr 1 1 (x66_8)) → tg = fPL_hasRightShape_66 rc12 P_66 S_66 x66_1 x66_2 x66_4 x66_6 x66_7 x66_8 y66_0 y66_1 → va_P (dC, dI) zCl (CW cI cZ cA o b P_66 S_66) H → va_D A (CW cI cZ cA o b P_66 S_66) → va_S A s.heap H locs → lv_has ls 9 [(0, .ref (o 1)), (1, .int x66_1), (2, .int x66_2), (3, .ref (o 6)), (4, .int x66_4), (6, .int x66_6), (7, .int x66_7), (8, .int x66_8)] → W p l e ({ frames := 4, cells := 0, slots := 0, locals := 91 } : Room) s m ([.ref (o 1), .int x0, .int x1, .ref (o 6)] : List Value).toArray below meth c H locs 0 0 Q (F0 m 66 ls [.int y66_0, .int y66_1]) := by
          intro H locs ls P_66 S_66 x66_1 x66_2 x66_4 x66_6 x66_7 x66_8 y66_0 y66_1 r_x66_1 r_x66_2 r_x66_7 r_x66_8 r_y66_0 gP_66 gS_66 hm12_66 cd66_0 E hP hD hS hl
          unfold fPL_hasRightShape_66 at E
          have hJ91 : ∀ (H : Heap) (locs : List Loc) (ls : Array Slot) (P_91 : ZS) (S_91 : ZS) (x91_1 : Int32) (x91_2 : Int32) (x91_4 : Int32) (x91_5 : Int32) (x91_7 : Int32) (y91_0 : Int32) (y91_1 : Int32), zr 0 5 x91_1 → zr 0 1 x91_2 → zr 0 47 x91_7 → zr 0 1 y91_0 → cok P_91 → cok S_91 → 48 + 1 - x91_7.toInt ≤ ((n12 + 1 : Nat) : Int) → tg = fPL_hasRightShape_91 rc12 P_91 S_91 x91_1 x91_2 x91_4 x91_5 x91_7 y91_0 y91_1 → va_P (dC, dI) zCl (CW cI cZ cA o b P_91 S_91) H → va_D A (CW cI cZ cA o b P_91 S_91) → va_S A s.heap H locs → lv_has ls 9 [(0, .ref (o 1)), (1, .int x91_1), (2, .int x91_2), (3, .ref (o 6)), (4, .int x91_4), (5, .int x91_5), (7, .int x91_7)] → W p l e ({ frames := 4, cells := 0, slots := 0, locals := 91 } : Room) s m ([.ref (o 1), .int x0, .int x1, .ref (o 6)] : List Value).toArray below meth c H locs 0 0 Q (F0 m 91 ls [.int y91_0, .int y91_1]) := by
            intro H locs ls P_91 S_91 x91_1 x91_2 x91_4 x91_5 x91_7 y91_0 y91_1 r_x91_1 r_x91_2 r_x91_7 r_y91_0 gP_91 gS_91 hm12_91 E hP hD hS hl
            unfold fPL_hasRightShape_91 at E
            refine z_iadd hx hb dPL_hasRightShape_91 E (fun k5 ek5 E => ?_)
            refine lv_istore (lv' := [(6, .int k5), (0, .ref (o 1)), (1, .int x91_1), (2, .int x91_2), (3, .ref (o 6)), (4, .int x91_4), (5, .int x91_5), (7, .int x91_7)]) hx hb dPL_hasRightShape_92 hl (by decide) rfl (fun ls hl => ?_)
            refine z_iinc (lv' := fun v9 => [(7, .int v9), (6, .int k5), (0, .ref (o 1)), (1, .int x91_1), (2, .int x91_2), (3, .ref (o 6)), (4, .int x91_4), (5, .int x91_5)]) (cst := 1) hx hb dPL_hasRightShape_94 hl (k := 7) rfl (by decide) (by decide) (fun _ => rfl) E (fun k6 ls ek6 E hl => ?_)
            have r_k6 : zr 1 48 k6 := zr_add r_x91_7 (show zr 1 1 1 from by decide) ek6 (by decide)
            refine lv_goto (tgt := 12) hx hb dPL_hasRightShape_97 (by decide) ?_
            exact ih12 H locs ls P_91 S_91 x91_1 x91_2 x91_4 x91_5 k5 k6 r_x91_1 r_x91_2 (zr_mono r_k6 (by decide)) gP_91 gS_91 (zstepU ek6 r_x91_7 (by decide) hm12_91) E hP hD hS (lv_sub hl [2, 3, 4, 5, 6, 7, 1, 0] rfl)
          have hJ90 : ∀ (H : Heap) (locs : List Loc) (ls : Array Slot) (P_90 : ZS) (S_90 : ZS) (x90_1 : Int32) (x90_2 : Int32) (x90_4 : Int32) (x90_5 : Int32) (x90_7 : Int32) (y90_0 : Int32), zr 0 5 x90_1 → zr 0 1 x90_2 → zr 0 47 x90_7 → cok P_90 → cok S_90 → 48 + 1 - x90_7.toInt ≤ ((n12 + 1 : Nat) : Int) → tg = fPL_hasRightShape_90 rc12 P_90 S_90 x90_1 x90_2 x90_4 x90_5 x90_7 y90_0 → va_P (dC, dI) zCl (CW cI cZ cA o b P_90 S_90) H → va_D A (CW cI cZ cA o b P_90 S_90) → va_S A s.heap H locs → lv_has ls 9 [(0, .ref (o 1)), (1, .int x90_1), (2, .int x90_2), (3, .ref (o 6)), (4, .int x90_4), (5, .int x90_5), (7, .int x90_7)] → W p l e ({ frames := 4, cells := 0, slots := 0, locals := 91 } : Room) s m ([.ref (o 1), .int x0, .int x1, .ref (o 6)] : List Value).toArray below meth c H locs 0 0 Q (F0 m 90 ls [.int y90_0]) := by
            intro H locs ls P_90 S_90 x90_1 x90_2 x90_4 x90_5 x90_7 y90_0 r_x90_1 r_x90_2 r_x90_7 gP_90 gS_90 hm12_90 E hP hD hS hl
            unfold fPL_hasRightShape_90 at E
            refine lv_iconst (v := 0) hx hb dPL_hasRightShape_90 (by decide) ?_
            exact hJ91 H locs ls P_90 S_90 x90_1 x90_2 x90_4 x90_5 x90_7 0 y90_0 r_x90_1 r_x90_2 r_x90_7 (show zr 0 1 0 from by decide) gP_90 gS_90 hm12_90 E hP hD hS (lv_sub hl [0, 1, 2, 3, 4, 5, 6] rfl)
          refine z_iadd hx hb dPL_hasRightShape_66 E (fun k7 ek7 E => ?_)
          refine lv_istore (lv' := [(5, .int k7), (0, .ref (o 1)), (1, .int x66_1), (2, .int x66_2), (3, .ref (o 6)), (4, .int x66_4), (6, .int x66_6), (7, .int x66_7), (8, .int x66_8)]) hx hb dPL_hasRightShape_67 hl (by decide) rfl (fun ls hl => ?_)
          refine lv_iload hx hb dPL_hasRightShape_69 (lv_at hl 6 rfl) ?_
          refine lv_iload hx hb dPL_hasRightShape_71 (lv_at hl 8 rfl) ?_
          refine z_if_le (tgt := 90) hx hb dPL_hasRightShape_73 (by decide) E (fun c_73 E => ?_) (fun c_73 E => ?_)
          · have r_x66_8 : zr (-2147483648) 0 x66_8 := zle_x r_x66_8 (show zr 0 0 0 from by decide) c_73 (by decide)
            exact hJ90 H locs ls P_66 S_66 x66_1 x66_2 x66_4 k7 x66_7 x66_6 r_x66_1 r_x66_2 r_x66_7 gP_66 gS_66 hm12_66 E hP hD hS (lv_sub hl [1, 2, 3, 4, 5, 0, 7] rfl)
          · have r_x66_8 : zr 1 2 x66_8 := zlt_y (show zr 0 0 0 from by decide) r_x66_8 (znle c_73) (by decide)
            refine lv_aload_n hx hb dPL_hasRightShape_76 rfl (lv_at hl 1 rfl) ?_
            refine lv_iload hx hb dPL_hasRightShape_77 (lv_at hl 7 rfl) ?_
            refine lv_iload_n hx hb dPL_hasRightShape_79 rfl (lv_at hl 2 rfl) ?_
            refine zcallp (va_runV (As := [.int x66_7, .int x66_1]) (rest := [.int x66_6]) ⟨hx, hb, hml, hown, zno⟩ (tPL_isInRingBefore l dC dI cI cZ cJ cA a0 s0 o b P_66 S_66 H.size x66_7 x66_1 gP_66 gS_66) (zcw 2 (hB.word (zm2 k2_208) rfl) (hB.word (zm1 k1_2) rfl) (hB.word (zm2 k2_205) rfl) (hB.word (zm2 k2_207) rfl) (k2_selects_private (by decide) (hB.word (zm1 k1_26) rfl) (hB.word (zm2 k2_206) rfl) (hB.word (zm2 k2_207) rfl)) rfl rfl (by decide +kernel) ⟨Nat.le_of_ble_eq_true rfl, Nat.le_of_ble_eq_true rfl⟩) ⟨zP_blind, va_recv hK hP (ci := 1) (q0 := 1) rfl rfl, zP_pre hP hK hD hAD (zB_on hB hA0 hS)⟩ rfl rfl hl.1 rfl (lv_room (Nat.le_of_ble_eq_true rfl)) dPL_hasRightShape_80 ⟨Nat.le_of_ble_eq_true rfl, Nat.le_of_ble_eq_true rfl⟩) hS hA (fun k9 H8 locs hk9 hz1 hk1 hS => ?_)
            have hP := zKeep hP hk1
            have E := zl_s E hk9.1
            refine z_if_eq (tgt := 90) hx hb dPL_hasRightShape_83 (by decide) E (fun c_83 E => ?_) (fun c_83 E => ?_)
            · have r_k9 : zr 0 0 k9 := zeq_x (show zr 0 0 0 from by decide) c_83
              exact hJ90 H8 locs ls P_66 S_66 x66_1 x66_2 x66_4 k7 x66_7 x66_6 r_x66_1 r_x66_2 r_x66_7 gP_66 gS_66 hm12_66 E hP hD hS (lv_sub hl [1, 2, 3, 4, 5, 0, 7] rfl)
            · have r_k9 : zr 1 1 k9 := zne_lo hk9.2 c_83 (by decide)
              refine lv_iconst (v := 1) hx hb dPL_hasRightShape_86 (by decide) ?_
              refine lv_goto (tgt := 91) hx hb dPL_hasRightShape_87 (by decide) ?_
              exact hJ91 H8 locs ls P_66 S_66 x66_1 x66_2 x66_4 k7 x66_7 1 x66_6 r_x66_1 r_x66_2 r_x66_7 (show zr 0 1 1 from by decide) gP_66 gS_66 hm12_66 E hP hD hS (lv_sub hl [1, 2, 3, 4, 5, 0, 7] rfl)
        refine z_iadd hx hb dPL_hasRightShape_50 E (fun k10 ek10 E => ?_)
        refine lv_istore (lv' := [(4, .int k10), (0, .ref (o 1)), (1, .int x50_1), (2, .int x50_2), (3, .ref (o 6)), (5, .int x50_5), (6, .int x50_6), (7, .int x50_7), (8, .int x50_8)]) hx hb dPL_hasRightShape_51 hl (by decide) rfl (fun ls hl => ?_)
        refine lv_iload hx hb dPL_hasRightShape_53 (lv_at hl 5 rfl) ?_
        refine lv_iload hx hb dPL_hasRightShape_55 (lv_at hl 8 rfl) ?_
        refine lv_iconst (v := 1) hx hb dPL_hasRightShape_57 (by decide) ?_
        refine z_icmp_ne (tgt := 65) hx hb dPL_hasRightShape_58 (by decide) E (fun c_58 E => ?_) (fun c_58 E => ?_)
        · refine lv_iconst (v := 0) hx hb dPL_hasRightShape_65 (by decide) ?_
          exact hJ66 H locs ls P_50 S_50 x50_1 x50_2 k10 x50_6 x50_7 x50_8 0 x50_5 r_x50_1 r_x50_2 r_x50_7 r_x50_8 (show zr 0 1 0 from by decide) gP_50 gS_50 hm12_50 (Or.inl rfl) E hP hD hS (lv_sub hl [1, 2, 3, 4, 0, 6, 7, 8] rfl)
        · have r_x50_8 : zr 1 1 x50_8 := zeq_x (show zr 1 1 1 from by decide) c_58
          refine lv_iconst (v := 1) hx hb dPL_hasRightShape_61 (by decide) ?_
          refine lv_goto (tgt := 66) hx hb dPL_hasRightShape_62 (by decide) ?_
          exact hJ66 H locs ls P_50 S_50 x50_1 x50_2 k10 x50_6 x50_7 x50_8 1 x50_5 r_x50_1 r_x50_2 r_x50_7 (zr_mono r_x50_8 (by decide)) (show zr 0 1 1 from by decide) gP_50 gS_50 hm12_50 (Or.inr r_x50_8) E hP hD hS (lv_sub hl [1, 2, 3, 4, 0, 6, 7, 8] rfl)
      refine lv_iload hx hb dPL_hasRightShape_12 (lv_at hl 7 rfl) ?_
      refine lv_aload_n hx hb dPL_hasRightShape_14 rfl (lv_at hl 0 rfl) ?_
      refine c_get_0 hx hb (hB.words zU_PL) hown hK hP (hB.word (zm1 k1_35) rfl) dPL_hasRightShape_15 E (fun k11 ek11 E => ?_)
      have r_k11 : zr 0 48 k11 := by rw [ek11]; exact gP_12.2.1 0
      refine z_icmp_ge (tgt := 100) hx hb dPL_hasRightShape_18 (by decide) E (fun c_18 E => ?_) (fun c_18 E => ?_)
      · refine lv_iload hx hb dPL_hasRightShape_100 (lv_at hl 4 rfl) ?_
        refine lv_iconst (v := 3) hx hb dPL_hasRightShape_102 (by decide) ?_
        refine z_icmp_lt (tgt := 117) hx hb dPL_hasRightShape_103 (by decide) E (fun c_103 E => ?_) (fun c_103 E => ?_)
        · have r_x12_4 : zr (-2147483648) 2 x12_4 := zlt_x (zr_any x12_4) (show zr 3 3 3 from by decide) c_103 (by decide)
          exact hJ117 H locs ls P_12 S_12 gP_12 gS_12 E hP hD hS (lv_sub hl [] rfl)
        · have r_x12_4 : zr 3 2147483647 x12_4 := zle_y (show zr 3 3 3 from by decide) (zr_any x12_4) (znlt c_103) (by decide)
          refine lv_aload_n hx hb dPL_hasRightShape_106 rfl (lv_at hl 0 rfl) ?_
          refine lv_iload_n hx hb dPL_hasRightShape_107 rfl (lv_at hl 1 rfl) ?_
          refine lv_iload hx hb dPL_hasRightShape_108 (lv_at hl 4 rfl) ?_
          refine lv_aload_n hx hb dPL_hasRightShape_110 rfl (lv_at hl 3 rfl) ?_
          refine zcI (va_runV (As := [.int x12_1, .int x12_4, .ref (o 6)]) (rest := []) ⟨hx, hb, hml, hown, zno⟩ (tPL_isOnePiece l dC dI cI cZ cJ cA a0 s0 o b P_12 S_12 H.size x12_1 x12_4 gP_12 gS_12) (zcw 3 (hB.word (zm2 k2_228) rfl) (hB.word (zm1 k1_2) rfl) (hB.word (zm2 k2_225) rfl) (hB.word (zm2 k2_227) rfl) (k2_selects_private (by decide) (hB.word (zm1 k1_26) rfl) (hB.word (zm2 k2_226) rfl) (hB.word (zm2 k2_227) rfl)) rfl rfl (by decide +kernel) ⟨Nat.le_of_ble_eq_true rfl, Nat.le_of_ble_eq_true rfl⟩) ⟨zP_blind, va_recv hK hP (ci := 1) (q0 := 1) rfl rfl, zP_pre hP hK hD hAD (zB_on hB hA0 hS)⟩ rfl rfl hl.1 rfl (lv_room (Nat.le_of_ble_eq_true rfl)) dPL_hasRightShape_111 ⟨Nat.le_of_ble_eq_true rfl, Nat.le_of_ble_eq_true rfl⟩) hD hS hA (fun k13 S14 H12 locs h15 hP hD hS => ?_)
          have E := zl2_s E h15.1
          have gS14 := h15.2.1
          refine z_if_ne (tgt := 119) hx hb dPL_hasRightShape_114 (by decide) E (fun c_114 E => ?_) (fun c_114 E => ?_)
          · have r_k13 : zr 1 1 k13 := zne_lo h15.2.2 c_114 (by decide)
            refine lv_aload_n hx hb dPL_hasRightShape_119 rfl (lv_at hl 0 rfl) ?_
            refine c_getA_8 hx hb (hB.words zU_PL) hown hK hP (hB.word (zm1 k1_58) rfl) dPL_hasRightShape_120 ?_
            refine lv_iload_n hx hb dPL_hasRightShape_123 rfl (lv_at hl 1 rfl) ?_
            refine lv_iload hx hb dPL_hasRightShape_124 (lv_at hl 5 rfl) ?_
            refine z_if_ne (tgt := 133) hx hb dPL_hasRightShape_126 (by decide) E (fun c_126 E => ?_) (fun c_126 E => ?_)
            · refine lv_iconst (v := 0) hx hb dPL_hasRightShape_133 (by decide) ?_
              exact hJ134 H12 locs ls P_12 S14 x12_1 x12_2 x12_5 x12_6 0 x12_1 r_x12_1 r_x12_2 (show zr 0 1 0 from by decide) r_x12_1 gP_12 gS14 (Or.inl rfl) E hP hD hS (lv_sub hl [0, 1, 2, 5, 6] rfl)
            · have r_x12_5 : zr 0 0 x12_5 := zeq_x (show zr 0 0 0 from by decide) c_126
              refine lv_iconst (v := 1) hx hb dPL_hasRightShape_129 (by decide) ?_
              refine lv_goto (tgt := 134) hx hb dPL_hasRightShape_130 (by decide) ?_
              exact hJ134 H12 locs ls P_12 S14 x12_1 x12_2 x12_5 x12_6 1 x12_1 r_x12_1 r_x12_2 (show zr 0 1 1 from by decide) r_x12_1 gP_12 gS14 (Or.inr r_x12_5) E hP hD hS (lv_sub hl [0, 1, 2, 5, 6] rfl)
          · have r_k13 : zr 0 0 k13 := zeq_x (show zr 0 0 0 from by decide) c_114
            exact hJ117 H12 locs ls P_12 S14 gP_12 gS14 E hP hD hS (lv_sub hl [] rfl)
      · have r_x12_7 : zr 0 47 x12_7 := zlt_x r_x12_7 r_k11 (znle c_18) (by decide)
        have r_k11 : zr 1 48 k11 := zlt_y r_x12_7 r_k11 (znle c_18) (by decide)
        refine lv_aload_n hx hb dPL_hasRightShape_21 rfl (lv_at hl 0 rfl) ?_
        refine lv_iload hx hb dPL_hasRightShape_22 (lv_at hl 7 rfl) ?_
        refine lv_iload_n hx hb dPL_hasRightShape_24 rfl (lv_at hl 1 rfl) ?_
        refine zcallp (va_runV (As := [.int x12_7, .int x12_1]) (rest := []) ⟨hx, hb, hml, hown, zno⟩ (tPL_countLinks l dC dI cI cZ cJ cA a0 s0 o b P_12 S_12 H.size x12_7 x12_1 gP_12 gS_12) (zcw 2 (hB.word (zm2 k2_224) rfl) (hB.word (zm1 k1_2) rfl) (hB.word (zm2 k2_221) rfl) (hB.word (zm2 k2_223) rfl) (k2_selects_private (by decide) (hB.word (zm1 k1_26) rfl) (hB.word (zm2 k2_222) rfl) (hB.word (zm2 k2_223) rfl)) rfl rfl (by decide +kernel) ⟨Nat.le_of_ble_eq_true rfl, Nat.le_of_ble_eq_true rfl⟩) ⟨zP_blind, va_recv hK hP (ci := 1) (q0 := 1) rfl rfl, zP_pre hP hK hD hAD (zB_on hB hA0 hS)⟩ rfl rfl hl.1 rfl (lv_room (Nat.le_of_ble_eq_true rfl)) dPL_hasRightShape_25 ⟨Nat.le_of_ble_eq_true rfl, Nat.le_of_ble_eq_true rfl⟩) hS hA (fun k17 H16 locs hk17 hz1 hk1 hS => ?_)
        have hP := zKeep hP hk1
        have E := zl_s E hk17.1
        refine lv_istore (lv' := [(8, .int k17), (0, .ref (o 1)), (1, .int x12_1), (2, .int x12_2), (3, .ref (o 6)), (4, .int x12_4), (5, .int x12_5), (6, .int x12_6), (7, .int x12_7)]) hx hb dPL_hasRightShape_28 hl (by decide) rfl (fun ls hl => ?_)
        refine lv_iload hx hb dPL_hasRightShape_30 (lv_at hl 0 rfl) ?_
        refine lv_iconst (v := 2) hx hb dPL_hasRightShape_32 (by decide) ?_
        refine z_icmp_le (tgt := 38) hx hb dPL_hasRightShape_33 (by decide) E (fun c_33 E => ?_) (fun c_33 E => ?_)
        · have r_k17 : zr (-2147483648) 2 k17 := zle_x (zr_any k17) (show zr 2 2 2 from by decide) c_33 (by decide)
          refine lv_iload hx hb dPL_hasRightShape_38 (lv_at hl 5 rfl) ?_
          refine lv_iload hx hb dPL_hasRightShape_40 (lv_at hl 0 rfl) ?_
          refine z_if_le (tgt := 49) hx hb dPL_hasRightShape_42 (by decide) E (fun c_42 E => ?_) (fun c_42 E => ?_)
          · have r_k17 : zr (-2147483648) 0 k17 := zle_x r_k17 (show zr 0 0 0 from by decide) c_42 (by decide)
            refine lv_iconst (v := 0) hx hb dPL_hasRightShape_49 (by decide) ?_
            exact hJ50 H16 locs ls P_12 S_12 x12_1 x12_2 x12_5 x12_6 x12_7 k17 0 x12_4 r_x12_1 r_x12_2 r_x12_7 (zr_mono r_k17 (by decide)) (show zr 0 1 0 from by decide) gP_12 gS_12 hm12 (Or.inl rfl) (Or.inr r_k17) E hP hD hS (lv_sub hl [1, 2, 3, 4, 6, 7, 8, 0] rfl)
          · have r_k17 : zr 1 2 k17 := zlt_y (show zr 0 0 0 from by decide) r_k17 (znle c_42) (by decide)
            refine lv_iconst (v := 1) hx hb dPL_hasRightShape_45 (by decide) ?_
            refine lv_goto (tgt := 50) hx hb dPL_hasRightShape_46 (by decide) ?_
            exact hJ50 H16 locs ls P_12 S_12 x12_1 x12_2 x12_5 x12_6 x12_7 k17 1 x12_4 r_x12_1 r_x12_2 r_x12_7 (zr_mono r_k17 (by decide)) (show zr 0 1 1 from by decide) gP_12 gS_12 hm12 (Or.inr r_k17) (Or.inl rfl) E hP hD hS (lv_sub hl [1, 2, 3, 4, 6, 7, 8, 0] rfl)
        · have r_k17 : zr 3 2147483647 k17 := zlt_y (show zr 2 2 2 from by decide) (zr_any k17) (znle c_33) (by decide)
          refine lv_iconst (v := 0) hx hb dPL_hasRightShape_36 (by decide) ?_
          rw [hQe]
          exact W.zret (v := 0) (ty := .boolean) hx hb hr (znar (show zr 0 1 0 from by decide)) (fun t ht hW => ⟨⟨0, (P_12, S_12), rfl, ⟨E.symm.trans etg, gP_12, gS_12, (show zr 0 1 0 from by decide)⟩, by rw [ht]; exact hP, hD⟩, hS.F ht⟩) hS.2.2 dPL_hasRightShape_37
  refine lv_iconst (v := 0) hx hb dPL_hasRightShape_0 (by decide) ?_
  refine lv_istore (lv' := [(4, .int 0), (0, .ref (o 1)), (1, .int x0), (2, .int x1), (3, .ref (o 6))]) hx hb dPL_hasRightShape_1 hl (by decide) rfl (fun ls hl => ?_)
  refine lv_iconst (v := 0) hx hb dPL_hasRightShape_3 (by decide) ?_
  refine lv_istore (lv' := [(5, .int 0), (4, .int 0), (0, .ref (o 1)), (1, .int x0), (2, .int x1), (3, .ref (o 6))]) hx hb dPL_hasRightShape_4 hl (by decide) rfl (fun ls hl => ?_)
  refine lv_iconst (v := 0) hx hb dPL_hasRightShape_6 (by decide) ?_
  refine lv_istore (lv' := [(6, .int 0), (5, .int 0), (4, .int 0), (0, .ref (o 1)), (1, .int x0), (2, .int x1), (3, .ref (o 6))]) hx hb dPL_hasRightShape_7 hl (by decide) rfl (fun ls hl => ?_)
  refine lv_iconst (v := 0) hx hb dPL_hasRightShape_9 (by decide) ?_
  refine lv_istore (lv' := [(7, .int 0), (6, .int 0), (5, .int 0), (4, .int 0), (0, .ref (o 1)), (1, .int x0), (2, .int x1), (3, .ref (o 6))]) hx hb dPL_hasRightShape_10 hl (by decide) rfl (fun ls hl => ?_)
  exact hL12 49 s.heap [] ls P S x0 x1 0 0 0 0 r_x0 r_x1 (show zr 0 48 0 from by decide) gP gS (by have h9 := (show zr 0 0 0 from by decide); exact zfuelU h9 (by decide)) E hP hD hS (lv_sub hl [4, 5, 6, 7, 3, 2, 1, 0] rfl)
noncomputable def fPL_firstFault_14 (P_14 : ZS) (S_14 : ZS) : ZS × ZS × Int32 := (P_14, S_14, 7)
noncomputable def fPL_firstFault_56 (P_56 : ZS) (S_56 : ZS) (x56_3 : Int32) : ZS × ZS × Int32 := zl (1 + x56_3) (fun k1 => (P_56, S_56, k1))
noncomputable def fPL_firstFault_62 (rc21 : ZS → ZS → Int32 → Int32 → (ZS × ZS × Int32)) (P_62 : ZS) (S_62 : ZS) (x62_2 : Int32) (x62_3 : Int32) : ZS × ZS × Int32 := zl (x62_3 + 1) (fun k2 => rc21 P_62 S_62 x62_2 k2)
noncomputable def fPL_firstFault_21 (rc21 : ZS → ZS → Int32 → Int32 → (ZS × ZS × Int32)) (P_21 : ZS) (S_21 : ZS) (x21_2 : Int32) (x21_3 : Int32) : ZS × ZS × Int32 := (if 6 ≤ x21_3 then (P_21, S_21, 0) else zl (fPL_hasLinks P_21 S_21 x21_3) (fun k4 => (if k4 = 0 then fPL_firstFault_62 rc21 P_21 S_21 x21_2 x21_3 else zl3 (fPL_hasRightShape P_21 S_21 x21_3 x21_2) (fun P8 S7 k6 => (if k6 = 0 then fPL_firstFault_56 P8 S7 x21_3 else zl (fPL_hasRightOwner P8 S7 x21_3) (fun k11 => (if k11 = 0 then fPL_firstFault_56 P8 S7 x21_3 else fPL_firstFault_62 rc21 P8 S7 0 x21_3)))))))
noncomputable def fPL_firstFault (P S : ZS) : ZS × ZS × Int32 := zl (P.I 1) (fun k12 => (if k12 = 0 then fPL_firstFault_14 P S else zl (fPL_hasBareBridge P S) (fun k14 => (if k14 = 0 then zfix (fun P9 S9 _ _ => (P9, S9, 0)) (fPL_firstFault_21 ) 7 P S 1 0 else fPL_firstFault_14 P S))))
set_option maxHeartbeats 4000000 in
set_option maxRecDepth 100000 in
theorem tPL_firstFault (l : Launch) (dC : Nat → ClassId) (dI : Nat → Nat → Nat) (cI cZ cJ cA : ClassId) (a0 : Array Value) (s0 : State) (o b : Nat → Nat) (P S : ZS) (sz : Nat) (gP : cok P) (gS : cok S) : Met l yPL_firstFault [Cond.code yPL_firstFault bPL_firstFault 4 (some .int)] ({ frames := 5, cells := 0, slots := 0, locals := 119 } : Room) (zP zCl dC dI (zTZ cI cZ cJ cA) a0 s0 [.ref (o 1), .ref (o 6)] sz (CW cI cZ cA o b P S)) (zQH zCl dC dI (fun (r : Int32) (x9 : ZS × ZS) => (x9.1, x9.2, r) = fPL_firstFault P S  ∧ cok x9.1 ∧ cok x9.2 ∧ zr 0 7 r) (fun x9 : ZS × ZS => (CW cI cZ cA o b x9.1 x9.2)) (va_A (CW cI cZ cA o b P S) sz)) 0 0 (va_A (CW cI cZ cA o b P S) sz) := by
  refine Met.ofW (cc := bPL_firstFault) (maxL := 4) (ret := (some .int)) (by decide) rfl ?_
  intro p e s m args below meth c s₁ B hml hv
  obtain ⟨rfl, hsz, hP, hK, hD0, hB⟩ := hv
  have hx := B.exec
  have hb := B.bytes
  have hr := B.returns
  have hown : s.vm.findClass "RingGuard$Plan" = some m.cls := findClass_of_methodNamed B.named
  have hlocks := B.notSynchronized
  subst hsz
  have hD := hD0.self (sz := s.heap.size)
  have hA0 := zA0 hD0 hB
  generalize hAe : va_A (CW cI cZ cA o b P S) s.heap.size = A at hD hA0 ⊢
  have hAD := hA0
  have hA : ∀ q : Nat, s.heap.size ≤ q → A q := fun q h => by rw [← hAe]; exact Or.inr h
  have hS : va_S A s.heap s.heap [] := va_S.rf
  have hl := lv_entry ([.ref (o 1), .ref (o 6)]) (n := 4) (Nat.le_of_ble_eq_true rfl)
  rw [lg_entry_eq]
  generalize (lg_sl ([.ref (o 1), .ref (o 6)]) ++ List.replicate (4 - (lg_sl ([.ref (o 1), .ref (o 6)])).length) Slot.unset).toArray = ls at hl ⊢
  have hl : lv_has ls 4 [(0, .ref (o 1)), (1, .ref (o 6))] := hl
  refine zgenQ (fun Q hQe => ?_)
  obtain ⟨tg, etg⟩ : ∃ z, z = fPL_firstFault P S  := ⟨_, rfl⟩
  have E := etg
  unfold fPL_firstFault at E
  have hJ14 : ∀ (H : Heap) (locs : List Loc) (ls : Array Slot) (P_14 : ZS) (S_14 : ZS), cok P_14 → cok S_14 → tg = fPL_firstFault_14  P_14 S_14 → va_P (dC, dI) zCl (CW cI cZ cA o b P_14 S_14) H → va_D A (CW cI cZ cA o b P_14 S_14) → va_S A s.heap H locs → lv_has ls 4 [] → W p l e ({ frames := 5, cells := 0, slots := 0, locals := 119 } : Room) s m ([.ref (o 1), .ref (o 6)] : List Value).toArray below meth c H locs 0 0 Q (F0 m 14 ls []) := by
    intro H locs ls P_14 S_14 gP_14 gS_14 E hP hD hS hl
    unfold fPL_firstFault_14 at E
    refine lv_bipush (v := 7) hx hb dPL_firstFault_14 (by decide) ?_
    rw [hQe]
    exact W.iret (v := 7) hx hb hr (fun t ht hW => ⟨⟨7, (P_14, S_14), rfl, ⟨E.symm.trans etg, gP_14, gS_14, (show zr 0 7 7 from by decide)⟩, by rw [ht]; exact hP, hD⟩, hS.F ht⟩) hS.2.2 dPL_firstFault_16
  have hL21 : ∀ (n21 : Nat) (H : Heap) (locs : List Loc) (ls : Array Slot) (P_21 : ZS) (S_21 : ZS) (x21_2 : Int32) (x21_3 : Int32), zr 0 1 x21_2 → zr 0 6 x21_3 → cok P_21 → cok S_21 → (x21_2 = 1 ∨ zr 1 6 (x21_3)) → 6 + 1 - x21_3.toInt ≤ (n21 : Int) → tg = zfix (fun P9 S9 _ _ => (P9, S9, 0)) (fPL_firstFault_21 ) n21 P_21 S_21 x21_2 x21_3 → va_P (dC, dI) zCl (CW cI cZ cA o b P_21 S_21) H → va_D A (CW cI cZ cA o b P_21 S_21) → va_S A s.heap H locs → lv_has ls 4 [(0, .ref (o 1)), (1, .ref (o 6)), (2, .int x21_2), (3, .int x21_3)] → W p l e ({ frames := 5, cells := 0, slots := 0, locals := 119 } : Room) s m ([.ref (o 1), .ref (o 6)] : List Value).toArray below meth c H locs 0 0 Q (F0 m 21 ls []) := by
    intro n21
    induction n21 with
    | zero => intro H locs ls P_21 S_21 x21_2 x21_3 r_x21_2 r_x21_3 gP_21 gS_21 cd21_0 hm21 E hP hD hS hl; exact absurd hm21 (zfuel0U r_x21_3)
    | succ n21 ih21 =>
      intro H locs ls P_21 S_21 x21_2 x21_3 r_x21_2 r_x21_3 gP_21 gS_21 cd21_0 hm21 E hP hD hS hl
      rw [zfix_s] at E
      generalize zfix (fun P9 S9 _ _ => (P9, S9, 0)) (fPL_firstFault_21 ) n21 = rc21 at ih21 E
      unfold fPL_firstFault_21 at E
      have hJ56 : ∀ (H : Heap) (locs : List Loc) (ls : Array Slot) (P_56 : ZS) (S_56 : ZS) (x56_3 : Int32), zr 0 5 x56_3 → cok P_56 → cok S_56 → tg = fPL_firstFault_56  P_56 S_56 x56_3 → va_P (dC, dI) zCl (CW cI cZ cA o b P_56 S_56) H → va_D A (CW cI cZ cA o b P_56 S_56) → va_S A s.heap H locs → lv_has ls 4 [(3, .int x56_3)] → W p l e ({ frames := 5, cells := 0, slots := 0, locals := 119 } : Room) s m ([.ref (o 1), .ref (o 6)] : List Value).toArray below meth c H locs 0 0 Q (F0 m 56 ls []) := by
        intro H locs ls P_56 S_56 x56_3 r_x56_3 gP_56 gS_56 E hP hD hS hl
        unfold fPL_firstFault_56 at E
        refine lv_iconst (v := 1) hx hb dPL_firstFault_56 (by decide) ?_
        refine lv_iload_n hx hb dPL_firstFault_57 rfl (lv_at hl 0 rfl) ?_
        refine z_iadd hx hb dPL_firstFault_58 E (fun k1 ek1 E => ?_)
        have r_k1 : zr 1 6 k1 := zr_add (show zr 1 1 1 from by decide) r_x56_3 ek1 (by decide)
        rw [hQe]
        exact W.iret (v := k1) hx hb hr (fun t ht hW => ⟨⟨k1, (P_56, S_56), rfl, ⟨E.symm.trans etg, gP_56, gS_56, (zr_mono r_k1 (by decide))⟩, by rw [ht]; exact hP, hD⟩, hS.F ht⟩) hS.2.2 dPL_firstFault_59
      have hJ62 : ∀ (H : Heap) (locs : List Loc) (ls : Array Slot) (P_62 : ZS) (S_62 : ZS) (x62_2 : Int32) (x62_3 : Int32), zr 0 1 x62_2 → zr 0 5 x62_3 → cok P_62 → cok S_62 → 6 + 1 - x62_3.toInt ≤ ((n21 + 1 : Nat) : Int) → tg = fPL_firstFault_62 rc21 P_62 S_62 x62_2 x62_3 → va_P (dC, dI) zCl (CW cI cZ cA o b P_62 S_62) H → va_D A (CW cI cZ cA o b P_62 S_62) → va_S A s.heap H locs → lv_has ls 4 [(0, .ref (o 1)), (1, .ref (o 6)), (2, .int x62_2), (3, .int x62_3)] → W p l e ({ frames := 5, cells := 0, slots := 0, locals := 119 } : Room) s m ([.ref (o 1), .ref (o 6)] : List Value).toArray below meth c H locs 0 0 Q (F0 m 62 ls []) := by
        intro H locs ls P_62 S_62 x62_2 x62_3 r_x62_2 r_x62_3 gP_62 gS_62 hm21_62 E hP hD hS hl
        unfold fPL_firstFault_62 at E
        refine z_iinc (lv' := fun v9 => [(3, .int v9), (0, .ref (o 1)), (1, .ref (o 6)), (2, .int x62_2)]) (cst := 1) hx hb dPL_firstFault_62 hl (k := 3) rfl (by decide) (by decide) (fun _ => rfl) E (fun k2 ls ek2 E hl => ?_)
        have r_k2 : zr 1 6 k2 := zr_add r_x62_3 (show zr 1 1 1 from by decide) ek2 (by decide)
        refine lv_goto (tgt := 21) hx hb dPL_firstFault_65 (by decide) ?_
        exact ih21 H locs ls P_62 S_62 x62_2 k2 r_x62_2 (zr_mono r_k2 (by decide)) gP_62 gS_62 (Or.inr r_k2) (zstepU ek2 r_x62_3 (by decide) hm21_62) E hP hD hS (lv_sub hl [1, 2, 3, 0] rfl)
      refine lv_iload_n hx hb dPL_firstFault_21 rfl (lv_at hl 3 rfl) ?_
      refine lv_bipush (v := 6) hx hb dPL_firstFault_22 (by decide) ?_
      refine z_icmp_ge (tgt := 68) hx hb dPL_firstFault_24 (by decide) E (fun c_24 E => ?_) (fun c_24 E => ?_)
      · have r_x21_3 : zr 6 6 x21_3 := zle_y (show zr 6 6 6 from by decide) r_x21_3 c_24 (by decide)
        refine lv_iconst (v := 0) hx hb dPL_firstFault_68 (by decide) ?_
        rw [hQe]
        exact W.iret (v := 0) hx hb hr (fun t ht hW => ⟨⟨0, (P_21, S_21), rfl, ⟨E.symm.trans etg, gP_21, gS_21, (show zr 0 7 0 from by decide)⟩, by rw [ht]; exact hP, hD⟩, hS.F ht⟩) hS.2.2 dPL_firstFault_69
      · have r_x21_3 : zr 0 5 x21_3 := zlt_x r_x21_3 (show zr 6 6 6 from by decide) (znle c_24) (by decide)
        refine lv_aload_n hx hb dPL_firstFault_27 rfl (lv_at hl 0 rfl) ?_
        refine lv_iload_n hx hb dPL_firstFault_28 rfl (lv_at hl 3 rfl) ?_
        refine zcallp (va_runV (As := [.int x21_3]) (rest := []) ⟨hx, hb, hml, hown, zno⟩ (tPL_hasLinks l dC dI cI cZ cJ cA a0 s0 o b P_21 S_21 H.size x21_3 gP_21 gS_21) (zcw 1 (hB.word (zm2 k2_216) rfl) (hB.word (zm1 k1_2) rfl) (hB.word (zm2 k2_213) rfl) (hB.word (zm2 k2_215) rfl) (k2_selects_private (by decide) (hB.word (zm1 k1_26) rfl) (hB.word (zm2 k2_214) rfl) (hB.word (zm2 k2_215) rfl)) rfl rfl (by decide +kernel) ⟨Nat.le_of_ble_eq_true rfl, Nat.le_of_ble_eq_true rfl⟩) ⟨zP_blind, va_recv hK hP (ci := 1) (q0 := 1) rfl rfl, zP_pre hP hK hD hAD (zB_on hB hA0 hS)⟩ rfl rfl hl.1 rfl (lv_room (Nat.le_of_ble_eq_true rfl)) dPL_firstFault_29 ⟨Nat.le_of_ble_eq_true rfl, Nat.le_of_ble_eq_true rfl⟩) hS hA (fun k4 H3 locs hk4 hz1 hk1 hS => ?_)
        have hP := zKeep hP hk1
        have E := zl_s E hk4.1
        refine z_if_ne (tgt := 38) hx hb dPL_firstFault_32 (by decide) E (fun c_32 E => ?_) (fun c_32 E => ?_)
        · have r_k4 : zr 1 1 k4 := zne_lo hk4.2 c_32 (by decide)
          refine lv_aload_n hx hb dPL_firstFault_38 rfl (lv_at hl 0 rfl) ?_
          refine lv_iload_n hx hb dPL_firstFault_39 rfl (lv_at hl 3 rfl) ?_
          refine lv_iload_n hx hb dPL_firstFault_40 rfl (lv_at hl 2 rfl) ?_
          refine lv_aload_n hx hb dPL_firstFault_41 rfl (lv_at hl 1 rfl) ?_
          refine zcI (va_runV (As := [.int x21_3, .int x21_2, .ref (o 6)]) (rest := []) ⟨hx, hb, hml, hown, zno⟩ (tPL_hasRightShape l dC dI cI cZ cJ cA a0 s0 o b P_21 S_21 H3.size x21_3 x21_2 gP_21 gS_21 r_x21_3 r_x21_2) (zcw 3 (hB.word (zm2 k2_220) rfl) (hB.word (zm1 k1_2) rfl) (hB.word (zm2 k2_217) rfl) (hB.word (zm2 k2_219) rfl) (k2_selects_private (by decide) (hB.word (zm1 k1_26) rfl) (hB.word (zm2 k2_218) rfl) (hB.word (zm2 k2_219) rfl)) rfl rfl (by decide +kernel) ⟨Nat.le_of_ble_eq_true rfl, Nat.le_of_ble_eq_true rfl⟩) ⟨zP_blind, va_recv hK hP (ci := 1) (q0 := 1) rfl rfl, zP_pre hP hK hD hAD (zB_on hB hA0 hS)⟩ rfl rfl hl.1 rfl (lv_room (Nat.le_of_ble_eq_true rfl)) dPL_firstFault_42 ⟨Nat.le_of_ble_eq_true rfl, Nat.le_of_ble_eq_true rfl⟩) hD hS hA (fun k6 x9 H5 locs h9 hP hD hS => ?_)
          obtain ⟨P8, S7⟩ := x9
          have hP : va_P (dC, dI) zCl (CW cI cZ cA o b P8 S7) H5 := hP
          have hD : va_D A (CW cI cZ cA o b P8 S7) := hD
          have E := zl3_s E h9.1
          have gP8 := h9.2.1
          have gS7 := h9.2.2.1
          refine z_if_eq (tgt := 56) hx hb dPL_firstFault_45 (by decide) E (fun c_45 E => ?_) (fun c_45 E => ?_)
          · have r_k6 : zr 0 0 k6 := zeq_x (show zr 0 0 0 from by decide) c_45
            exact hJ56 H5 locs ls P8 S7 x21_3 r_x21_3 gP8 gS7 E hP hD hS (lv_sub hl [3] rfl)
          · have r_k6 : zr 1 1 k6 := zne_lo h9.2.2.2 c_45 (by decide)
            refine lv_aload_n hx hb dPL_firstFault_48 rfl (lv_at hl 0 rfl) ?_
            refine lv_iload_n hx hb dPL_firstFault_49 rfl (lv_at hl 3 rfl) ?_
            refine zcallp (va_runV (As := [.int x21_3]) (rest := []) ⟨hx, hb, hml, hown, zno⟩ (tPL_hasRightOwner l dC dI cI cZ cJ cA a0 s0 o b P8 S7 H5.size x21_3 gP8 gS7 r_x21_3) (zcw 1 (hB.word (zm3 k3_8) rfl) (hB.word (zm1 k1_2) rfl) (hB.word (zm3 k3_5) rfl) (hB.word (zm3 k3_7) rfl) (k2_selects_private (by decide) (hB.word (zm1 k1_26) rfl) (hB.word (zm3 k3_6) rfl) (hB.word (zm3 k3_7) rfl)) rfl rfl (by decide +kernel) ⟨Nat.le_of_ble_eq_true rfl, Nat.le_of_ble_eq_true rfl⟩) ⟨zP_blind, va_recv hK hP (ci := 1) (q0 := 1) rfl rfl, zP_pre hP hK hD hAD (zB_on hB hA0 hS)⟩ rfl rfl hl.1 rfl (lv_room (Nat.le_of_ble_eq_true rfl)) dPL_firstFault_50 ⟨Nat.le_of_ble_eq_true rfl, Nat.le_of_ble_eq_true rfl⟩) hS hA (fun k11 H10 locs hk11 hz1 hk1 hS => ?_)
            have hP := zKeep hP hk1
            have E := zl_s E hk11.1
            refine z_if_ne (tgt := 60) hx hb dPL_firstFault_53 (by decide) E (fun c_53 E => ?_) (fun c_53 E => ?_)
            · have r_k11 : zr 1 1 k11 := zne_lo hk11.2 c_53 (by decide)
              refine lv_iconst (v := 0) hx hb dPL_firstFault_60 (by decide) ?_
              refine lv_istore_n (lv' := [(2, .int 0), (0, .ref (o 1)), (1, .ref (o 6)), (3, .int x21_3)]) hx hb dPL_firstFault_61 rfl hl (by decide) rfl (fun ls hl => ?_)
              exact hJ62 H10 locs ls P8 S7 0 x21_3 (show zr 0 1 0 from by decide) r_x21_3 gP8 gS7 hm21 E hP hD hS (lv_sub hl [1, 2, 0, 3] rfl)
            · have r_k11 : zr 0 0 k11 := zeq_x (show zr 0 0 0 from by decide) c_53
              exact hJ56 H10 locs ls P8 S7 x21_3 r_x21_3 gP8 gS7 E hP hD hS (lv_sub hl [3] rfl)
        · have r_k4 : zr 0 0 k4 := zeq_x (show zr 0 0 0 from by decide) c_32
          refine lv_goto (tgt := 62) hx hb dPL_firstFault_35 (by decide) ?_
          exact hJ62 H3 locs ls P_21 S_21 x21_2 x21_3 r_x21_2 r_x21_3 gP_21 gS_21 hm21 E hP hD hS (lv_sub hl [0, 1, 2, 3] rfl)
  refine lv_aload_n hx hb dPL_firstFault_0 rfl (lv_at hl 0 rfl) ?_
  refine c_get_1 hx hb (hB.words zU_PL) hown hK hP (hB.word (zm1 k1_37) rfl) dPL_firstFault_1 E (fun k12 ek12 E => ?_)
  have r_k12 : zr 0 60 k12 := by rw [ek12]; exact gP.2.1 1
  refine z_if_eq (tgt := 14) hx hb dPL_firstFault_4 (by decide) E (fun c_4 E => ?_) (fun c_4 E => ?_)
  · have r_k12 : zr 0 0 k12 := zeq_x (show zr 0 0 0 from by decide) c_4
    exact hJ14 s.heap [] ls P S gP gS E hP hD hS (lv_sub hl [] rfl)
  · have r_k12 : zr 1 60 k12 := zne_lo r_k12 c_4 (by decide)
    refine lv_aload_n hx hb dPL_firstFault_7 rfl (lv_at hl 0 rfl) ?_
    refine zcallp (va_runV (As := []) (rest := []) ⟨hx, hb, hml, hown, zno⟩ (tPL_hasBareBridge l dC dI cI cZ cJ cA a0 s0 o b P S s.heap.size gP gS) (zcw 0 (hB.word (zm2 k2_204) rfl) (hB.word (zm1 k1_2) rfl) (hB.word (zm2 k2_201) rfl) (hB.word (zm2 k2_203) rfl) (k2_selects_private (by decide) (hB.word (zm1 k1_26) rfl) (hB.word (zm2 k2_202) rfl) (hB.word (zm2 k2_203) rfl)) rfl rfl (by decide +kernel) ⟨Nat.le_of_ble_eq_true rfl, Nat.le_of_ble_eq_true rfl⟩) ⟨zP_blind, va_recv hK hP (ci := 1) (q0 := 1) rfl rfl, zP_pre hP hK hD hAD (zB_on hB hA0 hS)⟩ rfl rfl hl.1 rfl (lv_room (Nat.le_of_ble_eq_true rfl)) dPL_firstFault_8 ⟨Nat.le_of_ble_eq_true rfl, Nat.le_of_ble_eq_true rfl⟩) hS hA (fun k14 H13 locs hk14 hz1 hk1 hS => ?_)
    have hP := zKeep hP hk1
    have E := zl_s E hk14.1
    refine z_if_eq (tgt := 17) hx hb dPL_firstFault_11 (by decide) E (fun c_11 E => ?_) (fun c_11 E => ?_)
    · have r_k14 : zr 0 0 k14 := zeq_x (show zr 0 0 0 from by decide) c_11
      refine lv_iconst (v := 1) hx hb dPL_firstFault_17 (by decide) ?_
      refine lv_istore_n (lv' := [(2, .int 1), (0, .ref (o 1)), (1, .ref (o 6))]) hx hb dPL_firstFault_18 rfl hl (by decide) rfl (fun ls hl => ?_)
      refine lv_iconst (v := 0) hx hb dPL_firstFault_19 (by decide) ?_
      refine lv_istore_n (lv' := [(3, .int 0), (2, .int 1), (0, .ref (o 1)), (1, .ref (o 6))]) hx hb dPL_firstFault_20 rfl hl (by decide) rfl (fun ls hl => ?_)
      exact hL21 7 H13 locs ls P S 1 0 (show zr 0 1 1 from by decide) (show zr 0 6 0 from by decide) gP gS (Or.inl rfl) (by have h9 := (show zr 0 0 0 from by decide); exact zfuelU h9 (by decide)) E hP hD hS (lv_sub hl [2, 3, 1, 0] rfl)
    · have r_k14 : zr 1 1 k14 := zne_lo hk14.2 c_11 (by decide)
      exact hJ14 H13 locs ls P S gP gS E hP hD hS (lv_sub hl [] rfl)
noncomputable def fPL_addLink (P S : ZS) (x0 : Int32) (x1 : Int32) (x2 : Int32) : ZS × ZS × Int32 := zl (P.I 1) (fun k1 => zl (P.setF 0 (k1 : Int32).toNatClampNeg x0) (fun P2 => zl (P2.setF 1 (k1 : Int32).toNatClampNeg x1) (fun P4 => zl (P4.setF 2 (k1 : Int32).toNatClampNeg x2) (fun P6 => zl (2 * k1) (fun k8 => zl (x0 * 6) (fun k9 => zl (k9 + x2) (fun k10 => zl (P6.setF 5 (k8 : Int32).toNatClampNeg k10) (fun P11 => zl (2 * k1) (fun k13 => zl (k13 + 1) (fun k14 => zl (x1 * 6) (fun k15 => zl (k15 + x2) (fun k16 => zl (P11.setF 5 (k14 : Int32).toNatClampNeg k16) (fun P17 => zl (k1 + 1) (fun k19 => zl (P17.setI 1 k19) (fun P20 => (P20, S, k1))))))))))))))))
set_option maxHeartbeats 4000000 in
set_option maxRecDepth 100000 in
theorem tPL_addLink (l : Launch) (dC : Nat → ClassId) (dI : Nat → Nat → Nat) (cI cZ cJ cA : ClassId) (a0 : Array Value) (s0 : State) (o b : Nat → Nat) (P S : ZS) (sz : Nat) (x0 : Int32) (x1 : Int32) (x2 : Int32) (gP : cok P) (gS : cok S) (r_x0 : zr 0 47 x0) (r_x1 : zr 0 47 x1) (r_x2 : zr 0 5 x2) (hx1 : (P.I 1).toInt < 60) : Met l yPL_addLink [Cond.code yPL_addLink bPL_addLink 5 (some .int)] ({ frames := 0, cells := 0, slots := 0, locals := 0 } : Room) (zP zCl dC dI (zTZ cI cZ cJ cA) a0 s0 [.ref (o 1), .int x0, .int x1, .int x2] sz (CW cI cZ cA o b P S)) (zQH zCl dC dI (fun (r : Int32) (x9 : ZS × ZS) => (x9.1, x9.2, r) = fPL_addLink P S x0 x1 x2 ∧ cok x9.1 ∧ cok x9.2 ∧ zr 0 59 r) (fun x9 : ZS × ZS => (CW cI cZ cA o b x9.1 x9.2)) (va_A (CW cI cZ cA o b P S) sz)) 0 0 (va_A (CW cI cZ cA o b P S) sz) := by
  refine Met.ofW (cc := bPL_addLink) (maxL := 5) (ret := (some .int)) (by decide) rfl ?_
  intro p e s m args below meth c s₁ B hml hv
  obtain ⟨rfl, hsz, hP, hK, hD0, hB⟩ := hv
  have hx := B.exec
  have hb := B.bytes
  have hr := B.returns
  have hown : s.vm.findClass "RingGuard$Plan" = some m.cls := findClass_of_methodNamed B.named
  have hlocks := B.notSynchronized
  subst hsz
  have hD := hD0.self (sz := s.heap.size)
  have hA0 := zA0 hD0 hB
  generalize hAe : va_A (CW cI cZ cA o b P S) s.heap.size = A at hD hA0 ⊢
  have hAD := hA0
  have hA : ∀ q : Nat, s.heap.size ≤ q → A q := fun q h => by rw [← hAe]; exact Or.inr h
  have hS : va_S A s.heap s.heap [] := va_S.rf
  have hl := lv_entry ([.ref (o 1), .int x0, .int x1, .int x2]) (n := 5) (Nat.le_of_ble_eq_true rfl)
  rw [lg_entry_eq]
  generalize (lg_sl ([.ref (o 1), .int x0, .int x1, .int x2]) ++ List.replicate (5 - (lg_sl ([.ref (o 1), .int x0, .int x1, .int x2])).length) Slot.unset).toArray = ls at hl ⊢
  have hl : lv_has ls 5 [(0, .ref (o 1)), (1, .int x0), (2, .int x1), (3, .int x2)] := hl
  refine zgenQ (fun Q hQe => ?_)
  obtain ⟨tg, etg⟩ : ∃ z, z = fPL_addLink P S x0 x1 x2 := ⟨_, rfl⟩
  have E := etg
  unfold fPL_addLink at E
  refine lv_aload_n hx hb dPL_addLink_0 rfl (lv_at hl 0 rfl) ?_
  refine c_get_1 hx hb (hB.words zU_PL) hown hK hP (hB.word (zm1 k1_37) rfl) dPL_addLink_1 E (fun k1 ek1 E => ?_)
  have r_k1 : zr 0 60 k1 := by rw [ek1]; exact gP.2.1 1
  have r_k1 : zr 0 59 k1 := ⟨r_k1.1, by have h9 := hx1; rw [← ek1] at h9; omega⟩
  refine lv_istore (lv' := [(4, .int k1), (0, .ref (o 1)), (1, .int x0), (2, .int x1), (3, .int x2)]) hx hb dPL_addLink_4 hl (by decide) rfl (fun ls hl => ?_)
  refine lv_aload_n hx hb dPL_addLink_6 rfl (lv_at hl 1 rfl) ?_
  refine c_getA_0 hx hb (hB.words zU_PL) hown hK hP (hB.word (zm1 k1_41) rfl) dPL_addLink_7 ?_
  refine lv_iload hx hb dPL_addLink_10 (lv_at hl 0 rfl) ?_
  refine lv_iload_n hx hb dPL_addLink_12 rfl (lv_at hl 2 rfl) ?_
  refine c_astP hx hb hK hP hD hS 0 (by decide) rfl r_k1 (by decide) dPL_addLink_13 E (fun P2 H3 locs eP2 E hP hD hS => ?_)
  have gP2 : cok P2 := by rw [eP2]; exact gP.setF (k := 0) r_x0 (Or.inl (by decide))
  refine lv_aload_n hx hb dPL_addLink_14 rfl (lv_at hl 1 rfl) ?_
  refine c_getA_1 hx hb (hB.words zU_PL) hown hK hP (hB.word (zm1 k1_43) rfl) dPL_addLink_15 ?_
  refine lv_iload hx hb dPL_addLink_18 (lv_at hl 0 rfl) ?_
  refine lv_iload_n hx hb dPL_addLink_20 rfl (lv_at hl 3 rfl) ?_
  refine c_astP hx hb hK hP hD hS 1 (by decide) rfl r_k1 (by decide) dPL_addLink_21 E (fun P4 H5 locs eP4 E hP hD hS => ?_)
  have gP4 : cok P4 := by rw [eP4]; exact gP2.setF (k := 1) r_x1 (Or.inl (by decide))
  refine lv_aload_n hx hb dPL_addLink_22 rfl (lv_at hl 1 rfl) ?_
  refine c_getA_2 hx hb (hB.words zU_PL) hown hK hP (hB.word (zm1 k1_45) rfl) dPL_addLink_23 ?_
  refine lv_iload hx hb dPL_addLink_26 (lv_at hl 0 rfl) ?_
  refine lv_iload_n hx hb dPL_addLink_28 rfl (lv_at hl 4 rfl) ?_
  refine c_astP hx hb hK hP hD hS 2 (by decide) rfl r_k1 (by decide) dPL_addLink_29 E (fun P6 H7 locs eP6 E hP hD hS => ?_)
  have gP6 : cok P6 := by rw [eP6]; exact gP4.setF (k := 2) r_x2 (Or.inl (by decide))
  refine lv_aload_n hx hb dPL_addLink_30 rfl (lv_at hl 1 rfl) ?_
  refine c_getA_5 hx hb (hB.words zU_PL) hown hK hP (hB.word (zm1 k1_51) rfl) dPL_addLink_31 ?_
  refine lv_iconst (v := 2) hx hb dPL_addLink_34 (by decide) ?_
  refine lv_iload hx hb dPL_addLink_35 (lv_at hl 0 rfl) ?_
  refine z_imul hx hb dPL_addLink_37 E (fun k8 ek8 E => ?_)
  have r_k8 : zr 0 118 k8 := zr_mul (show zr 2 2 2 from by decide) r_k1 ek8 (by decide)
  refine lv_iload_n hx hb dPL_addLink_38 rfl (lv_at hl 2 rfl) ?_
  refine lv_bipush (v := 6) hx hb dPL_addLink_39 (by decide) ?_
  refine z_imul hx hb dPL_addLink_41 E (fun k9 ek9 E => ?_)
  have r_k9 : zr 0 282 k9 := zr_mul r_x0 (show zr 6 6 6 from by decide) ek9 (by decide)
  refine lv_iload_n hx hb dPL_addLink_42 rfl (lv_at hl 4 rfl) ?_
  refine z_iadd hx hb dPL_addLink_43 E (fun k10 ek10 E => ?_)
  have r_k10 : zr 0 287 k10 := zr_add r_k9 r_x2 ek10 (by decide)
  refine c_astP hx hb hK hP hD hS 5 (by decide) rfl r_k8 (by decide) dPL_addLink_44 E (fun P11 H12 locs eP11 E hP hD hS => ?_)
  have gP11 : cok P11 := by rw [eP11]; exact gP6.setF (k := 5) r_k10 (Or.inl (by decide))
  refine lv_aload_n hx hb dPL_addLink_45 rfl (lv_at hl 1 rfl) ?_
  refine c_getA_5 hx hb (hB.words zU_PL) hown hK hP (hB.word (zm1 k1_51) rfl) dPL_addLink_46 ?_
  refine lv_iconst (v := 2) hx hb dPL_addLink_49 (by decide) ?_
  refine lv_iload hx hb dPL_addLink_50 (lv_at hl 0 rfl) ?_
  refine z_imul hx hb dPL_addLink_52 E (fun k13 ek13 E => ?_)
  have r_k13 : zr 0 118 k13 := zr_mul (show zr 2 2 2 from by decide) r_k1 ek13 (by decide)
  refine lv_iconst (v := 1) hx hb dPL_addLink_53 (by decide) ?_
  refine z_iadd hx hb dPL_addLink_54 E (fun k14 ek14 E => ?_)
  have r_k14 : zr 1 119 k14 := zr_add r_k13 (show zr 1 1 1 from by decide) ek14 (by decide)
  refine lv_iload_n hx hb dPL_addLink_55 rfl (lv_at hl 3 rfl) ?_
  refine lv_bipush (v := 6) hx hb dPL_addLink_56 (by decide) ?_
  refine z_imul hx hb dPL_addLink_58 E (fun k15 ek15 E => ?_)
  have r_k15 : zr 0 282 k15 := zr_mul r_x1 (show zr 6 6 6 from by decide) ek15 (by decide)
  refine lv_iload_n hx hb dPL_addLink_59 rfl (lv_at hl 4 rfl) ?_
  refine z_iadd hx hb dPL_addLink_60 E (fun k16 ek16 E => ?_)
  have r_k16 : zr 0 287 k16 := zr_add r_k15 r_x2 ek16 (by decide)
  refine c_astP hx hb hK hP hD hS 5 (by decide) rfl r_k14 (by decide) dPL_addLink_61 E (fun P17 H18 locs eP17 E hP hD hS => ?_)
  have gP17 : cok P17 := by rw [eP17]; exact gP11.setF (k := 5) r_k16 (Or.inl (by decide))
  refine lv_aload_n hx hb dPL_addLink_62 rfl (lv_at hl 1 rfl) ?_
  refine lv_iload hx hb dPL_addLink_63 (lv_at hl 0 rfl) ?_
  refine lv_iconst (v := 1) hx hb dPL_addLink_65 (by decide) ?_
  refine z_iadd hx hb dPL_addLink_66 E (fun k19 ek19 E => ?_)
  have r_k19 : zr 1 60 k19 := zr_add r_k1 (show zr 1 1 1 from by decide) ek19 (by decide)
  refine c_put_1 hx hb (hB.words zU_PL) hown hK hP hD hS (hB.word (zm1 k1_37) rfl) dPL_addLink_67 E (fun P20 H21 locs eP20 E hP hD hS => ?_)
  have gP20 : cok P20 := by rw [eP20]; exact gP17.setI (t := 1) (zr_mono r_k19 (by decide))
  refine lv_iload hx hb dPL_addLink_70 (lv_at hl 0 rfl) ?_
  rw [hQe]
  exact W.iret (v := k1) hx hb hr (fun t ht hW => ⟨⟨k1, (P20, S), rfl, ⟨E.symm.trans etg, gP20, gS, r_k1⟩, by rw [ht]; exact hP, hD⟩, hS.F ht⟩) hS.2.2 dPL_addLink_72
