theorem k1_9 : tables_1_1[9]? = some (Jvm.Cond.initialized "RingGuardModel") := by decide +kernel
theorem k4_109 : tables_1_4[109]? = some (Jvm.Cond.instantiable "RingGuardModel" (53 : Nat)) := by decide +kernel
theorem k4_114 : tables_1_4[114]? = some (Jvm.Cond.fieldLink "RingGuardModel" (125 : Nat) "RingGuardModel" "code" "I") := by decide +kernel
theorem k4_116 : tables_1_4[116]? = some (Jvm.Cond.fieldLink "RingGuardModel" (129 : Nat) "RingGuardModel" "bridges" "I") := by decide +kernel
theorem k4_117 : tables_1_4[117]? = some (Jvm.Cond.fieldLink "RingGuardModel" (132 : Nat) "RingGuardModel" "links" "I") := by decide +kernel
theorem k4_118 : tables_1_4[118]? = some (Jvm.Cond.fieldLink "RingGuardModel" (7 : Nat) "RingGuardModel" "first" "[I") := by decide +kernel
theorem k4_119 : tables_1_4[119]? = some (Jvm.Cond.fieldLink "RingGuardModel" (13 : Nat) "RingGuardModel" "second" "[I") := by decide +kernel
theorem k4_120 : tables_1_4[120]? = some (Jvm.Cond.fieldLink "RingGuardModel" (16 : Nat) "RingGuardModel" "ringOf" "[I") := by decide +kernel
theorem k4_125 : tables_1_4[125]? = some (Jvm.Cond.fieldLink "RingGuardModel" (32 : Nat) "RingGuardModel" "owner" "[I") := by decide +kernel
theorem k4_126 : tables_1_4[126]? = some (Jvm.Cond.fieldLink "RingGuardModel" (35 : Nat) "RingGuardModel" "protection" "[I") := by decide +kernel
theorem k4_127 : tables_1_4[127]? = some (Jvm.Cond.fieldLink "RingGuardModel" (38 : Nat) "RingGuardModel" "isClosed" "[Z") := by decide +kernel
theorem k4_158 : tables_1_4[158]? = some (Jvm.Cond.fieldLink "RingGuardModel" (110 : Nat) "RingGuardModel" "group" "[I") := by decide +kernel
theorem k5_73 : tables_1_5[73]? = some (Jvm.Cond.methodLink "RingGuardModel" (157 : Nat) ({ cls := "RingGuardModel", name := "degreeIn", desc := "(II)I" } : Jvm.MethodName)) := by decide +kernel
theorem k5_74 : tables_1_5[74]? = some (Jvm.Cond.privateMethod ({ cls := "RingGuardModel", name := "degreeIn", desc := "(II)I" } : Jvm.MethodName)) := by decide +kernel
theorem k5_75 : tables_1_5[75]? = some (Jvm.Cond.instanceMethod ({ cls := "RingGuardModel", name := "degreeIn", desc := "(II)I" } : Jvm.MethodName)) := by decide +kernel
theorem k5_76 : tables_1_5[76]? = some (Jvm.Cond.code ({ cls := "RingGuardModel", name := "degreeIn", desc := "(II)I" } : Jvm.MethodName) prog_10_method_13_code (5 : Nat) (Option.some Jvm.ClassFile.FieldType.int)) := rfl
theorem k5_77 : tables_1_5[77]? = some (Jvm.Cond.methodLink "RingGuardModel" (153 : Nat) ({ cls := "RingGuardModel", name := "isEnd", desc := "(II)Z" } : Jvm.MethodName)) := by decide +kernel
theorem k5_78 : tables_1_5[78]? = some (Jvm.Cond.privateMethod ({ cls := "RingGuardModel", name := "isEnd", desc := "(II)Z" } : Jvm.MethodName)) := by decide +kernel
theorem k5_79 : tables_1_5[79]? = some (Jvm.Cond.instanceMethod ({ cls := "RingGuardModel", name := "isEnd", desc := "(II)Z" } : Jvm.MethodName)) := by decide +kernel
theorem k5_80 : tables_1_5[80]? = some (Jvm.Cond.code ({ cls := "RingGuardModel", name := "isEnd", desc := "(II)Z" } : Jvm.MethodName) prog_10_method_6_code (3 : Nat) (Option.some Jvm.ClassFile.FieldType.boolean)) := rfl
theorem k5_81 : tables_1_5[81]? = some (Jvm.Cond.methodLink "RingGuardModel" (173 : Nat) ({ cls := "RingGuardModel", name := "linksIn", desc := "(I)I" } : Jvm.MethodName)) := by decide +kernel
theorem k5_82 : tables_1_5[82]? = some (Jvm.Cond.privateMethod ({ cls := "RingGuardModel", name := "linksIn", desc := "(I)I" } : Jvm.MethodName)) := by decide +kernel
theorem k5_83 : tables_1_5[83]? = some (Jvm.Cond.instanceMethod ({ cls := "RingGuardModel", name := "linksIn", desc := "(I)I" } : Jvm.MethodName)) := by decide +kernel
theorem k5_84 : tables_1_5[84]? = some (Jvm.Cond.code ({ cls := "RingGuardModel", name := "linksIn", desc := "(I)I" } : Jvm.MethodName) prog_10_method_12_code (4 : Nat) (Option.some Jvm.ClassFile.FieldType.int)) := rfl
theorem k5_85 : tables_1_5[85]? = some (Jvm.Cond.methodLink "RingGuardModel" (177 : Nat) ({ cls := "RingGuardModel", name := "isRight", desc := "(IZ)Z" } : Jvm.MethodName)) := by decide +kernel
theorem k5_86 : tables_1_5[86]? = some (Jvm.Cond.privateMethod ({ cls := "RingGuardModel", name := "isRight", desc := "(IZ)Z" } : Jvm.MethodName)) := by decide +kernel
theorem k5_87 : tables_1_5[87]? = some (Jvm.Cond.instanceMethod ({ cls := "RingGuardModel", name := "isRight", desc := "(IZ)Z" } : Jvm.MethodName)) := by decide +kernel
theorem k5_88 : tables_1_5[88]? = some (Jvm.Cond.code ({ cls := "RingGuardModel", name := "isRight", desc := "(IZ)Z" } : Jvm.MethodName) prog_10_method_17_code (9 : Nat) (Option.some Jvm.ClassFile.FieldType.boolean)) := rfl
theorem k5_89 : tables_1_5[89]? = some (Jvm.Cond.methodLink "RingGuardModel" (164 : Nat) ({ cls := "RingGuardModel", name := "isEarlier", desc := "(II)Z" } : Jvm.MethodName)) := by decide +kernel
theorem k5_90 : tables_1_5[90]? = some (Jvm.Cond.privateMethod ({ cls := "RingGuardModel", name := "isEarlier", desc := "(II)Z" } : Jvm.MethodName)) := by decide +kernel
theorem k5_91 : tables_1_5[91]? = some (Jvm.Cond.instanceMethod ({ cls := "RingGuardModel", name := "isEarlier", desc := "(II)Z" } : Jvm.MethodName)) := by decide +kernel
theorem k5_92 : tables_1_5[92]? = some (Jvm.Cond.code ({ cls := "RingGuardModel", name := "isEarlier", desc := "(II)Z" } : Jvm.MethodName) prog_10_method_14_code (5 : Nat) (Option.some Jvm.ClassFile.FieldType.boolean)) := rfl
theorem k5_93 : tables_1_5[93]? = some (Jvm.Cond.methodLink "RingGuardModel" (167 : Nat) ({ cls := "RingGuardModel", name := "isOne", desc := "(I)Z" } : Jvm.MethodName)) := by decide +kernel
theorem k5_94 : tables_1_5[94]? = some (Jvm.Cond.privateMethod ({ cls := "RingGuardModel", name := "isOne", desc := "(I)Z" } : Jvm.MethodName)) := by decide +kernel
theorem k5_95 : tables_1_5[95]? = some (Jvm.Cond.instanceMethod ({ cls := "RingGuardModel", name := "isOne", desc := "(I)Z" } : Jvm.MethodName)) := by decide +kernel
theorem k5_96 : tables_1_5[96]? = some (Jvm.Cond.code ({ cls := "RingGuardModel", name := "isOne", desc := "(I)Z" } : Jvm.MethodName) prog_10_method_15_code (4 : Nat) (Option.some Jvm.ClassFile.FieldType.boolean)) := rfl
theorem k5_97 : tables_1_5[97]? = some (Jvm.Cond.methodLink "RingGuardModel" (161 : Nat) ({ cls := "RingGuardModel", name := "join", desc := "(II)Z" } : Jvm.MethodName)) := by decide +kernel
theorem k5_98 : tables_1_5[98]? = some (Jvm.Cond.privateMethod ({ cls := "RingGuardModel", name := "join", desc := "(II)Z" } : Jvm.MethodName)) := by decide +kernel
theorem k5_99 : tables_1_5[99]? = some (Jvm.Cond.instanceMethod ({ cls := "RingGuardModel", name := "join", desc := "(II)Z" } : Jvm.MethodName)) := by decide +kernel
theorem k5_100 : tables_1_5[100]? = some (Jvm.Cond.code ({ cls := "RingGuardModel", name := "join", desc := "(II)Z" } : Jvm.MethodName) prog_10_method_16_code (6 : Nat) (Option.some Jvm.ClassFile.FieldType.boolean)) := rfl
theorem k5_101 : tables_1_5[101]? = some (Jvm.Cond.methodLink "RingGuardModel" (170 : Nat) ({ cls := "RingGuardModel", name := "isHung", desc := "(I)Z" } : Jvm.MethodName)) := by decide +kernel
theorem k5_102 : tables_1_5[102]? = some (Jvm.Cond.privateMethod ({ cls := "RingGuardModel", name := "isHung", desc := "(I)Z" } : Jvm.MethodName)) := by decide +kernel
theorem k5_103 : tables_1_5[103]? = some (Jvm.Cond.instanceMethod ({ cls := "RingGuardModel", name := "isHung", desc := "(I)Z" } : Jvm.MethodName)) := by decide +kernel
theorem k5_104 : tables_1_5[104]? = some (Jvm.Cond.code ({ cls := "RingGuardModel", name := "isHung", desc := "(I)Z" } : Jvm.MethodName) prog_10_method_18_code (6 : Nat) (Option.some Jvm.ClassFile.FieldType.boolean)) := rfl
abbrev yMO_isBridge : MethodName := ⟨"RingGuardModel", "isBridge", "(I)Z"⟩
abbrev bMO_isBridge : ByteArray := prog_10_method_3_code
abbrev yMO_isLink : MethodName := ⟨"RingGuardModel", "isLink", "(I)Z"⟩
abbrev bMO_isLink : ByteArray := prog_10_method_4_code
abbrev yMO_isRing : MethodName := ⟨"RingGuardModel", "isRing", "(I)Z"⟩
abbrev bMO_isRing : ByteArray := prog_10_method_5_code
abbrev yMO_isEnd : MethodName := ⟨"RingGuardModel", "isEnd", "(II)Z"⟩
abbrev bMO_isEnd : ByteArray := prog_10_method_6_code
abbrev yMO_other : MethodName := ⟨"RingGuardModel", "other", "(II)I"⟩
abbrev bMO_other : ByteArray := prog_10_method_7_code
abbrev yMO_goes : MethodName := ⟨"RingGuardModel", "goes", "(ZZ)Z"⟩
abbrev bMO_goes : ByteArray := prog_10_method_8_code
abbrev yMO_linksIn : MethodName := ⟨"RingGuardModel", "linksIn", "(I)I"⟩
abbrev bMO_linksIn : ByteArray := prog_10_method_12_code
abbrev yMO_degreeIn : MethodName := ⟨"RingGuardModel", "degreeIn", "(II)I"⟩
abbrev bMO_degreeIn : ByteArray := prog_10_method_13_code
abbrev yMO_isEarlier : MethodName := ⟨"RingGuardModel", "isEarlier", "(II)Z"⟩
abbrev bMO_isEarlier : ByteArray := prog_10_method_14_code
abbrev yMO_join : MethodName := ⟨"RingGuardModel", "join", "(II)Z"⟩
abbrev bMO_join : ByteArray := prog_10_method_16_code
abbrev yMO_isOne : MethodName := ⟨"RingGuardModel", "isOne", "(I)Z"⟩
abbrev bMO_isOne : ByteArray := prog_10_method_15_code
abbrev yMO_isHung : MethodName := ⟨"RingGuardModel", "isHung", "(I)Z"⟩
abbrev bMO_isHung : ByteArray := prog_10_method_18_code
abbrev yMO_isRight : MethodName := ⟨"RingGuardModel", "isRight", "(IZ)Z"⟩
abbrev bMO_isRight : ByteArray := prog_10_method_17_code
abbrev yMO_faultOf : MethodName := ⟨"RingGuardModel", "faultOf", "()I"⟩
abbrev bMO_faultOf : ByteArray := prog_10_method_19_code
theorem dMO_degreeIn_0 : decode bMO_degreeIn 0 = .ok (.iconst 0, 1) := by decide +kernel
theorem dMO_degreeIn_1 : decode bMO_degreeIn 1 = .ok (.istore_n 3, 1) := by decide +kernel
theorem dMO_degreeIn_2 : decode bMO_degreeIn 2 = .ok (.iconst 0, 1) := by decide +kernel
theorem dMO_degreeIn_3 : decode bMO_degreeIn 3 = .ok (.istore 4, 2) := by decide +kernel
theorem dMO_degreeIn_5 : decode bMO_degreeIn 5 = .ok (.iload 4, 2) := by decide +kernel
theorem dMO_degreeIn_7 : decode bMO_degreeIn 7 = .ok (.aload_n 0, 1) := by decide +kernel
theorem dMO_degreeIn_8 : decode bMO_degreeIn 8 = .ok (.getfield 132, 3) := by decide +kernel
theorem dMO_degreeIn_11 : decode bMO_degreeIn 11 = .ok (.if_icmp .ge 38, 3) := by decide +kernel
theorem dMO_degreeIn_14 : decode bMO_degreeIn 14 = .ok (.iload_n 3, 1) := by decide +kernel
theorem dMO_degreeIn_15 : decode bMO_degreeIn 15 = .ok (.aload_n 0, 1) := by decide +kernel
theorem dMO_degreeIn_16 : decode bMO_degreeIn 16 = .ok (.getfield 16, 3) := by decide +kernel
theorem dMO_degreeIn_19 : decode bMO_degreeIn 19 = .ok (.iload 4, 2) := by decide +kernel
theorem dMO_degreeIn_21 : decode bMO_degreeIn 21 = .ok (.iaload, 1) := by decide +kernel
theorem dMO_degreeIn_22 : decode bMO_degreeIn 22 = .ok (.iload_n 2, 1) := by decide +kernel
theorem dMO_degreeIn_23 : decode bMO_degreeIn 23 = .ok (.if_icmp .ne 17, 3) := by decide +kernel
theorem dMO_degreeIn_26 : decode bMO_degreeIn 26 = .ok (.aload_n 0, 1) := by decide +kernel
theorem dMO_degreeIn_27 : decode bMO_degreeIn 27 = .ok (.iload_n 1, 1) := by decide +kernel
theorem dMO_degreeIn_28 : decode bMO_degreeIn 28 = .ok (.iload 4, 2) := by decide +kernel
theorem dMO_degreeIn_30 : decode bMO_degreeIn 30 = .ok (.invokevirtual 153, 3) := by decide +kernel
theorem dMO_degreeIn_33 : decode bMO_degreeIn 33 = .ok (.ifCond .eq 7, 3) := by decide +kernel
theorem dMO_degreeIn_36 : decode bMO_degreeIn 36 = .ok (.iconst 1, 1) := by decide +kernel
theorem dMO_degreeIn_37 : decode bMO_degreeIn 37 = .ok (.goto 4, 3) := by decide +kernel
theorem dMO_degreeIn_40 : decode bMO_degreeIn 40 = .ok (.iconst 0, 1) := by decide +kernel
theorem dMO_degreeIn_41 : decode bMO_degreeIn 41 = .ok (.iadd, 1) := by decide +kernel
theorem dMO_degreeIn_42 : decode bMO_degreeIn 42 = .ok (.istore_n 3, 1) := by decide +kernel
theorem dMO_degreeIn_43 : decode bMO_degreeIn 43 = .ok (.iinc 4 1, 3) := by decide +kernel
theorem dMO_degreeIn_46 : decode bMO_degreeIn 46 = .ok (.goto (-41), 3) := by decide +kernel
theorem dMO_degreeIn_49 : decode bMO_degreeIn 49 = .ok (.iload_n 3, 1) := by decide +kernel
theorem dMO_degreeIn_50 : decode bMO_degreeIn 50 = .ok (.ireturn, 1) := by decide +kernel
theorem dMO_faultOf_0 : decode bMO_faultOf 0 = .ok (.aload_n 0, 1) := by decide +kernel
theorem dMO_faultOf_1 : decode bMO_faultOf 1 = .ok (.getfield 132, 3) := by decide +kernel
theorem dMO_faultOf_4 : decode bMO_faultOf 4 = .ok (.ifCond .ne 6, 3) := by decide +kernel
theorem dMO_faultOf_7 : decode bMO_faultOf 7 = .ok (.bipush 7, 2) := by decide +kernel
theorem dMO_faultOf_9 : decode bMO_faultOf 9 = .ok (.ireturn, 1) := by decide +kernel
theorem dMO_faultOf_10 : decode bMO_faultOf 10 = .ok (.iconst 0, 1) := by decide +kernel
theorem dMO_faultOf_11 : decode bMO_faultOf 11 = .ok (.istore_n 1, 1) := by decide +kernel
theorem dMO_faultOf_12 : decode bMO_faultOf 12 = .ok (.iload_n 1, 1) := by decide +kernel
theorem dMO_faultOf_13 : decode bMO_faultOf 13 = .ok (.aload_n 0, 1) := by decide +kernel
theorem dMO_faultOf_14 : decode bMO_faultOf 14 = .ok (.getfield 129, 3) := by decide +kernel
theorem dMO_faultOf_17 : decode bMO_faultOf 17 = .ok (.if_icmp .ge 51, 3) := by decide +kernel
theorem dMO_faultOf_20 : decode bMO_faultOf 20 = .ok (.iconst 0, 1) := by decide +kernel
theorem dMO_faultOf_21 : decode bMO_faultOf 21 = .ok (.istore_n 2, 1) := by decide +kernel
theorem dMO_faultOf_22 : decode bMO_faultOf 22 = .ok (.iconst 0, 1) := by decide +kernel
theorem dMO_faultOf_23 : decode bMO_faultOf 23 = .ok (.istore_n 3, 1) := by decide +kernel
theorem dMO_faultOf_24 : decode bMO_faultOf 24 = .ok (.iload_n 3, 1) := by decide +kernel
theorem dMO_faultOf_25 : decode bMO_faultOf 25 = .ok (.bipush 6, 2) := by decide +kernel
theorem dMO_faultOf_27 : decode bMO_faultOf 27 = .ok (.if_icmp .ge 28, 3) := by decide +kernel
theorem dMO_faultOf_30 : decode bMO_faultOf 30 = .ok (.iload_n 2, 1) := by decide +kernel
theorem dMO_faultOf_31 : decode bMO_faultOf 31 = .ok (.ifCond .ne 12, 3) := by decide +kernel
theorem dMO_faultOf_34 : decode bMO_faultOf 34 = .ok (.aload_n 0, 1) := by decide +kernel
theorem dMO_faultOf_35 : decode bMO_faultOf 35 = .ok (.iload_n 1, 1) := by decide +kernel
theorem dMO_faultOf_36 : decode bMO_faultOf 36 = .ok (.iload_n 3, 1) := by decide +kernel
theorem dMO_faultOf_37 : decode bMO_faultOf 37 = .ok (.invokevirtual 157, 3) := by decide +kernel
theorem dMO_faultOf_40 : decode bMO_faultOf 40 = .ok (.ifCond .le 7, 3) := by decide +kernel
theorem dMO_faultOf_43 : decode bMO_faultOf 43 = .ok (.iconst 1, 1) := by decide +kernel
theorem dMO_faultOf_44 : decode bMO_faultOf 44 = .ok (.goto 4, 3) := by decide +kernel
theorem dMO_faultOf_47 : decode bMO_faultOf 47 = .ok (.iconst 0, 1) := by decide +kernel
theorem dMO_faultOf_48 : decode bMO_faultOf 48 = .ok (.istore_n 2, 1) := by decide +kernel
theorem dMO_faultOf_49 : decode bMO_faultOf 49 = .ok (.iinc 3 1, 3) := by decide +kernel
theorem dMO_faultOf_52 : decode bMO_faultOf 52 = .ok (.goto (-28), 3) := by decide +kernel
theorem dMO_faultOf_55 : decode bMO_faultOf 55 = .ok (.iload_n 2, 1) := by decide +kernel
theorem dMO_faultOf_56 : decode bMO_faultOf 56 = .ok (.ifCond .ne 6, 3) := by decide +kernel
theorem dMO_faultOf_59 : decode bMO_faultOf 59 = .ok (.bipush 7, 2) := by decide +kernel
theorem dMO_faultOf_61 : decode bMO_faultOf 61 = .ok (.ireturn, 1) := by decide +kernel
theorem dMO_faultOf_62 : decode bMO_faultOf 62 = .ok (.iinc 1 1, 3) := by decide +kernel
theorem dMO_faultOf_65 : decode bMO_faultOf 65 = .ok (.goto (-53), 3) := by decide +kernel
theorem dMO_faultOf_68 : decode bMO_faultOf 68 = .ok (.iconst 1, 1) := by decide +kernel
theorem dMO_faultOf_69 : decode bMO_faultOf 69 = .ok (.istore_n 1, 1) := by decide +kernel
theorem dMO_faultOf_70 : decode bMO_faultOf 70 = .ok (.iconst 0, 1) := by decide +kernel
theorem dMO_faultOf_71 : decode bMO_faultOf 71 = .ok (.istore_n 2, 1) := by decide +kernel
theorem dMO_faultOf_72 : decode bMO_faultOf 72 = .ok (.iload_n 2, 1) := by decide +kernel
theorem dMO_faultOf_73 : decode bMO_faultOf 73 = .ok (.bipush 6, 2) := by decide +kernel
theorem dMO_faultOf_75 : decode bMO_faultOf 75 = .ok (.if_icmp .ge 93, 3) := by decide +kernel
theorem dMO_faultOf_78 : decode bMO_faultOf 78 = .ok (.aload_n 0, 1) := by decide +kernel
theorem dMO_faultOf_79 : decode bMO_faultOf 79 = .ok (.getfield 38, 3) := by decide +kernel
theorem dMO_faultOf_82 : decode bMO_faultOf 82 = .ok (.iload_n 2, 1) := by decide +kernel
theorem dMO_faultOf_83 : decode bMO_faultOf 83 = .ok (.iconst 0, 1) := by decide +kernel
theorem dMO_faultOf_84 : decode bMO_faultOf 84 = .ok (.bastore, 1) := by decide +kernel
theorem dMO_faultOf_85 : decode bMO_faultOf 85 = .ok (.aload_n 0, 1) := by decide +kernel
theorem dMO_faultOf_86 : decode bMO_faultOf 86 = .ok (.iload_n 2, 1) := by decide +kernel
theorem dMO_faultOf_87 : decode bMO_faultOf 87 = .ok (.invokevirtual 173, 3) := by decide +kernel
theorem dMO_faultOf_90 : decode bMO_faultOf 90 = .ok (.ifCond .le 72, 3) := by decide +kernel
theorem dMO_faultOf_93 : decode bMO_faultOf 93 = .ok (.aload_n 0, 1) := by decide +kernel
theorem dMO_faultOf_94 : decode bMO_faultOf 94 = .ok (.getfield 32, 3) := by decide +kernel
theorem dMO_faultOf_97 : decode bMO_faultOf 97 = .ok (.iload_n 2, 1) := by decide +kernel
theorem dMO_faultOf_98 : decode bMO_faultOf 98 = .ok (.iaload, 1) := by decide +kernel
theorem dMO_faultOf_99 : decode bMO_faultOf 99 = .ok (.iconst (-1), 1) := by decide +kernel
theorem dMO_faultOf_100 : decode bMO_faultOf 100 = .ok (.if_icmp .eq 41, 3) := by decide +kernel
theorem dMO_faultOf_103 : decode bMO_faultOf 103 = .ok (.aload_n 0, 1) := by decide +kernel
theorem dMO_faultOf_104 : decode bMO_faultOf 104 = .ok (.getfield 16, 3) := by decide +kernel
theorem dMO_faultOf_107 : decode bMO_faultOf 107 = .ok (.aload_n 0, 1) := by decide +kernel
theorem dMO_faultOf_108 : decode bMO_faultOf 108 = .ok (.getfield 35, 3) := by decide +kernel
theorem dMO_faultOf_111 : decode bMO_faultOf 111 = .ok (.iload_n 2, 1) := by decide +kernel
theorem dMO_faultOf_112 : decode bMO_faultOf 112 = .ok (.iaload, 1) := by decide +kernel
theorem dMO_faultOf_113 : decode bMO_faultOf 113 = .ok (.iaload, 1) := by decide +kernel
theorem dMO_faultOf_114 : decode bMO_faultOf 114 = .ok (.iload_n 2, 1) := by decide +kernel
theorem dMO_faultOf_115 : decode bMO_faultOf 115 = .ok (.if_icmp .ne 26, 3) := by decide +kernel
theorem dMO_faultOf_118 : decode bMO_faultOf 118 = .ok (.aload_n 0, 1) := by decide +kernel
theorem dMO_faultOf_119 : decode bMO_faultOf 119 = .ok (.aload_n 0, 1) := by decide +kernel
theorem dMO_faultOf_120 : decode bMO_faultOf 120 = .ok (.getfield 32, 3) := by decide +kernel
theorem dMO_faultOf_123 : decode bMO_faultOf 123 = .ok (.iload_n 2, 1) := by decide +kernel
theorem dMO_faultOf_124 : decode bMO_faultOf 124 = .ok (.iaload, 1) := by decide +kernel
theorem dMO_faultOf_125 : decode bMO_faultOf 125 = .ok (.aload_n 0, 1) := by decide +kernel
theorem dMO_faultOf_126 : decode bMO_faultOf 126 = .ok (.getfield 35, 3) := by decide +kernel
theorem dMO_faultOf_129 : decode bMO_faultOf 129 = .ok (.iload_n 2, 1) := by decide +kernel
theorem dMO_faultOf_130 : decode bMO_faultOf 130 = .ok (.iaload, 1) := by decide +kernel
theorem dMO_faultOf_131 : decode bMO_faultOf 131 = .ok (.invokevirtual 153, 3) := by decide +kernel
theorem dMO_faultOf_134 : decode bMO_faultOf 134 = .ok (.ifCond .eq 7, 3) := by decide +kernel
theorem dMO_faultOf_137 : decode bMO_faultOf 137 = .ok (.iconst 1, 1) := by decide +kernel
theorem dMO_faultOf_138 : decode bMO_faultOf 138 = .ok (.goto 4, 3) := by decide +kernel
theorem dMO_faultOf_141 : decode bMO_faultOf 141 = .ok (.iconst 0, 1) := by decide +kernel
theorem dMO_faultOf_142 : decode bMO_faultOf 142 = .ok (.istore_n 3, 1) := by decide +kernel
theorem dMO_faultOf_143 : decode bMO_faultOf 143 = .ok (.aload_n 0, 1) := by decide +kernel
theorem dMO_faultOf_144 : decode bMO_faultOf 144 = .ok (.iload_n 2, 1) := by decide +kernel
theorem dMO_faultOf_145 : decode bMO_faultOf 145 = .ok (.iload_n 1, 1) := by decide +kernel
theorem dMO_faultOf_146 : decode bMO_faultOf 146 = .ok (.invokevirtual 177, 3) := by decide +kernel
theorem dMO_faultOf_149 : decode bMO_faultOf 149 = .ok (.ifCond .eq 7, 3) := by decide +kernel
theorem dMO_faultOf_152 : decode bMO_faultOf 152 = .ok (.iload_n 3, 1) := by decide +kernel
theorem dMO_faultOf_153 : decode bMO_faultOf 153 = .ok (.ifCond .ne 7, 3) := by decide +kernel
theorem dMO_faultOf_156 : decode bMO_faultOf 156 = .ok (.iload_n 2, 1) := by decide +kernel
theorem dMO_faultOf_157 : decode bMO_faultOf 157 = .ok (.iconst 1, 1) := by decide +kernel
theorem dMO_faultOf_158 : decode bMO_faultOf 158 = .ok (.iadd, 1) := by decide +kernel
theorem dMO_faultOf_159 : decode bMO_faultOf 159 = .ok (.ireturn, 1) := by decide +kernel
theorem dMO_faultOf_160 : decode bMO_faultOf 160 = .ok (.iconst 0, 1) := by decide +kernel
theorem dMO_faultOf_161 : decode bMO_faultOf 161 = .ok (.istore_n 1, 1) := by decide +kernel
theorem dMO_faultOf_162 : decode bMO_faultOf 162 = .ok (.iinc 2 1, 3) := by decide +kernel
theorem dMO_faultOf_165 : decode bMO_faultOf 165 = .ok (.goto (-93), 3) := by decide +kernel
theorem dMO_faultOf_168 : decode bMO_faultOf 168 = .ok (.iconst 0, 1) := by decide +kernel
theorem dMO_faultOf_169 : decode bMO_faultOf 169 = .ok (.ireturn, 1) := by decide +kernel
theorem dMO_goes_0 : decode bMO_goes 0 = .ok (.aload_n 0, 1) := by decide +kernel
theorem dMO_goes_1 : decode bMO_goes 1 = .ok (.iload_n 1, 1) := by decide +kernel
theorem dMO_goes_2 : decode bMO_goes 2 = .ok (.ifCond .ne 7, 3) := by decide +kernel
theorem dMO_goes_5 : decode bMO_goes 5 = .ok (.iconst 1, 1) := by decide +kernel
theorem dMO_goes_6 : decode bMO_goes 6 = .ok (.goto 12, 3) := by decide +kernel
theorem dMO_goes_9 : decode bMO_goes 9 = .ok (.iload_n 2, 1) := by decide +kernel
theorem dMO_goes_10 : decode bMO_goes 10 = .ok (.ifCond .ne 7, 3) := by decide +kernel
theorem dMO_goes_13 : decode bMO_goes 13 = .ok (.iconst 2, 1) := by decide +kernel
theorem dMO_goes_14 : decode bMO_goes 14 = .ok (.goto 4, 3) := by decide +kernel
theorem dMO_goes_17 : decode bMO_goes 17 = .ok (.iconst 0, 1) := by decide +kernel
theorem dMO_goes_18 : decode bMO_goes 18 = .ok (.putfield 125, 3) := by decide +kernel
theorem dMO_goes_21 : decode bMO_goes 21 = .ok (.aload_n 0, 1) := by decide +kernel
theorem dMO_goes_22 : decode bMO_goes 22 = .ok (.getfield 125, 3) := by decide +kernel
theorem dMO_goes_25 : decode bMO_goes 25 = .ok (.ifCond .ne 7, 3) := by decide +kernel
theorem dMO_goes_28 : decode bMO_goes 28 = .ok (.iconst 1, 1) := by decide +kernel
theorem dMO_goes_29 : decode bMO_goes 29 = .ok (.goto 4, 3) := by decide +kernel
theorem dMO_goes_32 : decode bMO_goes 32 = .ok (.iconst 0, 1) := by decide +kernel
theorem dMO_goes_33 : decode bMO_goes 33 = .ok (.ireturn, 1) := by decide +kernel
theorem dMO_isBridge_0 : decode bMO_isBridge 0 = .ok (.iload_n 1, 1) := by decide +kernel
theorem dMO_isBridge_1 : decode bMO_isBridge 1 = .ok (.ifCond .lt 15, 3) := by decide +kernel
theorem dMO_isBridge_4 : decode bMO_isBridge 4 = .ok (.iload_n 1, 1) := by decide +kernel
theorem dMO_isBridge_5 : decode bMO_isBridge 5 = .ok (.aload_n 0, 1) := by decide +kernel
theorem dMO_isBridge_6 : decode bMO_isBridge 6 = .ok (.getfield 129, 3) := by decide +kernel
theorem dMO_isBridge_9 : decode bMO_isBridge 9 = .ok (.if_icmp .ge 7, 3) := by decide +kernel
theorem dMO_isBridge_12 : decode bMO_isBridge 12 = .ok (.iconst 1, 1) := by decide +kernel
theorem dMO_isBridge_13 : decode bMO_isBridge 13 = .ok (.goto 4, 3) := by decide +kernel
theorem dMO_isBridge_16 : decode bMO_isBridge 16 = .ok (.iconst 0, 1) := by decide +kernel
theorem dMO_isBridge_17 : decode bMO_isBridge 17 = .ok (.ireturn, 1) := by decide +kernel
theorem dMO_isEarlier_0 : decode bMO_isEarlier 0 = .ok (.iconst 0, 1) := by decide +kernel
theorem dMO_isEarlier_1 : decode bMO_isEarlier 1 = .ok (.istore_n 3, 1) := by decide +kernel
theorem dMO_isEarlier_2 : decode bMO_isEarlier 2 = .ok (.iconst 0, 1) := by decide +kernel
theorem dMO_isEarlier_3 : decode bMO_isEarlier 3 = .ok (.istore 4, 2) := by decide +kernel
theorem dMO_isEarlier_5 : decode bMO_isEarlier 5 = .ok (.iload 4, 2) := by decide +kernel
theorem dMO_isEarlier_7 : decode bMO_isEarlier 7 = .ok (.iload_n 2, 1) := by decide +kernel
theorem dMO_isEarlier_8 : decode bMO_isEarlier 8 = .ok (.if_icmp .ge 29, 3) := by decide +kernel
theorem dMO_isEarlier_11 : decode bMO_isEarlier 11 = .ok (.iload_n 3, 1) := by decide +kernel
theorem dMO_isEarlier_12 : decode bMO_isEarlier 12 = .ok (.ifCond .ne 13, 3) := by decide +kernel
theorem dMO_isEarlier_15 : decode bMO_isEarlier 15 = .ok (.aload_n 0, 1) := by decide +kernel
theorem dMO_isEarlier_16 : decode bMO_isEarlier 16 = .ok (.iload_n 1, 1) := by decide +kernel
theorem dMO_isEarlier_17 : decode bMO_isEarlier 17 = .ok (.iload 4, 2) := by decide +kernel
theorem dMO_isEarlier_19 : decode bMO_isEarlier 19 = .ok (.invokevirtual 157, 3) := by decide +kernel
theorem dMO_isEarlier_22 : decode bMO_isEarlier 22 = .ok (.ifCond .le 7, 3) := by decide +kernel
theorem dMO_isEarlier_25 : decode bMO_isEarlier 25 = .ok (.iconst 1, 1) := by decide +kernel
theorem dMO_isEarlier_26 : decode bMO_isEarlier 26 = .ok (.goto 4, 3) := by decide +kernel
theorem dMO_isEarlier_29 : decode bMO_isEarlier 29 = .ok (.iconst 0, 1) := by decide +kernel
theorem dMO_isEarlier_30 : decode bMO_isEarlier 30 = .ok (.istore_n 3, 1) := by decide +kernel
theorem dMO_isEarlier_31 : decode bMO_isEarlier 31 = .ok (.iinc 4 1, 3) := by decide +kernel
theorem dMO_isEarlier_34 : decode bMO_isEarlier 34 = .ok (.goto (-29), 3) := by decide +kernel
theorem dMO_isEarlier_37 : decode bMO_isEarlier 37 = .ok (.iload_n 3, 1) := by decide +kernel
theorem dMO_isEarlier_38 : decode bMO_isEarlier 38 = .ok (.ireturn, 1) := by decide +kernel
theorem dMO_isEnd_0 : decode bMO_isEnd 0 = .ok (.aload_n 0, 1) := by decide +kernel
theorem dMO_isEnd_1 : decode bMO_isEnd 1 = .ok (.getfield 7, 3) := by decide +kernel
theorem dMO_isEnd_4 : decode bMO_isEnd 4 = .ok (.iload_n 2, 1) := by decide +kernel
theorem dMO_isEnd_5 : decode bMO_isEnd 5 = .ok (.iaload, 1) := by decide +kernel
theorem dMO_isEnd_6 : decode bMO_isEnd 6 = .ok (.iload_n 1, 1) := by decide +kernel
theorem dMO_isEnd_7 : decode bMO_isEnd 7 = .ok (.if_icmp .eq 13, 3) := by decide +kernel
theorem dMO_isEnd_10 : decode bMO_isEnd 10 = .ok (.aload_n 0, 1) := by decide +kernel
theorem dMO_isEnd_11 : decode bMO_isEnd 11 = .ok (.getfield 13, 3) := by decide +kernel
theorem dMO_isEnd_14 : decode bMO_isEnd 14 = .ok (.iload_n 2, 1) := by decide +kernel
theorem dMO_isEnd_15 : decode bMO_isEnd 15 = .ok (.iaload, 1) := by decide +kernel
theorem dMO_isEnd_16 : decode bMO_isEnd 16 = .ok (.iload_n 1, 1) := by decide +kernel
theorem dMO_isEnd_17 : decode bMO_isEnd 17 = .ok (.if_icmp .ne 7, 3) := by decide +kernel
theorem dMO_isEnd_20 : decode bMO_isEnd 20 = .ok (.iconst 1, 1) := by decide +kernel
theorem dMO_isEnd_21 : decode bMO_isEnd 21 = .ok (.goto 4, 3) := by decide +kernel
theorem dMO_isEnd_24 : decode bMO_isEnd 24 = .ok (.iconst 0, 1) := by decide +kernel
theorem dMO_isEnd_25 : decode bMO_isEnd 25 = .ok (.ireturn, 1) := by decide +kernel
theorem dMO_isHung_0 : decode bMO_isHung 0 = .ok (.iconst 0, 1) := by decide +kernel
theorem dMO_isHung_1 : decode bMO_isHung 1 = .ok (.istore_n 2, 1) := by decide +kernel
theorem dMO_isHung_2 : decode bMO_isHung 2 = .ok (.iconst 0, 1) := by decide +kernel
theorem dMO_isHung_3 : decode bMO_isHung 3 = .ok (.istore_n 3, 1) := by decide +kernel
theorem dMO_isHung_4 : decode bMO_isHung 4 = .ok (.iload_n 3, 1) := by decide +kernel
theorem dMO_isHung_5 : decode bMO_isHung 5 = .ok (.iload_n 1, 1) := by decide +kernel
theorem dMO_isHung_6 : decode bMO_isHung 6 = .ok (.if_icmp .ge 86, 3) := by decide +kernel
theorem dMO_isHung_9 : decode bMO_isHung 9 = .ok (.iconst 0, 1) := by decide +kernel
theorem dMO_isHung_10 : decode bMO_isHung 10 = .ok (.istore 4, 2) := by decide +kernel
theorem dMO_isHung_12 : decode bMO_isHung 12 = .ok (.iconst 0, 1) := by decide +kernel
theorem dMO_isHung_13 : decode bMO_isHung 13 = .ok (.istore 5, 2) := by decide +kernel
theorem dMO_isHung_15 : decode bMO_isHung 15 = .ok (.iload 5, 2) := by decide +kernel
theorem dMO_isHung_17 : decode bMO_isHung 17 = .ok (.aload_n 0, 1) := by decide +kernel
theorem dMO_isHung_18 : decode bMO_isHung 18 = .ok (.getfield 129, 3) := by decide +kernel
theorem dMO_isHung_21 : decode bMO_isHung 21 = .ok (.if_icmp .ge 40, 3) := by decide +kernel
theorem dMO_isHung_24 : decode bMO_isHung 24 = .ok (.iload 4, 2) := by decide +kernel
theorem dMO_isHung_26 : decode bMO_isHung 26 = .ok (.aload_n 0, 1) := by decide +kernel
theorem dMO_isHung_27 : decode bMO_isHung 27 = .ok (.iload 5, 2) := by decide +kernel
theorem dMO_isHung_29 : decode bMO_isHung 29 = .ok (.iload_n 1, 1) := by decide +kernel
theorem dMO_isHung_30 : decode bMO_isHung 30 = .ok (.invokevirtual 157, 3) := by decide +kernel
theorem dMO_isHung_33 : decode bMO_isHung 33 = .ok (.iconst 1, 1) := by decide +kernel
theorem dMO_isHung_34 : decode bMO_isHung 34 = .ok (.if_icmp .ne 17, 3) := by decide +kernel
theorem dMO_isHung_37 : decode bMO_isHung 37 = .ok (.aload_n 0, 1) := by decide +kernel
theorem dMO_isHung_38 : decode bMO_isHung 38 = .ok (.iload 5, 2) := by decide +kernel
theorem dMO_isHung_40 : decode bMO_isHung 40 = .ok (.iload_n 3, 1) := by decide +kernel
theorem dMO_isHung_41 : decode bMO_isHung 41 = .ok (.invokevirtual 157, 3) := by decide +kernel
theorem dMO_isHung_44 : decode bMO_isHung 44 = .ok (.ifCond .le 7, 3) := by decide +kernel
theorem dMO_isHung_47 : decode bMO_isHung 47 = .ok (.iconst 1, 1) := by decide +kernel
theorem dMO_isHung_48 : decode bMO_isHung 48 = .ok (.goto 4, 3) := by decide +kernel
theorem dMO_isHung_51 : decode bMO_isHung 51 = .ok (.iconst 0, 1) := by decide +kernel
theorem dMO_isHung_52 : decode bMO_isHung 52 = .ok (.iadd, 1) := by decide +kernel
theorem dMO_isHung_53 : decode bMO_isHung 53 = .ok (.istore 4, 2) := by decide +kernel
theorem dMO_isHung_55 : decode bMO_isHung 55 = .ok (.iinc 5 1, 3) := by decide +kernel
theorem dMO_isHung_58 : decode bMO_isHung 58 = .ok (.goto (-43), 3) := by decide +kernel
theorem dMO_isHung_61 : decode bMO_isHung 61 = .ok (.iload_n 2, 1) := by decide +kernel
theorem dMO_isHung_62 : decode bMO_isHung 62 = .ok (.ifCond .ne 18, 3) := by decide +kernel
theorem dMO_isHung_65 : decode bMO_isHung 65 = .ok (.aload_n 0, 1) := by decide +kernel
theorem dMO_isHung_66 : decode bMO_isHung 66 = .ok (.getfield 38, 3) := by decide +kernel
theorem dMO_isHung_69 : decode bMO_isHung 69 = .ok (.iload_n 3, 1) := by decide +kernel
theorem dMO_isHung_70 : decode bMO_isHung 70 = .ok (.baload, 1) := by decide +kernel
theorem dMO_isHung_71 : decode bMO_isHung 71 = .ok (.ifCond .eq 13, 3) := by decide +kernel
theorem dMO_isHung_74 : decode bMO_isHung 74 = .ok (.iload 4, 2) := by decide +kernel
theorem dMO_isHung_76 : decode bMO_isHung 76 = .ok (.iconst 2, 1) := by decide +kernel
theorem dMO_isHung_77 : decode bMO_isHung 77 = .ok (.if_icmp .ne 7, 3) := by decide +kernel
theorem dMO_isHung_80 : decode bMO_isHung 80 = .ok (.iconst 1, 1) := by decide +kernel
theorem dMO_isHung_81 : decode bMO_isHung 81 = .ok (.goto 4, 3) := by decide +kernel
theorem dMO_isHung_84 : decode bMO_isHung 84 = .ok (.iconst 0, 1) := by decide +kernel
theorem dMO_isHung_85 : decode bMO_isHung 85 = .ok (.istore_n 2, 1) := by decide +kernel
theorem dMO_isHung_86 : decode bMO_isHung 86 = .ok (.iinc 3 1, 3) := by decide +kernel
theorem dMO_isHung_89 : decode bMO_isHung 89 = .ok (.goto (-85), 3) := by decide +kernel
theorem dMO_isHung_92 : decode bMO_isHung 92 = .ok (.iload_n 2, 1) := by decide +kernel
theorem dMO_isHung_93 : decode bMO_isHung 93 = .ok (.ireturn, 1) := by decide +kernel
theorem dMO_isLink_0 : decode bMO_isLink 0 = .ok (.iload_n 1, 1) := by decide +kernel
theorem dMO_isLink_1 : decode bMO_isLink 1 = .ok (.ifCond .lt 15, 3) := by decide +kernel
theorem dMO_isLink_4 : decode bMO_isLink 4 = .ok (.iload_n 1, 1) := by decide +kernel
theorem dMO_isLink_5 : decode bMO_isLink 5 = .ok (.aload_n 0, 1) := by decide +kernel
theorem dMO_isLink_6 : decode bMO_isLink 6 = .ok (.getfield 132, 3) := by decide +kernel
theorem dMO_isLink_9 : decode bMO_isLink 9 = .ok (.if_icmp .ge 7, 3) := by decide +kernel
theorem dMO_isLink_12 : decode bMO_isLink 12 = .ok (.iconst 1, 1) := by decide +kernel
theorem dMO_isLink_13 : decode bMO_isLink 13 = .ok (.goto 4, 3) := by decide +kernel
theorem dMO_isLink_16 : decode bMO_isLink 16 = .ok (.iconst 0, 1) := by decide +kernel
theorem dMO_isLink_17 : decode bMO_isLink 17 = .ok (.ireturn, 1) := by decide +kernel
theorem dMO_isOne_0 : decode bMO_isOne 0 = .ok (.iconst 0, 1) := by decide +kernel
theorem dMO_isOne_1 : decode bMO_isOne 1 = .ok (.istore_n 2, 1) := by decide +kernel
theorem dMO_isOne_2 : decode bMO_isOne 2 = .ok (.iload_n 2, 1) := by decide +kernel
theorem dMO_isOne_3 : decode bMO_isOne 3 = .ok (.aload_n 0, 1) := by decide +kernel
theorem dMO_isOne_4 : decode bMO_isOne 4 = .ok (.getfield 129, 3) := by decide +kernel
theorem dMO_isOne_7 : decode bMO_isOne 7 = .ok (.if_icmp .ge 16, 3) := by decide +kernel
theorem dMO_isOne_10 : decode bMO_isOne 10 = .ok (.aload_n 0, 1) := by decide +kernel
theorem dMO_isOne_11 : decode bMO_isOne 11 = .ok (.getfield 110, 3) := by decide +kernel
theorem dMO_isOne_14 : decode bMO_isOne 14 = .ok (.iload_n 2, 1) := by decide +kernel
theorem dMO_isOne_15 : decode bMO_isOne 15 = .ok (.iload_n 2, 1) := by decide +kernel
theorem dMO_isOne_16 : decode bMO_isOne 16 = .ok (.iastore, 1) := by decide +kernel
theorem dMO_isOne_17 : decode bMO_isOne 17 = .ok (.iinc 2 1, 3) := by decide +kernel
theorem dMO_isOne_20 : decode bMO_isOne 20 = .ok (.goto (-18), 3) := by decide +kernel
theorem dMO_isOne_23 : decode bMO_isOne 23 = .ok (.iconst 0, 1) := by decide +kernel
theorem dMO_isOne_24 : decode bMO_isOne 24 = .ok (.istore_n 2, 1) := by decide +kernel
theorem dMO_isOne_25 : decode bMO_isOne 25 = .ok (.iconst 0, 1) := by decide +kernel
theorem dMO_isOne_26 : decode bMO_isOne 26 = .ok (.istore_n 3, 1) := by decide +kernel
theorem dMO_isOne_27 : decode bMO_isOne 27 = .ok (.iload_n 3, 1) := by decide +kernel
theorem dMO_isOne_28 : decode bMO_isOne 28 = .ok (.aload_n 0, 1) := by decide +kernel
theorem dMO_isOne_29 : decode bMO_isOne 29 = .ok (.getfield 129, 3) := by decide +kernel
theorem dMO_isOne_32 : decode bMO_isOne 32 = .ok (.if_icmp .ge 26, 3) := by decide +kernel
theorem dMO_isOne_35 : decode bMO_isOne 35 = .ok (.iload_n 2, 1) := by decide +kernel
theorem dMO_isOne_36 : decode bMO_isOne 36 = .ok (.aload_n 0, 1) := by decide +kernel
theorem dMO_isOne_37 : decode bMO_isOne 37 = .ok (.iload_n 3, 1) := by decide +kernel
theorem dMO_isOne_38 : decode bMO_isOne 38 = .ok (.iload_n 1, 1) := by decide +kernel
theorem dMO_isOne_39 : decode bMO_isOne 39 = .ok (.invokevirtual 157, 3) := by decide +kernel
theorem dMO_isOne_42 : decode bMO_isOne 42 = .ok (.ifCond .le 7, 3) := by decide +kernel
theorem dMO_isOne_45 : decode bMO_isOne 45 = .ok (.iconst 1, 1) := by decide +kernel
theorem dMO_isOne_46 : decode bMO_isOne 46 = .ok (.goto 4, 3) := by decide +kernel
theorem dMO_isOne_49 : decode bMO_isOne 49 = .ok (.iconst 0, 1) := by decide +kernel
theorem dMO_isOne_50 : decode bMO_isOne 50 = .ok (.iadd, 1) := by decide +kernel
theorem dMO_isOne_51 : decode bMO_isOne 51 = .ok (.istore_n 2, 1) := by decide +kernel
theorem dMO_isOne_52 : decode bMO_isOne 52 = .ok (.iinc 3 1, 3) := by decide +kernel
theorem dMO_isOne_55 : decode bMO_isOne 55 = .ok (.goto (-28), 3) := by decide +kernel
theorem dMO_isOne_58 : decode bMO_isOne 58 = .ok (.iconst 0, 1) := by decide +kernel
theorem dMO_isOne_59 : decode bMO_isOne 59 = .ok (.istore_n 3, 1) := by decide +kernel
theorem dMO_isOne_60 : decode bMO_isOne 60 = .ok (.iload_n 3, 1) := by decide +kernel
theorem dMO_isOne_61 : decode bMO_isOne 61 = .ok (.aload_n 0, 1) := by decide +kernel
theorem dMO_isOne_62 : decode bMO_isOne 62 = .ok (.getfield 132, 3) := by decide +kernel
theorem dMO_isOne_65 : decode bMO_isOne 65 = .ok (.if_icmp .ge 41, 3) := by decide +kernel
theorem dMO_isOne_68 : decode bMO_isOne 68 = .ok (.aload_n 0, 1) := by decide +kernel
theorem dMO_isOne_69 : decode bMO_isOne 69 = .ok (.getfield 16, 3) := by decide +kernel
theorem dMO_isOne_72 : decode bMO_isOne 72 = .ok (.iload_n 3, 1) := by decide +kernel
theorem dMO_isOne_73 : decode bMO_isOne 73 = .ok (.iaload, 1) := by decide +kernel
theorem dMO_isOne_74 : decode bMO_isOne 74 = .ok (.iload_n 1, 1) := by decide +kernel
theorem dMO_isOne_75 : decode bMO_isOne 75 = .ok (.if_icmp .ne 25, 3) := by decide +kernel
theorem dMO_isOne_78 : decode bMO_isOne 78 = .ok (.aload_n 0, 1) := by decide +kernel
theorem dMO_isOne_79 : decode bMO_isOne 79 = .ok (.aload_n 0, 1) := by decide +kernel
theorem dMO_isOne_80 : decode bMO_isOne 80 = .ok (.getfield 7, 3) := by decide +kernel
theorem dMO_isOne_83 : decode bMO_isOne 83 = .ok (.iload_n 3, 1) := by decide +kernel
theorem dMO_isOne_84 : decode bMO_isOne 84 = .ok (.iaload, 1) := by decide +kernel
theorem dMO_isOne_85 : decode bMO_isOne 85 = .ok (.aload_n 0, 1) := by decide +kernel
theorem dMO_isOne_86 : decode bMO_isOne 86 = .ok (.getfield 13, 3) := by decide +kernel
theorem dMO_isOne_89 : decode bMO_isOne 89 = .ok (.iload_n 3, 1) := by decide +kernel
theorem dMO_isOne_90 : decode bMO_isOne 90 = .ok (.iaload, 1) := by decide +kernel
theorem dMO_isOne_91 : decode bMO_isOne 91 = .ok (.invokevirtual 161, 3) := by decide +kernel
theorem dMO_isOne_94 : decode bMO_isOne 94 = .ok (.ifCond .eq 6, 3) := by decide +kernel
theorem dMO_isOne_97 : decode bMO_isOne 97 = .ok (.iinc 2 (-1), 3) := by decide +kernel
theorem dMO_isOne_100 : decode bMO_isOne 100 = .ok (.iinc 3 1, 3) := by decide +kernel
theorem dMO_isOne_103 : decode bMO_isOne 103 = .ok (.goto (-43), 3) := by decide +kernel
theorem dMO_isOne_106 : decode bMO_isOne 106 = .ok (.iload_n 2, 1) := by decide +kernel
theorem dMO_isOne_107 : decode bMO_isOne 107 = .ok (.iconst 1, 1) := by decide +kernel
theorem dMO_isOne_108 : decode bMO_isOne 108 = .ok (.if_icmp .ne 7, 3) := by decide +kernel
theorem dMO_isOne_111 : decode bMO_isOne 111 = .ok (.iconst 1, 1) := by decide +kernel
theorem dMO_isOne_112 : decode bMO_isOne 112 = .ok (.goto 4, 3) := by decide +kernel
theorem dMO_isOne_115 : decode bMO_isOne 115 = .ok (.iconst 0, 1) := by decide +kernel
theorem dMO_isOne_116 : decode bMO_isOne 116 = .ok (.ireturn, 1) := by decide +kernel
theorem dMO_isRight_0 : decode bMO_isRight 0 = .ok (.iconst 0, 1) := by decide +kernel
theorem dMO_isRight_1 : decode bMO_isRight 1 = .ok (.istore_n 3, 1) := by decide +kernel
theorem dMO_isRight_2 : decode bMO_isRight 2 = .ok (.iconst 0, 1) := by decide +kernel
theorem dMO_isRight_3 : decode bMO_isRight 3 = .ok (.istore 4, 2) := by decide +kernel
theorem dMO_isRight_5 : decode bMO_isRight 5 = .ok (.iconst 0, 1) := by decide +kernel
theorem dMO_isRight_6 : decode bMO_isRight 6 = .ok (.istore 5, 2) := by decide +kernel
theorem dMO_isRight_8 : decode bMO_isRight 8 = .ok (.iconst 0, 1) := by decide +kernel
theorem dMO_isRight_9 : decode bMO_isRight 9 = .ok (.istore 6, 2) := by decide +kernel
theorem dMO_isRight_11 : decode bMO_isRight 11 = .ok (.iload 6, 2) := by decide +kernel
theorem dMO_isRight_13 : decode bMO_isRight 13 = .ok (.aload_n 0, 1) := by decide +kernel
theorem dMO_isRight_14 : decode bMO_isRight 14 = .ok (.getfield 129, 3) := by decide +kernel
theorem dMO_isRight_17 : decode bMO_isRight 17 = .ok (.if_icmp .ge 93, 3) := by decide +kernel
theorem dMO_isRight_20 : decode bMO_isRight 20 = .ok (.aload_n 0, 1) := by decide +kernel
theorem dMO_isRight_21 : decode bMO_isRight 21 = .ok (.iload 6, 2) := by decide +kernel
theorem dMO_isRight_23 : decode bMO_isRight 23 = .ok (.iload_n 1, 1) := by decide +kernel
theorem dMO_isRight_24 : decode bMO_isRight 24 = .ok (.invokevirtual 157, 3) := by decide +kernel
theorem dMO_isRight_27 : decode bMO_isRight 27 = .ok (.istore 7, 2) := by decide +kernel
theorem dMO_isRight_29 : decode bMO_isRight 29 = .ok (.iload 7, 2) := by decide +kernel
theorem dMO_isRight_31 : decode bMO_isRight 31 = .ok (.ifCond .le 17, 3) := by decide +kernel
theorem dMO_isRight_34 : decode bMO_isRight 34 = .ok (.aload_n 0, 1) := by decide +kernel
theorem dMO_isRight_35 : decode bMO_isRight 35 = .ok (.iload 6, 2) := by decide +kernel
theorem dMO_isRight_37 : decode bMO_isRight 37 = .ok (.iload_n 1, 1) := by decide +kernel
theorem dMO_isRight_38 : decode bMO_isRight 38 = .ok (.invokevirtual 164, 3) := by decide +kernel
theorem dMO_isRight_41 : decode bMO_isRight 41 = .ok (.ifCond .eq 7, 3) := by decide +kernel
theorem dMO_isRight_44 : decode bMO_isRight 44 = .ok (.iconst 1, 1) := by decide +kernel
theorem dMO_isRight_45 : decode bMO_isRight 45 = .ok (.goto 4, 3) := by decide +kernel
theorem dMO_isRight_48 : decode bMO_isRight 48 = .ok (.iconst 0, 1) := by decide +kernel
theorem dMO_isRight_49 : decode bMO_isRight 49 = .ok (.istore 8, 2) := by decide +kernel
theorem dMO_isRight_51 : decode bMO_isRight 51 = .ok (.iload 7, 2) := by decide +kernel
theorem dMO_isRight_53 : decode bMO_isRight 53 = .ok (.iconst 2, 1) := by decide +kernel
theorem dMO_isRight_54 : decode bMO_isRight 54 = .ok (.if_icmp .le 5, 3) := by decide +kernel
theorem dMO_isRight_57 : decode bMO_isRight 57 = .ok (.iconst 0, 1) := by decide +kernel
theorem dMO_isRight_58 : decode bMO_isRight 58 = .ok (.ireturn, 1) := by decide +kernel
theorem dMO_isRight_59 : decode bMO_isRight 59 = .ok (.iload_n 3, 1) := by decide +kernel
theorem dMO_isRight_60 : decode bMO_isRight 60 = .ok (.iload 7, 2) := by decide +kernel
theorem dMO_isRight_62 : decode bMO_isRight 62 = .ok (.iconst 1, 1) := by decide +kernel
theorem dMO_isRight_63 : decode bMO_isRight 63 = .ok (.if_icmp .ne 7, 3) := by decide +kernel
theorem dMO_isRight_66 : decode bMO_isRight 66 = .ok (.iconst 1, 1) := by decide +kernel
theorem dMO_isRight_67 : decode bMO_isRight 67 = .ok (.goto 4, 3) := by decide +kernel
theorem dMO_isRight_70 : decode bMO_isRight 70 = .ok (.iconst 0, 1) := by decide +kernel
theorem dMO_isRight_71 : decode bMO_isRight 71 = .ok (.iadd, 1) := by decide +kernel
theorem dMO_isRight_72 : decode bMO_isRight 72 = .ok (.istore_n 3, 1) := by decide +kernel
theorem dMO_isRight_73 : decode bMO_isRight 73 = .ok (.iload 4, 2) := by decide +kernel
theorem dMO_isRight_75 : decode bMO_isRight 75 = .ok (.iload 7, 2) := by decide +kernel
theorem dMO_isRight_77 : decode bMO_isRight 77 = .ok (.iconst 2, 1) := by decide +kernel
theorem dMO_isRight_78 : decode bMO_isRight 78 = .ok (.if_icmp .ne 7, 3) := by decide +kernel
theorem dMO_isRight_81 : decode bMO_isRight 81 = .ok (.iconst 1, 1) := by decide +kernel
theorem dMO_isRight_82 : decode bMO_isRight 82 = .ok (.goto 4, 3) := by decide +kernel
theorem dMO_isRight_85 : decode bMO_isRight 85 = .ok (.iconst 0, 1) := by decide +kernel
theorem dMO_isRight_86 : decode bMO_isRight 86 = .ok (.iadd, 1) := by decide +kernel
theorem dMO_isRight_87 : decode bMO_isRight 87 = .ok (.istore 4, 2) := by decide +kernel
theorem dMO_isRight_89 : decode bMO_isRight 89 = .ok (.iload 5, 2) := by decide +kernel
theorem dMO_isRight_91 : decode bMO_isRight 91 = .ok (.iload 8, 2) := by decide +kernel
theorem dMO_isRight_93 : decode bMO_isRight 93 = .ok (.ifCond .eq 7, 3) := by decide +kernel
theorem dMO_isRight_96 : decode bMO_isRight 96 = .ok (.iconst 1, 1) := by decide +kernel
theorem dMO_isRight_97 : decode bMO_isRight 97 = .ok (.goto 4, 3) := by decide +kernel
theorem dMO_isRight_100 : decode bMO_isRight 100 = .ok (.iconst 0, 1) := by decide +kernel
theorem dMO_isRight_101 : decode bMO_isRight 101 = .ok (.iadd, 1) := by decide +kernel
theorem dMO_isRight_102 : decode bMO_isRight 102 = .ok (.istore 5, 2) := by decide +kernel
theorem dMO_isRight_104 : decode bMO_isRight 104 = .ok (.iinc 6 1, 3) := by decide +kernel
theorem dMO_isRight_107 : decode bMO_isRight 107 = .ok (.goto (-96), 3) := by decide +kernel
theorem dMO_isRight_110 : decode bMO_isRight 110 = .ok (.aload_n 0, 1) := by decide +kernel
theorem dMO_isRight_111 : decode bMO_isRight 111 = .ok (.iload_n 1, 1) := by decide +kernel
theorem dMO_isRight_112 : decode bMO_isRight 112 = .ok (.invokevirtual 167, 3) := by decide +kernel
theorem dMO_isRight_115 : decode bMO_isRight 115 = .ok (.ifCond .ne 5, 3) := by decide +kernel
theorem dMO_isRight_118 : decode bMO_isRight 118 = .ok (.iconst 0, 1) := by decide +kernel
theorem dMO_isRight_119 : decode bMO_isRight 119 = .ok (.ireturn, 1) := by decide +kernel
theorem dMO_isRight_120 : decode bMO_isRight 120 = .ok (.iload_n 3, 1) := by decide +kernel
theorem dMO_isRight_121 : decode bMO_isRight 121 = .ok (.ifCond .ne 36, 3) := by decide +kernel
theorem dMO_isRight_124 : decode bMO_isRight 124 = .ok (.aload_n 0, 1) := by decide +kernel
theorem dMO_isRight_125 : decode bMO_isRight 125 = .ok (.getfield 38, 3) := by decide +kernel
theorem dMO_isRight_128 : decode bMO_isRight 128 = .ok (.iload_n 1, 1) := by decide +kernel
theorem dMO_isRight_129 : decode bMO_isRight 129 = .ok (.iconst 1, 1) := by decide +kernel
theorem dMO_isRight_130 : decode bMO_isRight 130 = .ok (.bastore, 1) := by decide +kernel
theorem dMO_isRight_131 : decode bMO_isRight 131 = .ok (.iload 4, 2) := by decide +kernel
theorem dMO_isRight_133 : decode bMO_isRight 133 = .ok (.iconst 3, 1) := by decide +kernel
theorem dMO_isRight_134 : decode bMO_isRight 134 = .ok (.if_icmp .lt 21, 3) := by decide +kernel
theorem dMO_isRight_137 : decode bMO_isRight 137 = .ok (.iload 5, 2) := by decide +kernel
theorem dMO_isRight_139 : decode bMO_isRight 139 = .ok (.iload_n 2, 1) := by decide +kernel
theorem dMO_isRight_140 : decode bMO_isRight 140 = .ok (.ifCond .eq 7, 3) := by decide +kernel
theorem dMO_isRight_143 : decode bMO_isRight 143 = .ok (.iconst 0, 1) := by decide +kernel
theorem dMO_isRight_144 : decode bMO_isRight 144 = .ok (.goto 4, 3) := by decide +kernel
theorem dMO_isRight_147 : decode bMO_isRight 147 = .ok (.iconst 1, 1) := by decide +kernel
theorem dMO_isRight_148 : decode bMO_isRight 148 = .ok (.if_icmp .ne 7, 3) := by decide +kernel
theorem dMO_isRight_151 : decode bMO_isRight 151 = .ok (.iconst 1, 1) := by decide +kernel
theorem dMO_isRight_152 : decode bMO_isRight 152 = .ok (.goto 4, 3) := by decide +kernel
theorem dMO_isRight_155 : decode bMO_isRight 155 = .ok (.iconst 0, 1) := by decide +kernel
theorem dMO_isRight_156 : decode bMO_isRight 156 = .ok (.ireturn, 1) := by decide +kernel
theorem dMO_isRight_157 : decode bMO_isRight 157 = .ok (.iload_n 3, 1) := by decide +kernel
theorem dMO_isRight_158 : decode bMO_isRight 158 = .ok (.iconst 2, 1) := by decide +kernel
theorem dMO_isRight_159 : decode bMO_isRight 159 = .ok (.if_icmp .ne 26, 3) := by decide +kernel
theorem dMO_isRight_162 : decode bMO_isRight 162 = .ok (.iload 4, 2) := by decide +kernel
theorem dMO_isRight_164 : decode bMO_isRight 164 = .ok (.ifCond .le 21, 3) := by decide +kernel
theorem dMO_isRight_167 : decode bMO_isRight 167 = .ok (.iload 5, 2) := by decide +kernel
theorem dMO_isRight_169 : decode bMO_isRight 169 = .ok (.iconst 2, 1) := by decide +kernel
theorem dMO_isRight_170 : decode bMO_isRight 170 = .ok (.if_icmp .ne 15, 3) := by decide +kernel
theorem dMO_isRight_173 : decode bMO_isRight 173 = .ok (.aload_n 0, 1) := by decide +kernel
theorem dMO_isRight_174 : decode bMO_isRight 174 = .ok (.iload_n 1, 1) := by decide +kernel
theorem dMO_isRight_175 : decode bMO_isRight 175 = .ok (.invokevirtual 170, 3) := by decide +kernel
theorem dMO_isRight_178 : decode bMO_isRight 178 = .ok (.ifCond .eq 7, 3) := by decide +kernel
theorem dMO_isRight_181 : decode bMO_isRight 181 = .ok (.iconst 1, 1) := by decide +kernel
theorem dMO_isRight_182 : decode bMO_isRight 182 = .ok (.goto 4, 3) := by decide +kernel
theorem dMO_isRight_185 : decode bMO_isRight 185 = .ok (.iconst 0, 1) := by decide +kernel
theorem dMO_isRight_186 : decode bMO_isRight 186 = .ok (.ireturn, 1) := by decide +kernel
theorem dMO_isRing_0 : decode bMO_isRing 0 = .ok (.iload_n 0, 1) := by decide +kernel
theorem dMO_isRing_1 : decode bMO_isRing 1 = .ok (.ifCond .lt 13, 3) := by decide +kernel
theorem dMO_isRing_4 : decode bMO_isRing 4 = .ok (.iload_n 0, 1) := by decide +kernel
theorem dMO_isRing_5 : decode bMO_isRing 5 = .ok (.bipush 6, 2) := by decide +kernel
theorem dMO_isRing_7 : decode bMO_isRing 7 = .ok (.if_icmp .ge 7, 3) := by decide +kernel
theorem dMO_isRing_10 : decode bMO_isRing 10 = .ok (.iconst 1, 1) := by decide +kernel
theorem dMO_isRing_11 : decode bMO_isRing 11 = .ok (.goto 4, 3) := by decide +kernel
theorem dMO_isRing_14 : decode bMO_isRing 14 = .ok (.iconst 0, 1) := by decide +kernel
theorem dMO_isRing_15 : decode bMO_isRing 15 = .ok (.ireturn, 1) := by decide +kernel
theorem dMO_join_0 : decode bMO_join 0 = .ok (.aload_n 0, 1) := by decide +kernel
theorem dMO_join_1 : decode bMO_join 1 = .ok (.getfield 110, 3) := by decide +kernel
theorem dMO_join_4 : decode bMO_join 4 = .ok (.iload_n 1, 1) := by decide +kernel
theorem dMO_join_5 : decode bMO_join 5 = .ok (.iaload, 1) := by decide +kernel
theorem dMO_join_6 : decode bMO_join 6 = .ok (.istore_n 3, 1) := by decide +kernel
theorem dMO_join_7 : decode bMO_join 7 = .ok (.aload_n 0, 1) := by decide +kernel
theorem dMO_join_8 : decode bMO_join 8 = .ok (.getfield 110, 3) := by decide +kernel
theorem dMO_join_11 : decode bMO_join 11 = .ok (.iload_n 2, 1) := by decide +kernel
theorem dMO_join_12 : decode bMO_join 12 = .ok (.iaload, 1) := by decide +kernel
theorem dMO_join_13 : decode bMO_join 13 = .ok (.istore 4, 2) := by decide +kernel
theorem dMO_join_15 : decode bMO_join 15 = .ok (.iconst 0, 1) := by decide +kernel
theorem dMO_join_16 : decode bMO_join 16 = .ok (.istore 5, 2) := by decide +kernel
theorem dMO_join_18 : decode bMO_join 18 = .ok (.iload 5, 2) := by decide +kernel
theorem dMO_join_20 : decode bMO_join 20 = .ok (.aload_n 0, 1) := by decide +kernel
theorem dMO_join_21 : decode bMO_join 21 = .ok (.getfield 129, 3) := by decide +kernel
theorem dMO_join_24 : decode bMO_join 24 = .ok (.if_icmp .ge 39, 3) := by decide +kernel
theorem dMO_join_27 : decode bMO_join 27 = .ok (.aload_n 0, 1) := by decide +kernel
theorem dMO_join_28 : decode bMO_join 28 = .ok (.getfield 110, 3) := by decide +kernel
theorem dMO_join_31 : decode bMO_join 31 = .ok (.iload 5, 2) := by decide +kernel
theorem dMO_join_33 : decode bMO_join 33 = .ok (.aload_n 0, 1) := by decide +kernel
theorem dMO_join_34 : decode bMO_join 34 = .ok (.getfield 110, 3) := by decide +kernel
theorem dMO_join_37 : decode bMO_join 37 = .ok (.iload 5, 2) := by decide +kernel
theorem dMO_join_39 : decode bMO_join 39 = .ok (.iaload, 1) := by decide +kernel
theorem dMO_join_40 : decode bMO_join 40 = .ok (.iload_n 3, 1) := by decide +kernel
theorem dMO_join_41 : decode bMO_join 41 = .ok (.if_icmp .ne 8, 3) := by decide +kernel
theorem dMO_join_44 : decode bMO_join 44 = .ok (.iload 4, 2) := by decide +kernel
theorem dMO_join_46 : decode bMO_join 46 = .ok (.goto 10, 3) := by decide +kernel
theorem dMO_join_49 : decode bMO_join 49 = .ok (.aload_n 0, 1) := by decide +kernel
theorem dMO_join_50 : decode bMO_join 50 = .ok (.getfield 110, 3) := by decide +kernel
theorem dMO_join_53 : decode bMO_join 53 = .ok (.iload 5, 2) := by decide +kernel
theorem dMO_join_55 : decode bMO_join 55 = .ok (.iaload, 1) := by decide +kernel
theorem dMO_join_56 : decode bMO_join 56 = .ok (.iastore, 1) := by decide +kernel
theorem dMO_join_57 : decode bMO_join 57 = .ok (.iinc 5 1, 3) := by decide +kernel
theorem dMO_join_60 : decode bMO_join 60 = .ok (.goto (-42), 3) := by decide +kernel
theorem dMO_join_63 : decode bMO_join 63 = .ok (.iload_n 3, 1) := by decide +kernel
theorem dMO_join_64 : decode bMO_join 64 = .ok (.iload 4, 2) := by decide +kernel
theorem dMO_join_66 : decode bMO_join 66 = .ok (.if_icmp .eq 7, 3) := by decide +kernel
theorem dMO_join_69 : decode bMO_join 69 = .ok (.iconst 1, 1) := by decide +kernel
theorem dMO_join_70 : decode bMO_join 70 = .ok (.goto 4, 3) := by decide +kernel
theorem dMO_join_73 : decode bMO_join 73 = .ok (.iconst 0, 1) := by decide +kernel
theorem dMO_join_74 : decode bMO_join 74 = .ok (.ireturn, 1) := by decide +kernel
theorem dMO_linksIn_0 : decode bMO_linksIn 0 = .ok (.iconst 0, 1) := by decide +kernel
theorem dMO_linksIn_1 : decode bMO_linksIn 1 = .ok (.istore_n 2, 1) := by decide +kernel
theorem dMO_linksIn_2 : decode bMO_linksIn 2 = .ok (.iconst 0, 1) := by decide +kernel
theorem dMO_linksIn_3 : decode bMO_linksIn 3 = .ok (.istore_n 3, 1) := by decide +kernel
theorem dMO_linksIn_4 : decode bMO_linksIn 4 = .ok (.iload_n 3, 1) := by decide +kernel
theorem dMO_linksIn_5 : decode bMO_linksIn 5 = .ok (.aload_n 0, 1) := by decide +kernel
theorem dMO_linksIn_6 : decode bMO_linksIn 6 = .ok (.getfield 132, 3) := by decide +kernel
theorem dMO_linksIn_9 : decode bMO_linksIn 9 = .ok (.if_icmp .ge 27, 3) := by decide +kernel
theorem dMO_linksIn_12 : decode bMO_linksIn 12 = .ok (.iload_n 2, 1) := by decide +kernel
theorem dMO_linksIn_13 : decode bMO_linksIn 13 = .ok (.aload_n 0, 1) := by decide +kernel
theorem dMO_linksIn_14 : decode bMO_linksIn 14 = .ok (.getfield 16, 3) := by decide +kernel
theorem dMO_linksIn_17 : decode bMO_linksIn 17 = .ok (.iload_n 3, 1) := by decide +kernel
theorem dMO_linksIn_18 : decode bMO_linksIn 18 = .ok (.iaload, 1) := by decide +kernel
theorem dMO_linksIn_19 : decode bMO_linksIn 19 = .ok (.iload_n 1, 1) := by decide +kernel
theorem dMO_linksIn_20 : decode bMO_linksIn 20 = .ok (.if_icmp .ne 7, 3) := by decide +kernel
theorem dMO_linksIn_23 : decode bMO_linksIn 23 = .ok (.iconst 1, 1) := by decide +kernel
theorem dMO_linksIn_24 : decode bMO_linksIn 24 = .ok (.goto 4, 3) := by decide +kernel
theorem dMO_linksIn_27 : decode bMO_linksIn 27 = .ok (.iconst 0, 1) := by decide +kernel
theorem dMO_linksIn_28 : decode bMO_linksIn 28 = .ok (.iadd, 1) := by decide +kernel
theorem dMO_linksIn_29 : decode bMO_linksIn 29 = .ok (.istore_n 2, 1) := by decide +kernel
theorem dMO_linksIn_30 : decode bMO_linksIn 30 = .ok (.iinc 3 1, 3) := by decide +kernel
theorem dMO_linksIn_33 : decode bMO_linksIn 33 = .ok (.goto (-29), 3) := by decide +kernel
theorem dMO_linksIn_36 : decode bMO_linksIn 36 = .ok (.iload_n 2, 1) := by decide +kernel
theorem dMO_linksIn_37 : decode bMO_linksIn 37 = .ok (.ireturn, 1) := by decide +kernel
theorem dMO_other_0 : decode bMO_other 0 = .ok (.aload_n 0, 1) := by decide +kernel
theorem dMO_other_1 : decode bMO_other 1 = .ok (.getfield 7, 3) := by decide +kernel
theorem dMO_other_4 : decode bMO_other 4 = .ok (.iload_n 2, 1) := by decide +kernel
theorem dMO_other_5 : decode bMO_other 5 = .ok (.iaload, 1) := by decide +kernel
theorem dMO_other_6 : decode bMO_other 6 = .ok (.iload_n 1, 1) := by decide +kernel
theorem dMO_other_7 : decode bMO_other 7 = .ok (.if_icmp .ne 12, 3) := by decide +kernel
theorem dMO_other_10 : decode bMO_other 10 = .ok (.aload_n 0, 1) := by decide +kernel
theorem dMO_other_11 : decode bMO_other 11 = .ok (.getfield 13, 3) := by decide +kernel
theorem dMO_other_14 : decode bMO_other 14 = .ok (.iload_n 2, 1) := by decide +kernel
theorem dMO_other_15 : decode bMO_other 15 = .ok (.iaload, 1) := by decide +kernel
theorem dMO_other_16 : decode bMO_other 16 = .ok (.goto 9, 3) := by decide +kernel
theorem dMO_other_19 : decode bMO_other 19 = .ok (.aload_n 0, 1) := by decide +kernel
theorem dMO_other_20 : decode bMO_other 20 = .ok (.getfield 7, 3) := by decide +kernel
theorem dMO_other_23 : decode bMO_other 23 = .ok (.iload_n 2, 1) := by decide +kernel
theorem dMO_other_24 : decode bMO_other 24 = .ok (.iaload, 1) := by decide +kernel
theorem dMO_other_25 : decode bMO_other 25 = .ok (.ireturn, 1) := by decide +kernel
def zM (P : ZS) : Prop := ∀ j, P.F 3 j = -1 ∨ ¬ P.F 4 j = -1
noncomputable def fMO_isBridge_16 (P : ZS) (S : ZS) : Int32 := 0
noncomputable def fMO_isBridge (P S : ZS) (x0 : Int32) : Int32 := (if x0 < 0 then fMO_isBridge_16 P S else zl (P.I 1) (fun k1 => (if k1 ≤ x0 then fMO_isBridge_16 P S else 1)))
set_option maxHeartbeats 4000000 in
set_option maxRecDepth 100000 in
theorem tMO_isBridge (l : Launch) (dC : Nat → ClassId) (dI : Nat → Nat → Nat) (cI cZ cJ cA : ClassId) (a0 : Array Value) (s0 : State) (o b : Nat → Nat) (P S : ZS) (sz : Nat) (x0 : Int32) (gP : mok P) (gS : mok S) : Met l yMO_isBridge [Cond.code yMO_isBridge bMO_isBridge 2 (some .boolean)] ({ frames := 0, cells := 0, slots := 0, locals := 0 } : Room) (zP zCl dC dI (zTZ cI cZ cJ cA) a0 s0 [.ref (o 0), .int x0] sz (MW cI cZ cA o b P S)) (zQp (fun r => r = fMO_isBridge P S x0 ∧ zr 0 1 r) sz) 0 0 (zN sz) := by
  refine Met.ofW (cc := bMO_isBridge) (maxL := 2) (ret := (some .boolean)) (by decide) rfl ?_
  intro p e s m args below meth c s₁ B hml hv
  obtain ⟨rfl, hsz, hP, hK, hD0, hB⟩ := hv
  have hx := B.exec
  have hb := B.bytes
  have hr := B.returns
  have hown : s.vm.findClass "RingGuardModel" = some m.cls := findClass_of_methodNamed B.named
  have hlocks := B.notSynchronized
  subst hsz
  have hD := hD0
  have hA0 : ∀ q, zN s.heap.size q → s0.heap.size ≤ q := zA1 hB
  have hAD : ∀ q, zN s0.heap.size q → s0.heap.size ≤ q := fun _ h => h
  have hA : ∀ q : Nat, s.heap.size ≤ q → zN s.heap.size q := fun _ h => h
  have hS : va_S (zN s.heap.size) s.heap s.heap [] := va_S.rf
  have hl := lv_entry ([.ref (o 0), .int x0]) (n := 2) (Nat.le_of_ble_eq_true rfl)
  rw [lg_entry_eq]
  generalize (lg_sl ([.ref (o 0), .int x0]) ++ List.replicate (2 - (lg_sl ([.ref (o 0), .int x0])).length) Slot.unset).toArray = ls at hl ⊢
  have hl : lv_has ls 2 [(0, .ref (o 0)), (1, .int x0)] := hl
  refine zgenQ (fun Q hQe => ?_)
  obtain ⟨tg, etg⟩ : ∃ z, z = fMO_isBridge P S x0 := ⟨_, rfl⟩
  have E := etg
  unfold fMO_isBridge at E
  have hJ16 : ∀ (H : Heap) (locs : List Loc) (ls : Array Slot), tg = fMO_isBridge_16 P S  → va_P (dC, dI) zCl (MW cI cZ cA o b P S) H → va_S (zN s.heap.size) s.heap H locs → lv_has ls 2 [] → W p l e ({ frames := 0, cells := 0, slots := 0, locals := 0 } : Room) s m ([.ref (o 0), .int x0] : List Value).toArray below meth c H locs 0 0 Q (F0 m 16 ls []) := by
    intro H locs ls E hP hS hl
    unfold fMO_isBridge_16 at E
    refine lv_iconst (v := 0) hx hb dMO_isBridge_16 (by decide) ?_
    rw [hQe]
    exact W.zret (v := 0) (ty := .boolean) hx hb hr (znar (show zr 0 1 0 from by decide)) (fun t ht hW => ⟨⟨0, (), rfl, ⟨E.symm.trans etg, (show zr 0 1 0 from by decide)⟩, trivial⟩, hS.F ht⟩) hS.2.2 dMO_isBridge_17
  refine lv_iload_n hx hb dMO_isBridge_0 rfl (lv_at hl 1 rfl) ?_
  refine z_if_lt (tgt := 16) hx hb dMO_isBridge_1 (by decide) E (fun c_1 E => ?_) (fun c_1 E => ?_)
  · have r_x0 : zr (-2147483648) (-1) x0 := zlt_x (zr_any x0) (show zr 0 0 0 from by decide) c_1 (by decide)
    exact hJ16 s.heap [] ls  E hP hS (lv_sub hl [] rfl)
  · have r_x0 : zr 0 2147483647 x0 := zle_y (show zr 0 0 0 from by decide) (zr_any x0) (znlt c_1) (by decide)
    refine lv_iload_n hx hb dMO_isBridge_4 rfl (lv_at hl 1 rfl) ?_
    refine lv_aload_n hx hb dMO_isBridge_5 rfl (lv_at hl 0 rfl) ?_
    refine m_get_1 hx hb (hB.words zU_MO) hown hK hP (hB.word (zm4 k4_116) rfl) dMO_isBridge_6 E (fun k1 ek1 E => ?_)
    have r_k1 : zr 0 48 k1 := by rw [ek1]; exact gP.2.1 1
    refine z_icmp_ge (tgt := 16) hx hb dMO_isBridge_9 (by decide) E (fun c_9 E => ?_) (fun c_9 E => ?_)
    · exact hJ16 s.heap [] ls  E hP hS (lv_sub hl [] rfl)
    · have r_x0 : zr 0 47 x0 := zlt_x r_x0 r_k1 (znle c_9) (by decide)
      have r_k1 : zr 1 48 k1 := zlt_y r_x0 r_k1 (znle c_9) (by decide)
      refine lv_iconst (v := 1) hx hb dMO_isBridge_12 (by decide) ?_
      refine lv_goto (tgt := 17) hx hb dMO_isBridge_13 (by decide) ?_
      rw [hQe]
      exact W.zret (v := 1) (ty := .boolean) hx hb hr (znar (show zr 0 1 1 from by decide)) (fun t ht hW => ⟨⟨1, (), rfl, ⟨E.symm.trans etg, (show zr 0 1 1 from by decide)⟩, trivial⟩, hS.F ht⟩) hS.2.2 dMO_isBridge_17
noncomputable def fMO_isLink_16 (P : ZS) (S : ZS) : Int32 := 0
noncomputable def fMO_isLink (P S : ZS) (x0 : Int32) : Int32 := (if x0 < 0 then fMO_isLink_16 P S else zl (P.I 2) (fun k1 => (if k1 ≤ x0 then fMO_isLink_16 P S else 1)))
set_option maxHeartbeats 4000000 in
set_option maxRecDepth 100000 in
theorem tMO_isLink (l : Launch) (dC : Nat → ClassId) (dI : Nat → Nat → Nat) (cI cZ cJ cA : ClassId) (a0 : Array Value) (s0 : State) (o b : Nat → Nat) (P S : ZS) (sz : Nat) (x0 : Int32) (gP : mok P) (gS : mok S) : Met l yMO_isLink [Cond.code yMO_isLink bMO_isLink 2 (some .boolean)] ({ frames := 0, cells := 0, slots := 0, locals := 0 } : Room) (zP zCl dC dI (zTZ cI cZ cJ cA) a0 s0 [.ref (o 0), .int x0] sz (MW cI cZ cA o b P S)) (zQp (fun r => r = fMO_isLink P S x0 ∧ zr 0 1 r) sz) 0 0 (zN sz) := by
  refine Met.ofW (cc := bMO_isLink) (maxL := 2) (ret := (some .boolean)) (by decide) rfl ?_
  intro p e s m args below meth c s₁ B hml hv
  obtain ⟨rfl, hsz, hP, hK, hD0, hB⟩ := hv
  have hx := B.exec
  have hb := B.bytes
  have hr := B.returns
  have hown : s.vm.findClass "RingGuardModel" = some m.cls := findClass_of_methodNamed B.named
  have hlocks := B.notSynchronized
  subst hsz
  have hD := hD0
  have hA0 : ∀ q, zN s.heap.size q → s0.heap.size ≤ q := zA1 hB
  have hAD : ∀ q, zN s0.heap.size q → s0.heap.size ≤ q := fun _ h => h
  have hA : ∀ q : Nat, s.heap.size ≤ q → zN s.heap.size q := fun _ h => h
  have hS : va_S (zN s.heap.size) s.heap s.heap [] := va_S.rf
  have hl := lv_entry ([.ref (o 0), .int x0]) (n := 2) (Nat.le_of_ble_eq_true rfl)
  rw [lg_entry_eq]
  generalize (lg_sl ([.ref (o 0), .int x0]) ++ List.replicate (2 - (lg_sl ([.ref (o 0), .int x0])).length) Slot.unset).toArray = ls at hl ⊢
  have hl : lv_has ls 2 [(0, .ref (o 0)), (1, .int x0)] := hl
  refine zgenQ (fun Q hQe => ?_)
  obtain ⟨tg, etg⟩ : ∃ z, z = fMO_isLink P S x0 := ⟨_, rfl⟩
  have E := etg
  unfold fMO_isLink at E
  have hJ16 : ∀ (H : Heap) (locs : List Loc) (ls : Array Slot), tg = fMO_isLink_16 P S  → va_P (dC, dI) zCl (MW cI cZ cA o b P S) H → va_S (zN s.heap.size) s.heap H locs → lv_has ls 2 [] → W p l e ({ frames := 0, cells := 0, slots := 0, locals := 0 } : Room) s m ([.ref (o 0), .int x0] : List Value).toArray below meth c H locs 0 0 Q (F0 m 16 ls []) := by
    intro H locs ls E hP hS hl
    unfold fMO_isLink_16 at E
    refine lv_iconst (v := 0) hx hb dMO_isLink_16 (by decide) ?_
    rw [hQe]
    exact W.zret (v := 0) (ty := .boolean) hx hb hr (znar (show zr 0 1 0 from by decide)) (fun t ht hW => ⟨⟨0, (), rfl, ⟨E.symm.trans etg, (show zr 0 1 0 from by decide)⟩, trivial⟩, hS.F ht⟩) hS.2.2 dMO_isLink_17
  refine lv_iload_n hx hb dMO_isLink_0 rfl (lv_at hl 1 rfl) ?_
  refine z_if_lt (tgt := 16) hx hb dMO_isLink_1 (by decide) E (fun c_1 E => ?_) (fun c_1 E => ?_)
  · have r_x0 : zr (-2147483648) (-1) x0 := zlt_x (zr_any x0) (show zr 0 0 0 from by decide) c_1 (by decide)
    exact hJ16 s.heap [] ls  E hP hS (lv_sub hl [] rfl)
  · have r_x0 : zr 0 2147483647 x0 := zle_y (show zr 0 0 0 from by decide) (zr_any x0) (znlt c_1) (by decide)
    refine lv_iload_n hx hb dMO_isLink_4 rfl (lv_at hl 1 rfl) ?_
    refine lv_aload_n hx hb dMO_isLink_5 rfl (lv_at hl 0 rfl) ?_
    refine m_get_2 hx hb (hB.words zU_MO) hown hK hP (hB.word (zm4 k4_117) rfl) dMO_isLink_6 E (fun k1 ek1 E => ?_)
    have r_k1 : zr 0 60 k1 := by rw [ek1]; exact gP.2.1 2
    refine z_icmp_ge (tgt := 16) hx hb dMO_isLink_9 (by decide) E (fun c_9 E => ?_) (fun c_9 E => ?_)
    · exact hJ16 s.heap [] ls  E hP hS (lv_sub hl [] rfl)
    · have r_x0 : zr 0 59 x0 := zlt_x r_x0 r_k1 (znle c_9) (by decide)
      have r_k1 : zr 1 60 k1 := zlt_y r_x0 r_k1 (znle c_9) (by decide)
      refine lv_iconst (v := 1) hx hb dMO_isLink_12 (by decide) ?_
      refine lv_goto (tgt := 17) hx hb dMO_isLink_13 (by decide) ?_
      rw [hQe]
      exact W.zret (v := 1) (ty := .boolean) hx hb hr (znar (show zr 0 1 1 from by decide)) (fun t ht hW => ⟨⟨1, (), rfl, ⟨E.symm.trans etg, (show zr 0 1 1 from by decide)⟩, trivial⟩, hS.F ht⟩) hS.2.2 dMO_isLink_17
noncomputable def fMO_isRing_14 (P : ZS) (S : ZS) : Int32 := 0
noncomputable def fMO_isRing (P S : ZS) (x0 : Int32) : Int32 := (if x0 < 0 then fMO_isRing_14 P S else (if 6 ≤ x0 then fMO_isRing_14 P S else 1))
set_option maxHeartbeats 4000000 in
set_option maxRecDepth 100000 in
theorem tMO_isRing (l : Launch) (dC : Nat → ClassId) (dI : Nat → Nat → Nat) (cI cZ cJ cA : ClassId) (a0 : Array Value) (s0 : State) (o b : Nat → Nat) (P S : ZS) (sz : Nat) (x0 : Int32) (gP : mok P) (gS : mok S) : Met l yMO_isRing [Cond.code yMO_isRing bMO_isRing 1 (some .boolean)] ({ frames := 0, cells := 0, slots := 0, locals := 0 } : Room) (zP zCl dC dI (zTZ cI cZ cJ cA) a0 s0 [.int x0] sz (MW cI cZ cA o b P S)) (zQp (fun r => r = fMO_isRing P S x0 ∧ zr 0 1 r) sz) 0 0 (zN sz) := by
  refine Met.ofW (cc := bMO_isRing) (maxL := 1) (ret := (some .boolean)) (by decide) rfl ?_
  intro p e s m args below meth c s₁ B hml hv
  obtain ⟨rfl, hsz, hP, hK, hD0, hB⟩ := hv
  have hx := B.exec
  have hb := B.bytes
  have hr := B.returns
  have hown : s.vm.findClass "RingGuardModel" = some m.cls := findClass_of_methodNamed B.named
  have hlocks := B.notSynchronized
  subst hsz
  have hD := hD0
  have hA0 : ∀ q, zN s.heap.size q → s0.heap.size ≤ q := zA1 hB
  have hAD : ∀ q, zN s0.heap.size q → s0.heap.size ≤ q := fun _ h => h
  have hA : ∀ q : Nat, s.heap.size ≤ q → zN s.heap.size q := fun _ h => h
  have hS : va_S (zN s.heap.size) s.heap s.heap [] := va_S.rf
  have hl := lv_entry ([.int x0]) (n := 1) (Nat.le_of_ble_eq_true rfl)
  rw [lg_entry_eq]
  generalize (lg_sl ([.int x0]) ++ List.replicate (1 - (lg_sl ([.int x0])).length) Slot.unset).toArray = ls at hl ⊢
  have hl : lv_has ls 1 [(0, .int x0)] := hl
  refine zgenQ (fun Q hQe => ?_)
  obtain ⟨tg, etg⟩ : ∃ z, z = fMO_isRing P S x0 := ⟨_, rfl⟩
  have E := etg
  unfold fMO_isRing at E
  have hJ14 : ∀ (H : Heap) (locs : List Loc) (ls : Array Slot), tg = fMO_isRing_14 P S  → va_P (dC, dI) zCl (MW cI cZ cA o b P S) H → va_S (zN s.heap.size) s.heap H locs → lv_has ls 1 [] → W p l e ({ frames := 0, cells := 0, slots := 0, locals := 0 } : Room) s m ([.int x0] : List Value).toArray below meth c H locs 0 0 Q (F0 m 14 ls []) := by
    intro H locs ls E hP hS hl
    unfold fMO_isRing_14 at E
    refine lv_iconst (v := 0) hx hb dMO_isRing_14 (by decide) ?_
    rw [hQe]
    exact W.zret (v := 0) (ty := .boolean) hx hb hr (znar (show zr 0 1 0 from by decide)) (fun t ht hW => ⟨⟨0, (), rfl, ⟨E.symm.trans etg, (show zr 0 1 0 from by decide)⟩, trivial⟩, hS.F ht⟩) hS.2.2 dMO_isRing_15
  refine lv_iload_n hx hb dMO_isRing_0 rfl (lv_at hl 0 rfl) ?_
  refine z_if_lt (tgt := 14) hx hb dMO_isRing_1 (by decide) E (fun c_1 E => ?_) (fun c_1 E => ?_)
  · have r_x0 : zr (-2147483648) (-1) x0 := zlt_x (zr_any x0) (show zr 0 0 0 from by decide) c_1 (by decide)
    exact hJ14 s.heap [] ls  E hP hS (lv_sub hl [] rfl)
  · have r_x0 : zr 0 2147483647 x0 := zle_y (show zr 0 0 0 from by decide) (zr_any x0) (znlt c_1) (by decide)
    refine lv_iload_n hx hb dMO_isRing_4 rfl (lv_at hl 0 rfl) ?_
    refine lv_bipush (v := 6) hx hb dMO_isRing_5 (by decide) ?_
    refine z_icmp_ge (tgt := 14) hx hb dMO_isRing_7 (by decide) E (fun c_7 E => ?_) (fun c_7 E => ?_)
    · have r_x0 : zr 6 2147483647 x0 := zle_y (show zr 6 6 6 from by decide) r_x0 c_7 (by decide)
      exact hJ14 s.heap [] ls  E hP hS (lv_sub hl [] rfl)
    · have r_x0 : zr 0 5 x0 := zlt_x r_x0 (show zr 6 6 6 from by decide) (znle c_7) (by decide)
      refine lv_iconst (v := 1) hx hb dMO_isRing_10 (by decide) ?_
      refine lv_goto (tgt := 15) hx hb dMO_isRing_11 (by decide) ?_
      rw [hQe]
      exact W.zret (v := 1) (ty := .boolean) hx hb hr (znar (show zr 0 1 1 from by decide)) (fun t ht hW => ⟨⟨1, (), rfl, ⟨E.symm.trans etg, (show zr 0 1 1 from by decide)⟩, trivial⟩, hS.F ht⟩) hS.2.2 dMO_isRing_15
theorem zc_isBridge {P S : ZS} {a k : Int32} (g : mok P) (h : k = fMO_isBridge P S a) : k = 0 ∨ zr 0 47 a := by
  simp only [fMO_isBridge, fMO_isBridge_16, zl] at h
  split at h
  · exact Or.inl h
  · rename_i c1
    split at h
    · exact Or.inl h
    · rename_i c2
      exact Or.inr (zlt_x (zle_y (a := 0) (b := 0) (by decide) (zr_any a) (znlt c1) (by decide) : zr 0 2147483647 a) (g.2.1 1) (znle c2) (by decide))
theorem zc_isLink {P S : ZS} {a k : Int32} (g : mok P) (h : k = fMO_isLink P S a) : k = 0 ∨ zr 0 59 a := by
  simp only [fMO_isLink, fMO_isLink_16, zl] at h
  split at h
  · exact Or.inl h
  · rename_i c1
    split at h
    · exact Or.inl h
    · rename_i c2
      exact Or.inr (zlt_x (zle_y (a := 0) (b := 0) (by decide) (zr_any a) (znlt c1) (by decide) : zr 0 2147483647 a) (g.2.1 2) (znle c2) (by decide))
theorem zc_isRing {P S : ZS} {a k : Int32} (_ : mok P) (h : k = fMO_isRing P S a) : k = 0 ∨ zr 0 5 a := by
  simp only [fMO_isRing, fMO_isRing_14, zl] at h
  split at h
  · exact Or.inl h
  · rename_i c1
    split at h
    · exact Or.inl h
    · rename_i c2
      exact Or.inr (zlt_x (zle_y (a := 0) (b := 0) (by decide) (zr_any a) (znlt c1) (by decide) : zr 0 2147483647 a) (c := 6) (d := 6) (by decide) (znle c2) (by decide))
noncomputable def fMO_isEnd_20 (P : ZS) (S : ZS) : Int32 := 1
noncomputable def fMO_isEnd (P S : ZS) (x0 : Int32) (x1 : Int32) : Int32 := zl (P.F 0 (x1 : Int32).toNatClampNeg) (fun k1 => (if k1 = x0 then fMO_isEnd_20 P S else zl (P.F 1 (x1 : Int32).toNatClampNeg) (fun k2 => (if k2 = x0 then fMO_isEnd_20 P S else 0))))
set_option maxHeartbeats 4000000 in
set_option maxRecDepth 100000 in
theorem tMO_isEnd (l : Launch) (dC : Nat → ClassId) (dI : Nat → Nat → Nat) (cI cZ cJ cA : ClassId) (a0 : Array Value) (s0 : State) (o b : Nat → Nat) (P S : ZS) (sz : Nat) (x0 : Int32) (x1 : Int32) (gP : mok P) (gS : mok S) (r_x1 : zr 0 59 x1) : Met l yMO_isEnd [Cond.code yMO_isEnd bMO_isEnd 3 (some .boolean)] ({ frames := 0, cells := 0, slots := 0, locals := 0 } : Room) (zP zCl dC dI (zTZ cI cZ cJ cA) a0 s0 [.ref (o 0), .int x0, .int x1] sz (MW cI cZ cA o b P S)) (zQp (fun r => r = fMO_isEnd P S x0 x1 ∧ zr 0 1 r) sz) 0 0 (zN sz) := by
  refine Met.ofW (cc := bMO_isEnd) (maxL := 3) (ret := (some .boolean)) (by decide) rfl ?_
  intro p e s m args below meth c s₁ B hml hv
  obtain ⟨rfl, hsz, hP, hK, hD0, hB⟩ := hv
  have hx := B.exec
  have hb := B.bytes
  have hr := B.returns
  have hown : s.vm.findClass "RingGuardModel" = some m.cls := findClass_of_methodNamed B.named
  have hlocks := B.notSynchronized
  subst hsz
  have hD := hD0
  have hA0 : ∀ q, zN s.heap.size q → s0.heap.size ≤ q := zA1 hB
  have hAD : ∀ q, zN s0.heap.size q → s0.heap.size ≤ q := fun _ h => h
  have hA : ∀ q : Nat, s.heap.size ≤ q → zN s.heap.size q := fun _ h => h
  have hS : va_S (zN s.heap.size) s.heap s.heap [] := va_S.rf
  have hl := lv_entry ([.ref (o 0), .int x0, .int x1]) (n := 3) (Nat.le_of_ble_eq_true rfl)
  rw [lg_entry_eq]
  generalize (lg_sl ([.ref (o 0), .int x0, .int x1]) ++ List.replicate (3 - (lg_sl ([.ref (o 0), .int x0, .int x1])).length) Slot.unset).toArray = ls at hl ⊢
  have hl : lv_has ls 3 [(0, .ref (o 0)), (1, .int x0), (2, .int x1)] := hl
  refine zgenQ (fun Q hQe => ?_)
  obtain ⟨tg, etg⟩ : ∃ z, z = fMO_isEnd P S x0 x1 := ⟨_, rfl⟩
  have E := etg
  unfold fMO_isEnd at E
  have hJ20 : ∀ (H : Heap) (locs : List Loc) (ls : Array Slot), tg = fMO_isEnd_20 P S  → va_P (dC, dI) zCl (MW cI cZ cA o b P S) H → va_S (zN s.heap.size) s.heap H locs → lv_has ls 3 [] → W p l e ({ frames := 0, cells := 0, slots := 0, locals := 0 } : Room) s m ([.ref (o 0), .int x0, .int x1] : List Value).toArray below meth c H locs 0 0 Q (F0 m 20 ls []) := by
    intro H locs ls E hP hS hl
    unfold fMO_isEnd_20 at E
    refine lv_iconst (v := 1) hx hb dMO_isEnd_20 (by decide) ?_
    refine lv_goto (tgt := 25) hx hb dMO_isEnd_21 (by decide) ?_
    rw [hQe]
    exact W.zret (v := 1) (ty := .boolean) hx hb hr (znar (show zr 0 1 1 from by decide)) (fun t ht hW => ⟨⟨1, (), rfl, ⟨E.symm.trans etg, (show zr 0 1 1 from by decide)⟩, trivial⟩, hS.F ht⟩) hS.2.2 dMO_isEnd_25
  refine lv_aload_n hx hb dMO_isEnd_0 rfl (lv_at hl 0 rfl) ?_
  refine m_getA_0 hx hb (hB.words zU_MO) hown hK hP (hB.word (zm4 k4_118) rfl) dMO_isEnd_1 ?_
  refine lv_iload_n hx hb dMO_isEnd_4 rfl (lv_at hl 2 rfl) ?_
  refine m_aldP hx hb hK hP 0 (by decide) rfl r_x1 (by decide) dMO_isEnd_5 E (fun k1 ek1 E => ?_)
  have r_k1 : zr 0 47 k1 := by rw [ek1]; exact gP.1 0 _
  refine lv_iload_n hx hb dMO_isEnd_6 rfl (lv_at hl 1 rfl) ?_
  refine z_icmp_eq (tgt := 20) hx hb dMO_isEnd_7 (by decide) E (fun c_7 E => ?_) (fun c_7 E => ?_)
  · have r_x0 : zr 0 47 x0 := zeq_x r_k1 c_7.symm
    exact hJ20 s.heap [] ls  E hP hS (lv_sub hl [] rfl)
  · refine lv_aload_n hx hb dMO_isEnd_10 rfl (lv_at hl 0 rfl) ?_
    refine m_getA_1 hx hb (hB.words zU_MO) hown hK hP (hB.word (zm4 k4_119) rfl) dMO_isEnd_11 ?_
    refine lv_iload_n hx hb dMO_isEnd_14 rfl (lv_at hl 2 rfl) ?_
    refine m_aldP hx hb hK hP 1 (by decide) rfl r_x1 (by decide) dMO_isEnd_15 E (fun k2 ek2 E => ?_)
    have r_k2 : zr 0 47 k2 := by rw [ek2]; exact gP.1 1 _
    refine lv_iload_n hx hb dMO_isEnd_16 rfl (lv_at hl 1 rfl) ?_
    refine z_icmp_ne (tgt := 24) hx hb dMO_isEnd_17 (by decide) E (fun c_17 E => ?_) (fun c_17 E => ?_)
    · refine lv_iconst (v := 0) hx hb dMO_isEnd_24 (by decide) ?_
      rw [hQe]
      exact W.zret (v := 0) (ty := .boolean) hx hb hr (znar (show zr 0 1 0 from by decide)) (fun t ht hW => ⟨⟨0, (), rfl, ⟨E.symm.trans etg, (show zr 0 1 0 from by decide)⟩, trivial⟩, hS.F ht⟩) hS.2.2 dMO_isEnd_25
    · have r_x0 : zr 0 47 x0 := zeq_x r_k2 c_17.symm
      exact hJ20 s.heap [] ls  E hP hS (lv_sub hl [] rfl)
noncomputable def fMO_other (P S : ZS) (x0 : Int32) (x1 : Int32) : Int32 := zl (P.F 0 (x1 : Int32).toNatClampNeg) (fun k1 => (if k1 = x0 then zl (P.F 1 (x1 : Int32).toNatClampNeg) (fun k3 => k3) else zl (P.F 0 (x1 : Int32).toNatClampNeg) (fun k2 => k1)))
set_option maxHeartbeats 4000000 in
set_option maxRecDepth 100000 in
theorem tMO_other (l : Launch) (dC : Nat → ClassId) (dI : Nat → Nat → Nat) (cI cZ cJ cA : ClassId) (a0 : Array Value) (s0 : State) (o b : Nat → Nat) (P S : ZS) (sz : Nat) (x0 : Int32) (x1 : Int32) (gP : mok P) (gS : mok S) (r_x1 : zr 0 59 x1) : Met l yMO_other [Cond.code yMO_other bMO_other 3 (some .int)] ({ frames := 0, cells := 0, slots := 0, locals := 0 } : Room) (zP zCl dC dI (zTZ cI cZ cJ cA) a0 s0 [.ref (o 0), .int x0, .int x1] sz (MW cI cZ cA o b P S)) (zQp (fun r => r = fMO_other P S x0 x1 ∧ zr 0 47 r) sz) 0 0 (zN sz) := by
  refine Met.ofW (cc := bMO_other) (maxL := 3) (ret := (some .int)) (by decide) rfl ?_
  intro p e s m args below meth c s₁ B hml hv
  obtain ⟨rfl, hsz, hP, hK, hD0, hB⟩ := hv
  have hx := B.exec
  have hb := B.bytes
  have hr := B.returns
  have hown : s.vm.findClass "RingGuardModel" = some m.cls := findClass_of_methodNamed B.named
  have hlocks := B.notSynchronized
  subst hsz
  have hD := hD0
  have hA0 : ∀ q, zN s.heap.size q → s0.heap.size ≤ q := zA1 hB
  have hAD : ∀ q, zN s0.heap.size q → s0.heap.size ≤ q := fun _ h => h
  have hA : ∀ q : Nat, s.heap.size ≤ q → zN s.heap.size q := fun _ h => h
  have hS : va_S (zN s.heap.size) s.heap s.heap [] := va_S.rf
  have hl := lv_entry ([.ref (o 0), .int x0, .int x1]) (n := 3) (Nat.le_of_ble_eq_true rfl)
  rw [lg_entry_eq]
  generalize (lg_sl ([.ref (o 0), .int x0, .int x1]) ++ List.replicate (3 - (lg_sl ([.ref (o 0), .int x0, .int x1])).length) Slot.unset).toArray = ls at hl ⊢
  have hl : lv_has ls 3 [(0, .ref (o 0)), (1, .int x0), (2, .int x1)] := hl
  refine zgenQ (fun Q hQe => ?_)
  obtain ⟨tg, etg⟩ : ∃ z, z = fMO_other P S x0 x1 := ⟨_, rfl⟩
  have E := etg
  unfold fMO_other at E
  refine lv_aload_n hx hb dMO_other_0 rfl (lv_at hl 0 rfl) ?_
  refine m_getA_0 hx hb (hB.words zU_MO) hown hK hP (hB.word (zm4 k4_118) rfl) dMO_other_1 ?_
  refine lv_iload_n hx hb dMO_other_4 rfl (lv_at hl 2 rfl) ?_
  refine m_aldP hx hb hK hP 0 (by decide) rfl r_x1 (by decide) dMO_other_5 E (fun k1 ek1 E => ?_)
  have r_k1 : zr 0 47 k1 := by rw [ek1]; exact gP.1 0 _
  refine lv_iload_n hx hb dMO_other_6 rfl (lv_at hl 1 rfl) ?_
  refine z_icmp_ne (tgt := 19) hx hb dMO_other_7 (by decide) E (fun c_7 E => ?_) (fun c_7 E => ?_)
  · refine lv_aload_n hx hb dMO_other_19 rfl (lv_at hl 0 rfl) ?_
    refine m_getA_0 hx hb (hB.words zU_MO) hown hK hP (hB.word (zm4 k4_118) rfl) dMO_other_20 ?_
    refine lv_iload_n hx hb dMO_other_23 rfl (lv_at hl 2 rfl) ?_
    refine m_aldP hx hb hK hP 0 (by decide) rfl r_x1 (by decide) dMO_other_24 E (fun k2 ek2 E => ?_)
    have x9 : k1 = k2 := by rw [ek1, ek2]
    subst x9
    rw [hQe]
    exact W.iret (v := k1) hx hb hr (fun t ht hW => ⟨⟨k1, (), rfl, ⟨E.symm.trans etg, r_k1⟩, trivial⟩, hS.F ht⟩) hS.2.2 dMO_other_25
  · have r_x0 : zr 0 47 x0 := zeq_x r_k1 c_7.symm
    refine lv_aload_n hx hb dMO_other_10 rfl (lv_at hl 0 rfl) ?_
    refine m_getA_1 hx hb (hB.words zU_MO) hown hK hP (hB.word (zm4 k4_119) rfl) dMO_other_11 ?_
    refine lv_iload_n hx hb dMO_other_14 rfl (lv_at hl 2 rfl) ?_
    refine m_aldP hx hb hK hP 1 (by decide) rfl r_x1 (by decide) dMO_other_15 E (fun k3 ek3 E => ?_)
    have r_k3 : zr 0 47 k3 := by rw [ek3]; exact gP.1 1 _
    refine lv_goto (tgt := 25) hx hb dMO_other_16 (by decide) ?_
    rw [hQe]
    exact W.iret (v := k3) hx hb hr (fun t ht hW => ⟨⟨k3, (), rfl, ⟨E.symm.trans etg, r_k3⟩, trivial⟩, hS.F ht⟩) hS.2.2 dMO_other_25
noncomputable def fMO_goes_18 (P : ZS) (S_18 : ZS) (y18_0 : Int32) : ZS × Int32 := zl (S_18.setI 3 y18_0) (fun S1 => zl (S1.I 3) (fun k3 => (if y18_0 = 0 then (S1, 1) else (S1, 0))))
noncomputable def fMO_goes (P S : ZS) (x0 : Int32) (x1 : Int32) : ZS × Int32 := (if x0 = 0 then fMO_goes_18 P S 1 else (if x1 = 0 then fMO_goes_18 P S 2 else fMO_goes_18 P S 0))
set_option maxHeartbeats 4000000 in
set_option maxRecDepth 100000 in
theorem tMO_goes (l : Launch) (dC : Nat → ClassId) (dI : Nat → Nat → Nat) (cI cZ cJ cA : ClassId) (a0 : Array Value) (s0 : State) (o b : Nat → Nat) (P S : ZS) (sz : Nat) (x0 : Int32) (x1 : Int32) (gP : mok P) (gS : mok S) (r_x0 : zr 0 1 x0) (r_x1 : zr 0 1 x1) : Met l yMO_goes [Cond.code yMO_goes bMO_goes 3 (some .boolean)] ({ frames := 0, cells := 0, slots := 0, locals := 0 } : Room) (zP zCl dC dI (zTZ cI cZ cJ cA) a0 s0 [.ref (o 0), .int x0, .int x1] sz (MW cI cZ cA o b P S)) (zQH zCl dC dI (fun (r : Int32) (x9 : ZS) => (x9, r) = fMO_goes P S x0 x1 ∧ mok x9 ∧ zr 0 1 r) (fun x9 : ZS => (MW cI cZ cA o b P x9)) (va_A (MW cI cZ cA o b P S) sz)) 0 0 (va_A (MW cI cZ cA o b P S) sz) := by
  refine Met.ofW (cc := bMO_goes) (maxL := 3) (ret := (some .boolean)) (by decide) rfl ?_
  intro p e s m args below meth c s₁ B hml hv
  obtain ⟨rfl, hsz, hP, hK, hD0, hB⟩ := hv
  have hx := B.exec
  have hb := B.bytes
  have hr := B.returns
  have hown : s.vm.findClass "RingGuardModel" = some m.cls := findClass_of_methodNamed B.named
  have hlocks := B.notSynchronized
  subst hsz
  have hD := hD0.self (sz := s.heap.size)
  have hA0 := zA0 hD0 hB
  generalize hAe : va_A (MW cI cZ cA o b P S) s.heap.size = A at hD hA0 ⊢
  have hAD := hA0
  have hA : ∀ q : Nat, s.heap.size ≤ q → A q := fun q h => by rw [← hAe]; exact Or.inr h
  have hS : va_S A s.heap s.heap [] := va_S.rf
  have hl := lv_entry ([.ref (o 0), .int x0, .int x1]) (n := 3) (Nat.le_of_ble_eq_true rfl)
  rw [lg_entry_eq]
  generalize (lg_sl ([.ref (o 0), .int x0, .int x1]) ++ List.replicate (3 - (lg_sl ([.ref (o 0), .int x0, .int x1])).length) Slot.unset).toArray = ls at hl ⊢
  have hl : lv_has ls 3 [(0, .ref (o 0)), (1, .int x0), (2, .int x1)] := hl
  refine zgenQ (fun Q hQe => ?_)
  obtain ⟨tg, etg⟩ : ∃ z, z = fMO_goes P S x0 x1 := ⟨_, rfl⟩
  have E := etg
  unfold fMO_goes at E
  have hJ18 : ∀ (H : Heap) (locs : List Loc) (ls : Array Slot) (S_18 : ZS) (y18_0 : Int32), zr 0 2 y18_0 → mok S_18 → tg = fMO_goes_18 P S_18 y18_0 → va_P (dC, dI) zCl (MW cI cZ cA o b P S_18) H → va_D A (MW cI cZ cA o b P S_18) → va_S A s.heap H locs → lv_has ls 3 [(0, .ref (o 0))] → W p l e ({ frames := 0, cells := 0, slots := 0, locals := 0 } : Room) s m ([.ref (o 0), .int x0, .int x1] : List Value).toArray below meth c H locs 0 0 Q (F0 m 18 ls [.int y18_0, .ref (o 0)]) := by
    intro H locs ls S_18 y18_0 r_y18_0 gS_18 E hP hD hS hl
    unfold fMO_goes_18 at E
    refine m_put_3 hx hb (hB.words zU_MO) hown hK hP hD hS (hB.word (zm4 k4_114) rfl) dMO_goes_18 E (fun S1 H2 locs eS1 E hP hD hS => ?_)
    have gS1 : mok S1 := by rw [eS1]; exact gS_18.setI (t := 3) r_y18_0
    refine lv_aload_n hx hb dMO_goes_21 rfl (lv_at hl 0 rfl) ?_
    refine m_get_3 hx hb (hB.words zU_MO) hown hK hP (hB.word (zm4 k4_114) rfl) dMO_goes_22 E (fun k3 ek3 E => ?_)
    have x9 : y18_0 = k3 := by rw [ek3, eS1]; rfl
    subst x9
    refine z_if_ne (tgt := 32) hx hb dMO_goes_25 (by decide) E (fun c_25 E => ?_) (fun c_25 E => ?_)
    · have r_y18_0 : zr 1 2 y18_0 := zne_lo r_y18_0 c_25 (by decide)
      refine lv_iconst (v := 0) hx hb dMO_goes_32 (by decide) ?_
      rw [hQe]
      exact W.zret (v := 0) (ty := .boolean) hx hb hr (znar (show zr 0 1 0 from by decide)) (fun t ht hW => ⟨⟨0, S1, rfl, ⟨E.symm.trans etg, gS1, (show zr 0 1 0 from by decide)⟩, by rw [ht]; exact hP, hD⟩, hS.F ht⟩) hS.2.2 dMO_goes_33
    · have r_y18_0 : zr 0 0 y18_0 := zeq_x (show zr 0 0 0 from by decide) c_25
      refine lv_iconst (v := 1) hx hb dMO_goes_28 (by decide) ?_
      refine lv_goto (tgt := 33) hx hb dMO_goes_29 (by decide) ?_
      rw [hQe]
      exact W.zret (v := 1) (ty := .boolean) hx hb hr (znar (show zr 0 1 1 from by decide)) (fun t ht hW => ⟨⟨1, S1, rfl, ⟨E.symm.trans etg, gS1, (show zr 0 1 1 from by decide)⟩, by rw [ht]; exact hP, hD⟩, hS.F ht⟩) hS.2.2 dMO_goes_33
  refine lv_aload_n hx hb dMO_goes_0 rfl (lv_at hl 0 rfl) ?_
  refine lv_iload_n hx hb dMO_goes_1 rfl (lv_at hl 1 rfl) ?_
  refine z_if_ne (tgt := 9) hx hb dMO_goes_2 (by decide) E (fun c_2 E => ?_) (fun c_2 E => ?_)
  · have r_x0 : zr 1 1 x0 := zne_lo r_x0 c_2 (by decide)
    refine lv_iload_n hx hb dMO_goes_9 rfl (lv_at hl 2 rfl) ?_
    refine z_if_ne (tgt := 17) hx hb dMO_goes_10 (by decide) E (fun c_10 E => ?_) (fun c_10 E => ?_)
    · have r_x1 : zr 1 1 x1 := zne_lo r_x1 c_10 (by decide)
      refine lv_iconst (v := 0) hx hb dMO_goes_17 (by decide) ?_
      exact hJ18 s.heap [] ls S 0 (show zr 0 2 0 from by decide) gS E hP hD hS (lv_sub hl [0] rfl)
    · have r_x1 : zr 0 0 x1 := zeq_x (show zr 0 0 0 from by decide) c_10
      refine lv_iconst (v := 2) hx hb dMO_goes_13 (by decide) ?_
      refine lv_goto (tgt := 18) hx hb dMO_goes_14 (by decide) ?_
      exact hJ18 s.heap [] ls S 2 (show zr 0 2 2 from by decide) gS E hP hD hS (lv_sub hl [0] rfl)
  · have r_x0 : zr 0 0 x0 := zeq_x (show zr 0 0 0 from by decide) c_2
    refine lv_iconst (v := 1) hx hb dMO_goes_5 (by decide) ?_
    refine lv_goto (tgt := 18) hx hb dMO_goes_6 (by decide) ?_
    exact hJ18 s.heap [] ls S 1 (show zr 0 2 1 from by decide) gS E hP hD hS (lv_sub hl [0] rfl)
theorem zgoes_S {P S S1 : ZS} {x y k : Int32} (h : (S1, k) = fMO_goes P S x y) : ∃ v, S1 = S.setI 3 v := by
  simp only [fMO_goes, fMO_goes_18, zl] at h
  repeat' split at h
  all_goals exact ⟨_, congrArg Prod.fst h⟩
theorem zgoes_0 {P S S1 : ZS} {x y k : Int32} (h : (S1, k) = fMO_goes P S x y) : k = 0 ∨ ¬ x = 0 := by
  simp only [fMO_goes, fMO_goes_18, zl] at h
  split at h
  · exact Or.inl (congrArg Prod.snd h)
  · rename_i c
    exact Or.inr c
theorem zgoes_1 {P S S1 : ZS} {x y k : Int32} (h : (S1, k) = fMO_goes P S x y) : k = 0 ∨ ¬ y = 0 := by
  simp only [fMO_goes, fMO_goes_18, zl] at h
  split at h
  · exact Or.inl (congrArg Prod.snd h)
  · split at h
    · exact Or.inl (congrArg Prod.snd h)
    · rename_i c
      exact Or.inr c
noncomputable def fMO_linksIn_28 (P : ZS) (S : ZS) (rc4 : Int32 → Int32 → Int32 → (Int32)) (x28_1 : Int32) (x28_3 : Int32) (y28_0 : Int32) (y28_1 : Int32) : Int32 := zl (y28_1 + y28_0) (fun k1 => zl (x28_3 + 1) (fun k2 => rc4 x28_1 k1 k2))
noncomputable def fMO_linksIn_4 (P : ZS) (S : ZS) (rc4 : Int32 → Int32 → Int32 → (Int32)) (x4_1 : Int32) (x4_2 : Int32) (x4_3 : Int32) : Int32 := zl (P.I 2) (fun k3 => (if k3 ≤ x4_3 then x4_2 else zl (P.F 2 (x4_3 : Int32).toNatClampNeg) (fun k4 => (if k4 = x4_1 then fMO_linksIn_28 P S rc4 x4_1 x4_3 1 x4_2 else fMO_linksIn_28 P S rc4 x4_1 x4_3 0 x4_2))))
noncomputable def fMO_linksIn (P S : ZS) (x0 : Int32) : Int32 := zfix (fun _ _ _ => 0) (fMO_linksIn_4 P S) 61 x0 0 0
set_option maxHeartbeats 4000000 in
set_option maxRecDepth 100000 in
theorem tMO_linksIn (l : Launch) (dC : Nat → ClassId) (dI : Nat → Nat → Nat) (cI cZ cJ cA : ClassId) (a0 : Array Value) (s0 : State) (o b : Nat → Nat) (P S : ZS) (sz : Nat) (x0 : Int32) (gP : mok P) (gS : mok S) : Met l yMO_linksIn [Cond.code yMO_linksIn bMO_linksIn 4 (some .int)] ({ frames := 0, cells := 0, slots := 0, locals := 0 } : Room) (zP zCl dC dI (zTZ cI cZ cJ cA) a0 s0 [.ref (o 0), .int x0] sz (MW cI cZ cA o b P S)) (zQp (fun r => r = fMO_linksIn P S x0 ∧ True) sz) 0 0 (zN sz) := by
  refine Met.ofW (cc := bMO_linksIn) (maxL := 4) (ret := (some .int)) (by decide) rfl ?_
  intro p e s m args below meth c s₁ B hml hv
  obtain ⟨rfl, hsz, hP, hK, hD0, hB⟩ := hv
  have hx := B.exec
  have hb := B.bytes
  have hr := B.returns
  have hown : s.vm.findClass "RingGuardModel" = some m.cls := findClass_of_methodNamed B.named
  have hlocks := B.notSynchronized
  subst hsz
  have hD := hD0
  have hA0 : ∀ q, zN s.heap.size q → s0.heap.size ≤ q := zA1 hB
  have hAD : ∀ q, zN s0.heap.size q → s0.heap.size ≤ q := fun _ h => h
  have hA : ∀ q : Nat, s.heap.size ≤ q → zN s.heap.size q := fun _ h => h
  have hS : va_S (zN s.heap.size) s.heap s.heap [] := va_S.rf
  have hl := lv_entry ([.ref (o 0), .int x0]) (n := 4) (Nat.le_of_ble_eq_true rfl)
  rw [lg_entry_eq]
  generalize (lg_sl ([.ref (o 0), .int x0]) ++ List.replicate (4 - (lg_sl ([.ref (o 0), .int x0])).length) Slot.unset).toArray = ls at hl ⊢
  have hl : lv_has ls 4 [(0, .ref (o 0)), (1, .int x0)] := hl
  refine zgenQ (fun Q hQe => ?_)
  obtain ⟨tg, etg⟩ : ∃ z, z = fMO_linksIn P S x0 := ⟨_, rfl⟩
  have E := etg
  unfold fMO_linksIn at E
  have hL4 : ∀ (n4 : Nat) (H : Heap) (locs : List Loc) (ls : Array Slot) (x4_1 : Int32) (x4_2 : Int32) (x4_3 : Int32), zr 0 60 x4_3 → 60 + 1 - x4_3.toInt ≤ (n4 : Int) → tg = zfix (fun _ _ _ => 0) (fMO_linksIn_4 P S) n4 x4_1 x4_2 x4_3 → va_P (dC, dI) zCl (MW cI cZ cA o b P S) H → va_S (zN s.heap.size) s.heap H locs → lv_has ls 4 [(0, .ref (o 0)), (1, .int x4_1), (2, .int x4_2), (3, .int x4_3)] → W p l e ({ frames := 0, cells := 0, slots := 0, locals := 0 } : Room) s m ([.ref (o 0), .int x0] : List Value).toArray below meth c H locs 0 0 Q (F0 m 4 ls []) := by
    intro n4
    induction n4 with
    | zero => intro H locs ls x4_1 x4_2 x4_3 r_x4_3 hm4 E hP hS hl; exact absurd hm4 (zfuel0U r_x4_3)
    | succ n4 ih4 =>
      intro H locs ls x4_1 x4_2 x4_3 r_x4_3 hm4 E hP hS hl
      rw [zfix_s] at E
      generalize zfix (fun _ _ _ => 0) (fMO_linksIn_4 P S) n4 = rc4 at ih4 E
      unfold fMO_linksIn_4 at E
      have hJ28 : ∀ (H : Heap) (locs : List Loc) (ls : Array Slot) (x28_1 : Int32) (x28_3 : Int32) (y28_0 : Int32) (y28_1 : Int32), zr 0 59 x28_3 → zr 0 1 y28_0 → 60 + 1 - x28_3.toInt ≤ ((n4 + 1 : Nat) : Int) → (y28_0 = 0 ∨ zr 0 5 (x28_1)) → tg = fMO_linksIn_28 P S rc4 x28_1 x28_3 y28_0 y28_1 → va_P (dC, dI) zCl (MW cI cZ cA o b P S) H → va_S (zN s.heap.size) s.heap H locs → lv_has ls 4 [(0, .ref (o 0)), (1, .int x28_1), (3, .int x28_3)] → W p l e ({ frames := 0, cells := 0, slots := 0, locals := 0 } : Room) s m ([.ref (o 0), .int x0] : List Value).toArray below meth c H locs 0 0 Q (F0 m 28 ls [.int y28_0, .int y28_1]) := by
        intro H locs ls x28_1 x28_3 y28_0 y28_1 r_x28_3 r_y28_0 hm4_28 cd28_0 E hP hS hl
        unfold fMO_linksIn_28 at E
        refine z_iadd hx hb dMO_linksIn_28 E (fun k1 ek1 E => ?_)
        refine lv_istore_n (lv' := [(2, .int k1), (0, .ref (o 0)), (1, .int x28_1), (3, .int x28_3)]) hx hb dMO_linksIn_29 rfl hl (by decide) rfl (fun ls hl => ?_)
        refine z_iinc (lv' := fun v9 => [(3, .int v9), (2, .int k1), (0, .ref (o 0)), (1, .int x28_1)]) (cst := 1) hx hb dMO_linksIn_30 hl (k := 3) rfl (by decide) (by decide) (fun _ => rfl) E (fun k2 ls ek2 E hl => ?_)
        have r_k2 : zr 1 60 k2 := zr_add r_x28_3 (show zr 1 1 1 from by decide) ek2 (by decide)
        refine lv_goto (tgt := 4) hx hb dMO_linksIn_33 (by decide) ?_
        exact ih4 H locs ls x28_1 k1 k2 (zr_mono r_k2 (by decide)) (zstepU ek2 r_x28_3 (by decide) hm4_28) E hP hS (lv_sub hl [2, 3, 1, 0] rfl)
      refine lv_iload_n hx hb dMO_linksIn_4 rfl (lv_at hl 3 rfl) ?_
      refine lv_aload_n hx hb dMO_linksIn_5 rfl (lv_at hl 0 rfl) ?_
      refine m_get_2 hx hb (hB.words zU_MO) hown hK hP (hB.word (zm4 k4_117) rfl) dMO_linksIn_6 E (fun k3 ek3 E => ?_)
      have r_k3 : zr 0 60 k3 := by rw [ek3]; exact gP.2.1 2
      refine z_icmp_ge (tgt := 36) hx hb dMO_linksIn_9 (by decide) E (fun c_9 E => ?_) (fun c_9 E => ?_)
      · refine lv_iload_n hx hb dMO_linksIn_36 rfl (lv_at hl 2 rfl) ?_
        rw [hQe]
        exact W.iret (v := x4_2) hx hb hr (fun t ht hW => ⟨⟨x4_2, (), rfl, ⟨E.symm.trans etg, trivial⟩, trivial⟩, hS.F ht⟩) hS.2.2 dMO_linksIn_37
      · have r_x4_3 : zr 0 59 x4_3 := zlt_x r_x4_3 r_k3 (znle c_9) (by decide)
        have r_k3 : zr 1 60 k3 := zlt_y r_x4_3 r_k3 (znle c_9) (by decide)
        refine lv_iload_n hx hb dMO_linksIn_12 rfl (lv_at hl 2 rfl) ?_
        refine lv_aload_n hx hb dMO_linksIn_13 rfl (lv_at hl 0 rfl) ?_
        refine m_getA_2 hx hb (hB.words zU_MO) hown hK hP (hB.word (zm4 k4_120) rfl) dMO_linksIn_14 ?_
        refine lv_iload_n hx hb dMO_linksIn_17 rfl (lv_at hl 3 rfl) ?_
        refine m_aldP hx hb hK hP 2 (by decide) rfl r_x4_3 (by decide) dMO_linksIn_18 E (fun k4 ek4 E => ?_)
        have r_k4 : zr 0 5 k4 := by rw [ek4]; exact gP.1 2 _
        refine lv_iload_n hx hb dMO_linksIn_19 rfl (lv_at hl 1 rfl) ?_
        refine z_icmp_ne (tgt := 27) hx hb dMO_linksIn_20 (by decide) E (fun c_20 E => ?_) (fun c_20 E => ?_)
        · refine lv_iconst (v := 0) hx hb dMO_linksIn_27 (by decide) ?_
          exact hJ28 H locs ls x4_1 x4_3 0 x4_2 r_x4_3 (show zr 0 1 0 from by decide) hm4 (Or.inl rfl) E hP hS (lv_sub hl [0, 1, 3] rfl)
        · have r_x4_1 : zr 0 5 x4_1 := zeq_x r_k4 c_20.symm
          refine lv_iconst (v := 1) hx hb dMO_linksIn_23 (by decide) ?_
          refine lv_goto (tgt := 28) hx hb dMO_linksIn_24 (by decide) ?_
          exact hJ28 H locs ls x4_1 x4_3 1 x4_2 r_x4_3 (show zr 0 1 1 from by decide) hm4 (Or.inr r_x4_1) E hP hS (lv_sub hl [0, 1, 3] rfl)
  refine lv_iconst (v := 0) hx hb dMO_linksIn_0 (by decide) ?_
  refine lv_istore_n (lv' := [(2, .int 0), (0, .ref (o 0)), (1, .int x0)]) hx hb dMO_linksIn_1 rfl hl (by decide) rfl (fun ls hl => ?_)
  refine lv_iconst (v := 0) hx hb dMO_linksIn_2 (by decide) ?_
  refine lv_istore_n (lv' := [(3, .int 0), (2, .int 0), (0, .ref (o 0)), (1, .int x0)]) hx hb dMO_linksIn_3 rfl hl (by decide) rfl (fun ls hl => ?_)
  exact hL4 61 s.heap [] ls x0 0 0 (show zr 0 60 0 from by decide) (by have h9 := (show zr 0 0 0 from by decide); exact zfuelU h9 (by decide)) E hP hS (lv_sub hl [2, 3, 1, 0] rfl)
noncomputable def fMO_degreeIn_41 (P : ZS) (S : ZS) (rc5 : Int32 → Int32 → Int32 → Int32 → (Int32)) (x41_1 : Int32) (x41_2 : Int32) (x41_4 : Int32) (y41_0 : Int32) (y41_1 : Int32) : Int32 := zl (y41_1 + y41_0) (fun k1 => zl (x41_4 + 1) (fun k2 => rc5 x41_1 x41_2 k1 k2))
noncomputable def fMO_degreeIn_40 (P : ZS) (S : ZS) (rc5 : Int32 → Int32 → Int32 → Int32 → (Int32)) (x40_1 : Int32) (x40_2 : Int32) (x40_4 : Int32) (y40_0 : Int32) : Int32 := fMO_degreeIn_41 P S rc5 x40_1 x40_2 x40_4 0 y40_0
noncomputable def fMO_degreeIn_5 (P : ZS) (S : ZS) (rc5 : Int32 → Int32 → Int32 → Int32 → (Int32)) (x5_1 : Int32) (x5_2 : Int32) (x5_3 : Int32) (x5_4 : Int32) : Int32 := zl (P.I 2) (fun k3 => (if k3 ≤ x5_4 then x5_3 else zl (P.F 2 (x5_4 : Int32).toNatClampNeg) (fun k4 => (if k4 = x5_2 then zl (fMO_isEnd P S x5_1 x5_4) (fun k6 => (if k6 = 0 then fMO_degreeIn_40 P S rc5 x5_1 x5_2 x5_4 x5_3 else fMO_degreeIn_41 P S rc5 x5_1 x5_2 x5_4 1 x5_3)) else fMO_degreeIn_40 P S rc5 x5_1 x5_2 x5_4 x5_3))))
noncomputable def fMO_degreeIn (P S : ZS) (x0 : Int32) (x1 : Int32) : Int32 := zfix (fun _ _ _ _ => 0) (fMO_degreeIn_5 P S) 61 x0 x1 0 0
set_option maxHeartbeats 4000000 in
set_option maxRecDepth 100000 in
theorem tMO_degreeIn (l : Launch) (dC : Nat → ClassId) (dI : Nat → Nat → Nat) (cI cZ cJ cA : ClassId) (a0 : Array Value) (s0 : State) (o b : Nat → Nat) (P S : ZS) (sz : Nat) (x0 : Int32) (x1 : Int32) (gP : mok P) (gS : mok S) : Met l yMO_degreeIn [Cond.code yMO_degreeIn bMO_degreeIn 5 (some .int)] ({ frames := 1, cells := 0, slots := 0, locals := 22 } : Room) (zP zCl dC dI (zTZ cI cZ cJ cA) a0 s0 [.ref (o 0), .int x0, .int x1] sz (MW cI cZ cA o b P S)) (zQp (fun r => r = fMO_degreeIn P S x0 x1 ∧ True) sz) 0 0 (zN sz) := by
  refine Met.ofW (cc := bMO_degreeIn) (maxL := 5) (ret := (some .int)) (by decide) rfl ?_
  intro p e s m args below meth c s₁ B hml hv
  obtain ⟨rfl, hsz, hP, hK, hD0, hB⟩ := hv
  have hx := B.exec
  have hb := B.bytes
  have hr := B.returns
  have hown : s.vm.findClass "RingGuardModel" = some m.cls := findClass_of_methodNamed B.named
  have hlocks := B.notSynchronized
  subst hsz
  have hD := hD0
  have hA0 : ∀ q, zN s.heap.size q → s0.heap.size ≤ q := zA1 hB
  have hAD : ∀ q, zN s0.heap.size q → s0.heap.size ≤ q := fun _ h => h
  have hA : ∀ q : Nat, s.heap.size ≤ q → zN s.heap.size q := fun _ h => h
  have hS : va_S (zN s.heap.size) s.heap s.heap [] := va_S.rf
  have hl := lv_entry ([.ref (o 0), .int x0, .int x1]) (n := 5) (Nat.le_of_ble_eq_true rfl)
  rw [lg_entry_eq]
  generalize (lg_sl ([.ref (o 0), .int x0, .int x1]) ++ List.replicate (5 - (lg_sl ([.ref (o 0), .int x0, .int x1])).length) Slot.unset).toArray = ls at hl ⊢
  have hl : lv_has ls 5 [(0, .ref (o 0)), (1, .int x0), (2, .int x1)] := hl
  refine zgenQ (fun Q hQe => ?_)
  obtain ⟨tg, etg⟩ : ∃ z, z = fMO_degreeIn P S x0 x1 := ⟨_, rfl⟩
  have E := etg
  unfold fMO_degreeIn at E
  have hL5 : ∀ (n5 : Nat) (H : Heap) (locs : List Loc) (ls : Array Slot) (x5_1 : Int32) (x5_2 : Int32) (x5_3 : Int32) (x5_4 : Int32), zr 0 60 x5_4 → 60 + 1 - x5_4.toInt ≤ (n5 : Int) → tg = zfix (fun _ _ _ _ => 0) (fMO_degreeIn_5 P S) n5 x5_1 x5_2 x5_3 x5_4 → va_P (dC, dI) zCl (MW cI cZ cA o b P S) H → va_S (zN s.heap.size) s.heap H locs → lv_has ls 5 [(0, .ref (o 0)), (1, .int x5_1), (2, .int x5_2), (3, .int x5_3), (4, .int x5_4)] → W p l e ({ frames := 1, cells := 0, slots := 0, locals := 22 } : Room) s m ([.ref (o 0), .int x0, .int x1] : List Value).toArray below meth c H locs 0 0 Q (F0 m 5 ls []) := by
    intro n5
    induction n5 with
    | zero => intro H locs ls x5_1 x5_2 x5_3 x5_4 r_x5_4 hm5 E hP hS hl; exact absurd hm5 (zfuel0U r_x5_4)
    | succ n5 ih5 =>
      intro H locs ls x5_1 x5_2 x5_3 x5_4 r_x5_4 hm5 E hP hS hl
      rw [zfix_s] at E
      generalize zfix (fun _ _ _ _ => 0) (fMO_degreeIn_5 P S) n5 = rc5 at ih5 E
      unfold fMO_degreeIn_5 at E
      have hJ41 : ∀ (H : Heap) (locs : List Loc) (ls : Array Slot) (x41_1 : Int32) (x41_2 : Int32) (x41_4 : Int32) (y41_0 : Int32) (y41_1 : Int32), zr 0 59 x41_4 → zr 0 1 y41_0 → 60 + 1 - x41_4.toInt ≤ ((n5 + 1 : Nat) : Int) → (y41_0 = 0 ∨ zr 0 5 (x41_2)) → tg = fMO_degreeIn_41 P S rc5 x41_1 x41_2 x41_4 y41_0 y41_1 → va_P (dC, dI) zCl (MW cI cZ cA o b P S) H → va_S (zN s.heap.size) s.heap H locs → lv_has ls 5 [(0, .ref (o 0)), (1, .int x41_1), (2, .int x41_2), (4, .int x41_4)] → W p l e ({ frames := 1, cells := 0, slots := 0, locals := 22 } : Room) s m ([.ref (o 0), .int x0, .int x1] : List Value).toArray below meth c H locs 0 0 Q (F0 m 41 ls [.int y41_0, .int y41_1]) := by
        intro H locs ls x41_1 x41_2 x41_4 y41_0 y41_1 r_x41_4 r_y41_0 hm5_41 cd41_0 E hP hS hl
        unfold fMO_degreeIn_41 at E
        refine z_iadd hx hb dMO_degreeIn_41 E (fun k1 ek1 E => ?_)
        refine lv_istore_n (lv' := [(3, .int k1), (0, .ref (o 0)), (1, .int x41_1), (2, .int x41_2), (4, .int x41_4)]) hx hb dMO_degreeIn_42 rfl hl (by decide) rfl (fun ls hl => ?_)
        refine z_iinc (lv' := fun v9 => [(4, .int v9), (3, .int k1), (0, .ref (o 0)), (1, .int x41_1), (2, .int x41_2)]) (cst := 1) hx hb dMO_degreeIn_43 hl (k := 4) rfl (by decide) (by decide) (fun _ => rfl) E (fun k2 ls ek2 E hl => ?_)
        have r_k2 : zr 1 60 k2 := zr_add r_x41_4 (show zr 1 1 1 from by decide) ek2 (by decide)
        refine lv_goto (tgt := 5) hx hb dMO_degreeIn_46 (by decide) ?_
        exact ih5 H locs ls x41_1 x41_2 k1 k2 (zr_mono r_k2 (by decide)) (zstepU ek2 r_x41_4 (by decide) hm5_41) E hP hS (lv_sub hl [2, 3, 4, 1, 0] rfl)
      have hJ40 : ∀ (H : Heap) (locs : List Loc) (ls : Array Slot) (x40_1 : Int32) (x40_2 : Int32) (x40_4 : Int32) (y40_0 : Int32), zr 0 59 x40_4 → 60 + 1 - x40_4.toInt ≤ ((n5 + 1 : Nat) : Int) → tg = fMO_degreeIn_40 P S rc5 x40_1 x40_2 x40_4 y40_0 → va_P (dC, dI) zCl (MW cI cZ cA o b P S) H → va_S (zN s.heap.size) s.heap H locs → lv_has ls 5 [(0, .ref (o 0)), (1, .int x40_1), (2, .int x40_2), (4, .int x40_4)] → W p l e ({ frames := 1, cells := 0, slots := 0, locals := 22 } : Room) s m ([.ref (o 0), .int x0, .int x1] : List Value).toArray below meth c H locs 0 0 Q (F0 m 40 ls [.int y40_0]) := by
        intro H locs ls x40_1 x40_2 x40_4 y40_0 r_x40_4 hm5_40 E hP hS hl
        unfold fMO_degreeIn_40 at E
        refine lv_iconst (v := 0) hx hb dMO_degreeIn_40 (by decide) ?_
        exact hJ41 H locs ls x40_1 x40_2 x40_4 0 y40_0 r_x40_4 (show zr 0 1 0 from by decide) hm5_40 (Or.inl rfl) E hP hS (lv_sub hl [0, 1, 2, 3] rfl)
      refine lv_iload hx hb dMO_degreeIn_5 (lv_at hl 4 rfl) ?_
      refine lv_aload_n hx hb dMO_degreeIn_7 rfl (lv_at hl 0 rfl) ?_
      refine m_get_2 hx hb (hB.words zU_MO) hown hK hP (hB.word (zm4 k4_117) rfl) dMO_degreeIn_8 E (fun k3 ek3 E => ?_)
      have r_k3 : zr 0 60 k3 := by rw [ek3]; exact gP.2.1 2
      refine z_icmp_ge (tgt := 49) hx hb dMO_degreeIn_11 (by decide) E (fun c_11 E => ?_) (fun c_11 E => ?_)
      · refine lv_iload_n hx hb dMO_degreeIn_49 rfl (lv_at hl 3 rfl) ?_
        rw [hQe]
        exact W.iret (v := x5_3) hx hb hr (fun t ht hW => ⟨⟨x5_3, (), rfl, ⟨E.symm.trans etg, trivial⟩, trivial⟩, hS.F ht⟩) hS.2.2 dMO_degreeIn_50
      · have r_x5_4 : zr 0 59 x5_4 := zlt_x r_x5_4 r_k3 (znle c_11) (by decide)
        have r_k3 : zr 1 60 k3 := zlt_y r_x5_4 r_k3 (znle c_11) (by decide)
        refine lv_iload_n hx hb dMO_degreeIn_14 rfl (lv_at hl 3 rfl) ?_
        refine lv_aload_n hx hb dMO_degreeIn_15 rfl (lv_at hl 0 rfl) ?_
        refine m_getA_2 hx hb (hB.words zU_MO) hown hK hP (hB.word (zm4 k4_120) rfl) dMO_degreeIn_16 ?_
        refine lv_iload hx hb dMO_degreeIn_19 (lv_at hl 4 rfl) ?_
        refine m_aldP hx hb hK hP 2 (by decide) rfl r_x5_4 (by decide) dMO_degreeIn_21 E (fun k4 ek4 E => ?_)
        have r_k4 : zr 0 5 k4 := by rw [ek4]; exact gP.1 2 _
        refine lv_iload_n hx hb dMO_degreeIn_22 rfl (lv_at hl 2 rfl) ?_
        refine z_icmp_ne (tgt := 40) hx hb dMO_degreeIn_23 (by decide) E (fun c_23 E => ?_) (fun c_23 E => ?_)
        · exact hJ40 H locs ls x5_1 x5_2 x5_4 x5_3 r_x5_4 hm5 E hP hS (lv_sub hl [0, 1, 2, 4] rfl)
        · have r_x5_2 : zr 0 5 x5_2 := zeq_x r_k4 c_23.symm
          refine lv_aload_n hx hb dMO_degreeIn_26 rfl (lv_at hl 0 rfl) ?_
          refine lv_iload_n hx hb dMO_degreeIn_27 rfl (lv_at hl 1 rfl) ?_
          refine lv_iload hx hb dMO_degreeIn_28 (lv_at hl 4 rfl) ?_
          refine zcallp (va_runV (As := [.int x5_1, .int x5_4]) (rest := [.int x5_3]) ⟨hx, hb, hml, hown, zno⟩ (tMO_isEnd l dC dI cI cZ cJ cA a0 s0 o b P S H.size x5_1 x5_4 gP gS r_x5_4) (zcw 2 (hB.word (zm5 k5_80) rfl) (hB.word (zm1 k1_9) rfl) (hB.word (zm5 k5_77) rfl) (hB.word (zm5 k5_79) rfl) (k2_selects_private (by decide) (hB.word (zm4 k4_109) rfl) (hB.word (zm5 k5_78) rfl) (hB.word (zm5 k5_79) rfl)) rfl rfl (by decide +kernel) ⟨Nat.le_of_ble_eq_true rfl, Nat.le_of_ble_eq_true rfl⟩) ⟨zP_blind, va_recv hK hP (ci := 7) (q0 := 0) rfl rfl, zP_pre hP hK hD hAD (zB_on hB hA0 hS)⟩ rfl rfl hl.1 rfl (lv_room (Nat.le_of_ble_eq_true rfl)) dMO_degreeIn_30 ⟨Nat.le_of_ble_eq_true rfl, Nat.le_of_ble_eq_true rfl⟩) hS hA (fun k6 H5 locs hk6 hz1 hk1 hS => ?_)
          have hP := zKeep hP hk1
          have E := zl_s E hk6.1
          refine z_if_eq (tgt := 40) hx hb dMO_degreeIn_33 (by decide) E (fun c_33 E => ?_) (fun c_33 E => ?_)
          · have r_k6 : zr 0 0 k6 := zeq_x (show zr 0 0 0 from by decide) c_33
            exact hJ40 H5 locs ls x5_1 x5_2 x5_4 x5_3 r_x5_4 hm5 E hP hS (lv_sub hl [0, 1, 2, 4] rfl)
          · have r_k6 : zr 1 1 k6 := zne_lo hk6.2 c_33 (by decide)
            refine lv_iconst (v := 1) hx hb dMO_degreeIn_36 (by decide) ?_
            refine lv_goto (tgt := 41) hx hb dMO_degreeIn_37 (by decide) ?_
            exact hJ41 H5 locs ls x5_1 x5_2 x5_4 1 x5_3 r_x5_4 (show zr 0 1 1 from by decide) hm5 (Or.inr r_x5_2) E hP hS (lv_sub hl [0, 1, 2, 4] rfl)
  refine lv_iconst (v := 0) hx hb dMO_degreeIn_0 (by decide) ?_
  refine lv_istore_n (lv' := [(3, .int 0), (0, .ref (o 0)), (1, .int x0), (2, .int x1)]) hx hb dMO_degreeIn_1 rfl hl (by decide) rfl (fun ls hl => ?_)
  refine lv_iconst (v := 0) hx hb dMO_degreeIn_2 (by decide) ?_
  refine lv_istore (lv' := [(4, .int 0), (3, .int 0), (0, .ref (o 0)), (1, .int x0), (2, .int x1)]) hx hb dMO_degreeIn_3 hl (by decide) rfl (fun ls hl => ?_)
  exact hL5 61 s.heap [] ls x0 x1 0 0 (show zr 0 60 0 from by decide) (by have h9 := (show zr 0 0 0 from by decide); exact zfuelU h9 (by decide)) E hP hS (lv_sub hl [2, 3, 4, 1, 0] rfl)
noncomputable def fMO_isEarlier_30 (P : ZS) (S : ZS) (rc5 : Int32 → Int32 → Int32 → Int32 → (Int32)) (x30_1 : Int32) (x30_2 : Int32) (x30_4 : Int32) (y30_0 : Int32) : Int32 := zl (x30_4 + 1) (fun k1 => rc5 x30_1 x30_2 y30_0 k1)
noncomputable def fMO_isEarlier_25 (P : ZS) (S : ZS) (rc5 : Int32 → Int32 → Int32 → Int32 → (Int32)) (x25_1 : Int32) (x25_2 : Int32) (x25_4 : Int32) : Int32 := fMO_isEarlier_30 P S rc5 x25_1 x25_2 x25_4 1
noncomputable def fMO_isEarlier_5 (P : ZS) (S : ZS) (rc5 : Int32 → Int32 → Int32 → Int32 → (Int32)) (x5_1 : Int32) (x5_2 : Int32) (x5_3 : Int32) (x5_4 : Int32) : Int32 := (if x5_2 ≤ x5_4 then x5_3 else (if x5_3 = 0 then zl (fMO_degreeIn P S x5_1 x5_4) (fun k3 => (if k3 ≤ 0 then fMO_isEarlier_30 P S rc5 x5_1 x5_2 x5_4 0 else fMO_isEarlier_25 P S rc5 x5_1 x5_2 x5_4)) else fMO_isEarlier_25 P S rc5 x5_1 x5_2 x5_4))
noncomputable def fMO_isEarlier (P S : ZS) (x0 : Int32) (x1 : Int32) : Int32 := zfix (fun _ _ _ _ => 0) (fMO_isEarlier_5 P S) 6 x0 x1 0 0
set_option maxHeartbeats 4000000 in
set_option maxRecDepth 100000 in
theorem tMO_isEarlier (l : Launch) (dC : Nat → ClassId) (dI : Nat → Nat → Nat) (cI cZ cJ cA : ClassId) (a0 : Array Value) (s0 : State) (o b : Nat → Nat) (P S : ZS) (sz : Nat) (x0 : Int32) (x1 : Int32) (gP : mok P) (gS : mok S) (r_x1 : zr 0 5 x1) : Met l yMO_isEarlier [Cond.code yMO_isEarlier bMO_isEarlier 5 (some .boolean)] ({ frames := 2, cells := 0, slots := 0, locals := 46 } : Room) (zP zCl dC dI (zTZ cI cZ cJ cA) a0 s0 [.ref (o 0), .int x0, .int x1] sz (MW cI cZ cA o b P S)) (zQp (fun r => r = fMO_isEarlier P S x0 x1 ∧ zr 0 1 r) sz) 0 0 (zN sz) := by
  refine Met.ofW (cc := bMO_isEarlier) (maxL := 5) (ret := (some .boolean)) (by decide) rfl ?_
  intro p e s m args below meth c s₁ B hml hv
  obtain ⟨rfl, hsz, hP, hK, hD0, hB⟩ := hv
  have hx := B.exec
  have hb := B.bytes
  have hr := B.returns
  have hown : s.vm.findClass "RingGuardModel" = some m.cls := findClass_of_methodNamed B.named
  have hlocks := B.notSynchronized
  subst hsz
  have hD := hD0
  have hA0 : ∀ q, zN s.heap.size q → s0.heap.size ≤ q := zA1 hB
  have hAD : ∀ q, zN s0.heap.size q → s0.heap.size ≤ q := fun _ h => h
  have hA : ∀ q : Nat, s.heap.size ≤ q → zN s.heap.size q := fun _ h => h
  have hS : va_S (zN s.heap.size) s.heap s.heap [] := va_S.rf
  have hl := lv_entry ([.ref (o 0), .int x0, .int x1]) (n := 5) (Nat.le_of_ble_eq_true rfl)
  rw [lg_entry_eq]
  generalize (lg_sl ([.ref (o 0), .int x0, .int x1]) ++ List.replicate (5 - (lg_sl ([.ref (o 0), .int x0, .int x1])).length) Slot.unset).toArray = ls at hl ⊢
  have hl : lv_has ls 5 [(0, .ref (o 0)), (1, .int x0), (2, .int x1)] := hl
  refine zgenQ (fun Q hQe => ?_)
  obtain ⟨tg, etg⟩ : ∃ z, z = fMO_isEarlier P S x0 x1 := ⟨_, rfl⟩
  have E := etg
  unfold fMO_isEarlier at E
  have hL5 : ∀ (n5 : Nat) (H : Heap) (locs : List Loc) (ls : Array Slot) (x5_1 : Int32) (x5_2 : Int32) (x5_3 : Int32) (x5_4 : Int32), zr 0 5 x5_2 → zr 0 1 x5_3 → zr 0 5 x5_4 → (x5_3 = 0 ∨ zr 1 5 (x5_2)) → (x5_3 = 0 ∨ zr 1 5 (x5_4)) → 5 + 1 - x5_4.toInt ≤ (n5 : Int) → tg = zfix (fun _ _ _ _ => 0) (fMO_isEarlier_5 P S) n5 x5_1 x5_2 x5_3 x5_4 → va_P (dC, dI) zCl (MW cI cZ cA o b P S) H → va_S (zN s.heap.size) s.heap H locs → lv_has ls 5 [(0, .ref (o 0)), (1, .int x5_1), (2, .int x5_2), (3, .int x5_3), (4, .int x5_4)] → W p l e ({ frames := 2, cells := 0, slots := 0, locals := 46 } : Room) s m ([.ref (o 0), .int x0, .int x1] : List Value).toArray below meth c H locs 0 0 Q (F0 m 5 ls []) := by
    intro n5
    induction n5 with
    | zero => intro H locs ls x5_1 x5_2 x5_3 x5_4 r_x5_2 r_x5_3 r_x5_4 cd5_0 cd5_1 hm5 E hP hS hl; exact absurd hm5 (zfuel0U r_x5_4)
    | succ n5 ih5 =>
      intro H locs ls x5_1 x5_2 x5_3 x5_4 r_x5_2 r_x5_3 r_x5_4 cd5_0 cd5_1 hm5 E hP hS hl
      rw [zfix_s] at E
      generalize zfix (fun _ _ _ _ => 0) (fMO_isEarlier_5 P S) n5 = rc5 at ih5 E
      unfold fMO_isEarlier_5 at E
      have hJ30 : ∀ (H : Heap) (locs : List Loc) (ls : Array Slot) (x30_1 : Int32) (x30_2 : Int32) (x30_4 : Int32) (y30_0 : Int32), zr 1 5 x30_2 → zr 0 4 x30_4 → zr 0 1 y30_0 → 5 + 1 - x30_4.toInt ≤ ((n5 + 1 : Nat) : Int) → tg = fMO_isEarlier_30 P S rc5 x30_1 x30_2 x30_4 y30_0 → va_P (dC, dI) zCl (MW cI cZ cA o b P S) H → va_S (zN s.heap.size) s.heap H locs → lv_has ls 5 [(0, .ref (o 0)), (1, .int x30_1), (2, .int x30_2), (4, .int x30_4)] → W p l e ({ frames := 2, cells := 0, slots := 0, locals := 46 } : Room) s m ([.ref (o 0), .int x0, .int x1] : List Value).toArray below meth c H locs 0 0 Q (F0 m 30 ls [.int y30_0]) := by
        intro H locs ls x30_1 x30_2 x30_4 y30_0 r_x30_2 r_x30_4 r_y30_0 hm5_30 E hP hS hl
        unfold fMO_isEarlier_30 at E
        refine lv_istore_n (lv' := [(3, .int y30_0), (0, .ref (o 0)), (1, .int x30_1), (2, .int x30_2), (4, .int x30_4)]) hx hb dMO_isEarlier_30 rfl hl (by decide) rfl (fun ls hl => ?_)
        refine z_iinc (lv' := fun v9 => [(4, .int v9), (3, .int y30_0), (0, .ref (o 0)), (1, .int x30_1), (2, .int x30_2)]) (cst := 1) hx hb dMO_isEarlier_31 hl (k := 4) rfl (by decide) (by decide) (fun _ => rfl) E (fun k1 ls ek1 E hl => ?_)
        have r_k1 : zr 1 5 k1 := zr_add r_x30_4 (show zr 1 1 1 from by decide) ek1 (by decide)
        refine lv_goto (tgt := 5) hx hb dMO_isEarlier_34 (by decide) ?_
        exact ih5 H locs ls x30_1 x30_2 y30_0 k1 (zr_mono r_x30_2 (by decide)) r_y30_0 (zr_mono r_k1 (by decide)) (Or.inr r_x30_2) (Or.inr r_k1) (zstepU ek1 r_x30_4 (by decide) hm5_30) E hP hS (lv_sub hl [2, 3, 4, 1, 0] rfl)
      have hJ25 : ∀ (H : Heap) (locs : List Loc) (ls : Array Slot) (x25_1 : Int32) (x25_2 : Int32) (x25_4 : Int32), zr 1 5 x25_2 → zr 0 4 x25_4 → 5 + 1 - x25_4.toInt ≤ ((n5 + 1 : Nat) : Int) → tg = fMO_isEarlier_25 P S rc5 x25_1 x25_2 x25_4 → va_P (dC, dI) zCl (MW cI cZ cA o b P S) H → va_S (zN s.heap.size) s.heap H locs → lv_has ls 5 [(0, .ref (o 0)), (1, .int x25_1), (2, .int x25_2), (4, .int x25_4)] → W p l e ({ frames := 2, cells := 0, slots := 0, locals := 46 } : Room) s m ([.ref (o 0), .int x0, .int x1] : List Value).toArray below meth c H locs 0 0 Q (F0 m 25 ls []) := by
        intro H locs ls x25_1 x25_2 x25_4 r_x25_2 r_x25_4 hm5_25 E hP hS hl
        unfold fMO_isEarlier_25 at E
        refine lv_iconst (v := 1) hx hb dMO_isEarlier_25 (by decide) ?_
        refine lv_goto (tgt := 30) hx hb dMO_isEarlier_26 (by decide) ?_
        exact hJ30 H locs ls x25_1 x25_2 x25_4 1 r_x25_2 r_x25_4 (show zr 0 1 1 from by decide) hm5_25 E hP hS (lv_sub hl [0, 1, 2, 3] rfl)
      refine lv_iload hx hb dMO_isEarlier_5 (lv_at hl 4 rfl) ?_
      refine lv_iload_n hx hb dMO_isEarlier_7 rfl (lv_at hl 2 rfl) ?_
      refine z_icmp_ge (tgt := 37) hx hb dMO_isEarlier_8 (by decide) E (fun c_8 E => ?_) (fun c_8 E => ?_)
      · refine lv_iload_n hx hb dMO_isEarlier_37 rfl (lv_at hl 3 rfl) ?_
        rw [hQe]
        exact W.zret (v := x5_3) (ty := .boolean) hx hb hr (znar r_x5_3) (fun t ht hW => ⟨⟨x5_3, (), rfl, ⟨E.symm.trans etg, r_x5_3⟩, trivial⟩, hS.F ht⟩) hS.2.2 dMO_isEarlier_38
      · have r_x5_4 : zr 0 4 x5_4 := zlt_x r_x5_4 r_x5_2 (znle c_8) (by decide)
        have r_x5_2 : zr 1 5 x5_2 := zlt_y r_x5_4 r_x5_2 (znle c_8) (by decide)
        refine lv_iload_n hx hb dMO_isEarlier_11 rfl (lv_at hl 3 rfl) ?_
        refine z_if_ne (tgt := 25) hx hb dMO_isEarlier_12 (by decide) E (fun c_12 E => ?_) (fun c_12 E => ?_)
        · have r_x5_3 : zr 1 1 x5_3 := zne_lo r_x5_3 c_12 (by decide)
          exact hJ25 H locs ls x5_1 x5_2 x5_4 r_x5_2 r_x5_4 hm5 E hP hS (lv_sub hl [0, 1, 2, 4] rfl)
        · have r_x5_3 : zr 0 0 x5_3 := zeq_x (show zr 0 0 0 from by decide) c_12
          refine lv_aload_n hx hb dMO_isEarlier_15 rfl (lv_at hl 0 rfl) ?_
          refine lv_iload_n hx hb dMO_isEarlier_16 rfl (lv_at hl 1 rfl) ?_
          refine lv_iload hx hb dMO_isEarlier_17 (lv_at hl 4 rfl) ?_
          refine zcallp (va_runV (As := [.int x5_1, .int x5_4]) (rest := []) ⟨hx, hb, hml, hown, zno⟩ (tMO_degreeIn l dC dI cI cZ cJ cA a0 s0 o b P S H.size x5_1 x5_4 gP gS) (zcw 2 (hB.word (zm5 k5_76) rfl) (hB.word (zm1 k1_9) rfl) (hB.word (zm5 k5_73) rfl) (hB.word (zm5 k5_75) rfl) (k2_selects_private (by decide) (hB.word (zm4 k4_109) rfl) (hB.word (zm5 k5_74) rfl) (hB.word (zm5 k5_75) rfl)) rfl rfl (by decide +kernel) ⟨Nat.le_of_ble_eq_true rfl, Nat.le_of_ble_eq_true rfl⟩) ⟨zP_blind, va_recv hK hP (ci := 7) (q0 := 0) rfl rfl, zP_pre hP hK hD hAD (zB_on hB hA0 hS)⟩ rfl rfl hl.1 rfl (lv_room (Nat.le_of_ble_eq_true rfl)) dMO_isEarlier_19 ⟨Nat.le_of_ble_eq_true rfl, Nat.le_of_ble_eq_true rfl⟩) hS hA (fun k3 H2 locs hk3 hz1 hk1 hS => ?_)
          have hP := zKeep hP hk1
          have E := zl_s E hk3.1
          refine z_if_le (tgt := 29) hx hb dMO_isEarlier_22 (by decide) E (fun c_22 E => ?_) (fun c_22 E => ?_)
          · have r_k3 : zr (-2147483648) 0 k3 := zle_x (zr_any k3) (show zr 0 0 0 from by decide) c_22 (by decide)
            refine lv_iconst (v := 0) hx hb dMO_isEarlier_29 (by decide) ?_
            exact hJ30 H2 locs ls x5_1 x5_2 x5_4 0 r_x5_2 r_x5_4 (show zr 0 1 0 from by decide) hm5 E hP hS (lv_sub hl [0, 1, 2, 4] rfl)
          · have r_k3 : zr 1 2147483647 k3 := zlt_y (show zr 0 0 0 from by decide) (zr_any k3) (znle c_22) (by decide)
            exact hJ25 H2 locs ls x5_1 x5_2 x5_4 r_x5_2 r_x5_4 hm5 E hP hS (lv_sub hl [0, 1, 2, 4] rfl)
  refine lv_iconst (v := 0) hx hb dMO_isEarlier_0 (by decide) ?_
  refine lv_istore_n (lv' := [(3, .int 0), (0, .ref (o 0)), (1, .int x0), (2, .int x1)]) hx hb dMO_isEarlier_1 rfl hl (by decide) rfl (fun ls hl => ?_)
  refine lv_iconst (v := 0) hx hb dMO_isEarlier_2 (by decide) ?_
  refine lv_istore (lv' := [(4, .int 0), (3, .int 0), (0, .ref (o 0)), (1, .int x0), (2, .int x1)]) hx hb dMO_isEarlier_3 hl (by decide) rfl (fun ls hl => ?_)
  exact hL5 6 s.heap [] ls x0 x1 0 0 r_x1 (show zr 0 1 0 from by decide) (show zr 0 5 0 from by decide) (Or.inl rfl) (Or.inl rfl) (by have h9 := (show zr 0 0 0 from by decide); exact zfuelU h9 (by decide)) E hP hS (lv_sub hl [2, 3, 4, 1, 0] rfl)
noncomputable def fMO_join_56 (P : ZS) (rc18 : ZS → Int32 → Int32 → Int32 → (ZS × Int32)) (S_56 : ZS) (x56_3 : Int32) (x56_4 : Int32) (x56_5 : Int32) (y56_0 : Int32) (y56_1 : Int32) : ZS × Int32 := zl (S_56.setF 33 (y56_1 : Int32).toNatClampNeg y56_0) (fun S1 => zl (x56_5 + 1) (fun k3 => rc18 S1 x56_3 x56_4 k3))
noncomputable def fMO_join_18 (P : ZS) (rc18 : ZS → Int32 → Int32 → Int32 → (ZS × Int32)) (S_18 : ZS) (x18_3 : Int32) (x18_4 : Int32) (x18_5 : Int32) : ZS × Int32 := zl (P.I 1) (fun k4 => (if k4 ≤ x18_5 then (if x18_3 = x18_4 then (S_18, 0) else (S_18, 1)) else zl (S_18.F 33 (x18_5 : Int32).toNatClampNeg) (fun k5 => (if k5 = x18_3 then fMO_join_56 P rc18 S_18 x18_3 x18_4 x18_5 x18_4 x18_5 else zl (S_18.F 33 (x18_5 : Int32).toNatClampNeg) (fun k6 => fMO_join_56 P rc18 S_18 x18_3 x18_4 x18_5 k5 x18_5)))))
noncomputable def fMO_join (P S : ZS) (x0 : Int32) (x1 : Int32) : ZS × Int32 := zl (S.F 33 (x0 : Int32).toNatClampNeg) (fun k7 => zl (S.F 33 (x1 : Int32).toNatClampNeg) (fun k8 => zfix (fun S9 _ _ _ => (S9, 0)) (fMO_join_18 P) 49 S k7 k8 0))
set_option maxHeartbeats 4000000 in
set_option maxRecDepth 100000 in
theorem tMO_join (l : Launch) (dC : Nat → ClassId) (dI : Nat → Nat → Nat) (cI cZ cJ cA : ClassId) (a0 : Array Value) (s0 : State) (o b : Nat → Nat) (P S : ZS) (sz : Nat) (x0 : Int32) (x1 : Int32) (gP : mok P) (gS : mok S) (r_x0 : zr 0 47 x0) (r_x1 : zr 0 47 x1) : Met l yMO_join [Cond.code yMO_join bMO_join 6 (some .boolean)] ({ frames := 0, cells := 0, slots := 0, locals := 0 } : Room) (zP zCl dC dI (zTZ cI cZ cJ cA) a0 s0 [.ref (o 0), .int x0, .int x1] sz (MW cI cZ cA o b P S)) (zQH zCl dC dI (fun (r : Int32) (x9 : ZS) => (x9, r) = fMO_join P S x0 x1 ∧ mok x9 ∧ zr 0 1 r) (fun x9 : ZS => (MW cI cZ cA o b P x9)) (va_A (MW cI cZ cA o b P S) sz)) 0 0 (va_A (MW cI cZ cA o b P S) sz) := by
  refine Met.ofW (cc := bMO_join) (maxL := 6) (ret := (some .boolean)) (by decide) rfl ?_
  intro p e s m args below meth c s₁ B hml hv
  obtain ⟨rfl, hsz, hP, hK, hD0, hB⟩ := hv
  have hx := B.exec
  have hb := B.bytes
  have hr := B.returns
  have hown : s.vm.findClass "RingGuardModel" = some m.cls := findClass_of_methodNamed B.named
  have hlocks := B.notSynchronized
  subst hsz
  have hD := hD0.self (sz := s.heap.size)
  have hA0 := zA0 hD0 hB
  generalize hAe : va_A (MW cI cZ cA o b P S) s.heap.size = A at hD hA0 ⊢
  have hAD := hA0
  have hA : ∀ q : Nat, s.heap.size ≤ q → A q := fun q h => by rw [← hAe]; exact Or.inr h
  have hS : va_S A s.heap s.heap [] := va_S.rf
  have hl := lv_entry ([.ref (o 0), .int x0, .int x1]) (n := 6) (Nat.le_of_ble_eq_true rfl)
  rw [lg_entry_eq]
  generalize (lg_sl ([.ref (o 0), .int x0, .int x1]) ++ List.replicate (6 - (lg_sl ([.ref (o 0), .int x0, .int x1])).length) Slot.unset).toArray = ls at hl ⊢
  have hl : lv_has ls 6 [(0, .ref (o 0)), (1, .int x0), (2, .int x1)] := hl
  refine zgenQ (fun Q hQe => ?_)
  obtain ⟨tg, etg⟩ : ∃ z, z = fMO_join P S x0 x1 := ⟨_, rfl⟩
  have E := etg
  unfold fMO_join at E
  have hL18 : ∀ (n18 : Nat) (H : Heap) (locs : List Loc) (ls : Array Slot) (S_18 : ZS) (x18_3 : Int32) (x18_4 : Int32) (x18_5 : Int32), zr 0 47 x18_3 → zr 0 47 x18_4 → zr 0 48 x18_5 → mok S_18 → 48 + 1 - x18_5.toInt ≤ (n18 : Int) → tg = zfix (fun S9 _ _ _ => (S9, 0)) (fMO_join_18 P) n18 S_18 x18_3 x18_4 x18_5 → va_P (dC, dI) zCl (MW cI cZ cA o b P S_18) H → va_D A (MW cI cZ cA o b P S_18) → va_S A s.heap H locs → lv_has ls 6 [(0, .ref (o 0)), (3, .int x18_3), (4, .int x18_4), (5, .int x18_5)] → W p l e ({ frames := 0, cells := 0, slots := 0, locals := 0 } : Room) s m ([.ref (o 0), .int x0, .int x1] : List Value).toArray below meth c H locs 0 0 Q (F0 m 18 ls []) := by
    intro n18
    induction n18 with
    | zero => intro H locs ls S_18 x18_3 x18_4 x18_5 r_x18_3 r_x18_4 r_x18_5 gS_18 hm18 E hP hD hS hl; exact absurd hm18 (zfuel0U r_x18_5)
    | succ n18 ih18 =>
      intro H locs ls S_18 x18_3 x18_4 x18_5 r_x18_3 r_x18_4 r_x18_5 gS_18 hm18 E hP hD hS hl
      rw [zfix_s] at E
      generalize zfix (fun S9 _ _ _ => (S9, 0)) (fMO_join_18 P) n18 = rc18 at ih18 E
      unfold fMO_join_18 at E
      have hJ56 : ∀ (H : Heap) (locs : List Loc) (ls : Array Slot) (S_56 : ZS) (x56_3 : Int32) (x56_4 : Int32) (x56_5 : Int32) (y56_0 : Int32) (y56_1 : Int32), zr 0 47 x56_3 → zr 0 47 x56_4 → zr 0 47 x56_5 → zr 0 47 y56_0 → zr 0 47 y56_1 → mok S_56 → 48 + 1 - x56_5.toInt ≤ ((n18 + 1 : Nat) : Int) → tg = fMO_join_56 P rc18 S_56 x56_3 x56_4 x56_5 y56_0 y56_1 → va_P (dC, dI) zCl (MW cI cZ cA o b P S_56) H → va_D A (MW cI cZ cA o b P S_56) → va_S A s.heap H locs → lv_has ls 6 [(0, .ref (o 0)), (3, .int x56_3), (4, .int x56_4), (5, .int x56_5)] → W p l e ({ frames := 0, cells := 0, slots := 0, locals := 0 } : Room) s m ([.ref (o 0), .int x0, .int x1] : List Value).toArray below meth c H locs 0 0 Q (F0 m 56 ls [.int y56_0, .int y56_1, .ref (b 33)]) := by
        intro H locs ls S_56 x56_3 x56_4 x56_5 y56_0 y56_1 r_x56_3 r_x56_4 r_x56_5 r_y56_0 r_y56_1 gS_56 hm18_56 E hP hD hS hl
        unfold fMO_join_56 at E
        refine m_astS hx hb hK hP hD hS 33 (by decide) rfl r_y56_1 (by decide) dMO_join_56 E (fun S1 H2 locs eS1 E hP hD hS => ?_)
        have gS1 : mok S1 := by rw [eS1]; exact gS_56.setF (k := 33) r_y56_0 (Or.inl (by decide))
        refine z_iinc (lv' := fun v9 => [(5, .int v9), (0, .ref (o 0)), (3, .int x56_3), (4, .int x56_4)]) (cst := 1) hx hb dMO_join_57 hl (k := 3) rfl (by decide) (by decide) (fun _ => rfl) E (fun k3 ls ek3 E hl => ?_)
        have r_k3 : zr 1 48 k3 := zr_add r_x56_5 (show zr 1 1 1 from by decide) ek3 (by decide)
        refine lv_goto (tgt := 18) hx hb dMO_join_60 (by decide) ?_
        exact ih18 H2 locs ls S1 x56_3 x56_4 k3 r_x56_3 r_x56_4 (zr_mono r_k3 (by decide)) gS1 (zstepU ek3 r_x56_5 (by decide) hm18_56) E hP hD hS (lv_sub hl [1, 2, 3, 0] rfl)
      refine lv_iload hx hb dMO_join_18 (lv_at hl 3 rfl) ?_
      refine lv_aload_n hx hb dMO_join_20 rfl (lv_at hl 0 rfl) ?_
      refine m_get_1 hx hb (hB.words zU_MO) hown hK hP (hB.word (zm4 k4_116) rfl) dMO_join_21 E (fun k4 ek4 E => ?_)
      have r_k4 : zr 0 48 k4 := by rw [ek4]; exact gP.2.1 1
      refine z_icmp_ge (tgt := 63) hx hb dMO_join_24 (by decide) E (fun c_24 E => ?_) (fun c_24 E => ?_)
      · refine lv_iload_n hx hb dMO_join_63 rfl (lv_at hl 1 rfl) ?_
        refine lv_iload hx hb dMO_join_64 (lv_at hl 2 rfl) ?_
        refine z_icmp_eq (tgt := 73) hx hb dMO_join_66 (by decide) E (fun c_66 E => ?_) (fun c_66 E => ?_)
        · refine lv_iconst (v := 0) hx hb dMO_join_73 (by decide) ?_
          rw [hQe]
          exact W.zret (v := 0) (ty := .boolean) hx hb hr (znar (show zr 0 1 0 from by decide)) (fun t ht hW => ⟨⟨0, S_18, rfl, ⟨E.symm.trans etg, gS_18, (show zr 0 1 0 from by decide)⟩, by rw [ht]; exact hP, hD⟩, hS.F ht⟩) hS.2.2 dMO_join_74
        · refine lv_iconst (v := 1) hx hb dMO_join_69 (by decide) ?_
          refine lv_goto (tgt := 74) hx hb dMO_join_70 (by decide) ?_
          rw [hQe]
          exact W.zret (v := 1) (ty := .boolean) hx hb hr (znar (show zr 0 1 1 from by decide)) (fun t ht hW => ⟨⟨1, S_18, rfl, ⟨E.symm.trans etg, gS_18, (show zr 0 1 1 from by decide)⟩, by rw [ht]; exact hP, hD⟩, hS.F ht⟩) hS.2.2 dMO_join_74
      · have r_x18_5 : zr 0 47 x18_5 := zlt_x r_x18_5 r_k4 (znle c_24) (by decide)
        have r_k4 : zr 1 48 k4 := zlt_y r_x18_5 r_k4 (znle c_24) (by decide)
        refine lv_aload_n hx hb dMO_join_27 rfl (lv_at hl 0 rfl) ?_
        refine m_getA_33 hx hb (hB.words zU_MO) hown hK hP (hB.word (zm4 k4_158) rfl) dMO_join_28 ?_
        refine lv_iload hx hb dMO_join_31 (lv_at hl 3 rfl) ?_
        refine lv_aload_n hx hb dMO_join_33 rfl (lv_at hl 0 rfl) ?_
        refine m_getA_33 hx hb (hB.words zU_MO) hown hK hP (hB.word (zm4 k4_158) rfl) dMO_join_34 ?_
        refine lv_iload hx hb dMO_join_37 (lv_at hl 3 rfl) ?_
        refine m_aldS hx hb hK hP 33 (by decide) rfl r_x18_5 (by decide) dMO_join_39 E (fun k5 ek5 E => ?_)
        have r_k5 : zr 0 47 k5 := by rw [ek5]; exact gS_18.1 33 _
        refine lv_iload_n hx hb dMO_join_40 rfl (lv_at hl 1 rfl) ?_
        refine z_icmp_ne (tgt := 49) hx hb dMO_join_41 (by decide) E (fun c_41 E => ?_) (fun c_41 E => ?_)
        · refine lv_aload_n hx hb dMO_join_49 rfl (lv_at hl 0 rfl) ?_
          refine m_getA_33 hx hb (hB.words zU_MO) hown hK hP (hB.word (zm4 k4_158) rfl) dMO_join_50 ?_
          refine lv_iload hx hb dMO_join_53 (lv_at hl 3 rfl) ?_
          refine m_aldS hx hb hK hP 33 (by decide) rfl r_x18_5 (by decide) dMO_join_55 E (fun k6 ek6 E => ?_)
          have x9 : k5 = k6 := by rw [ek5, ek6]
          subst x9
          exact hJ56 H locs ls S_18 x18_3 x18_4 x18_5 k5 x18_5 r_x18_3 r_x18_4 r_x18_5 r_k5 r_x18_5 gS_18 hm18 E hP hD hS (lv_sub hl [0, 1, 2, 3] rfl)
        · refine lv_iload hx hb dMO_join_44 (lv_at hl 2 rfl) ?_
          refine lv_goto (tgt := 56) hx hb dMO_join_46 (by decide) ?_
          exact hJ56 H locs ls S_18 x18_3 x18_4 x18_5 x18_4 x18_5 r_x18_3 r_x18_4 r_x18_5 r_x18_4 r_x18_5 gS_18 hm18 E hP hD hS (lv_sub hl [0, 1, 2, 3] rfl)
  refine lv_aload_n hx hb dMO_join_0 rfl (lv_at hl 0 rfl) ?_
  refine m_getA_33 hx hb (hB.words zU_MO) hown hK hP (hB.word (zm4 k4_158) rfl) dMO_join_1 ?_
  refine lv_iload_n hx hb dMO_join_4 rfl (lv_at hl 1 rfl) ?_
  refine m_aldS hx hb hK hP 33 (by decide) rfl r_x0 (by decide) dMO_join_5 E (fun k7 ek7 E => ?_)
  have r_k7 : zr 0 47 k7 := by rw [ek7]; exact gS.1 33 _
  refine lv_istore_n (lv' := [(3, .int k7), (0, .ref (o 0)), (1, .int x0), (2, .int x1)]) hx hb dMO_join_6 rfl hl (by decide) rfl (fun ls hl => ?_)
  refine lv_aload_n hx hb dMO_join_7 rfl (lv_at hl 1 rfl) ?_
  refine m_getA_33 hx hb (hB.words zU_MO) hown hK hP (hB.word (zm4 k4_158) rfl) dMO_join_8 ?_
  refine lv_iload_n hx hb dMO_join_11 rfl (lv_at hl 3 rfl) ?_
  refine m_aldS hx hb hK hP 33 (by decide) rfl r_x1 (by decide) dMO_join_12 E (fun k8 ek8 E => ?_)
  have r_k8 : zr 0 47 k8 := by rw [ek8]; exact gS.1 33 _
  refine lv_istore (lv' := [(4, .int k8), (3, .int k7), (0, .ref (o 0)), (1, .int x0), (2, .int x1)]) hx hb dMO_join_13 hl (by decide) rfl (fun ls hl => ?_)
  refine lv_iconst (v := 0) hx hb dMO_join_15 (by decide) ?_
  refine lv_istore (lv' := [(5, .int 0), (4, .int k8), (3, .int k7), (0, .ref (o 0)), (1, .int x0), (2, .int x1)]) hx hb dMO_join_16 hl (by decide) rfl (fun ls hl => ?_)
  exact hL18 49 s.heap [] ls S k7 k8 0 r_k7 r_k8 (show zr 0 48 0 from by decide) gS (by have h9 := (show zr 0 0 0 from by decide); exact zfuelU h9 (by decide)) E hP hD hS (lv_sub hl [3, 2, 1, 0] rfl)
noncomputable def fMO_isOne_100 (P : ZS) (rc60 : ZS → Int32 → Int32 → Int32 → (ZS × Int32)) (S_100 : ZS) (x100_1 : Int32) (x100_2 : Int32) (x100_3 : Int32) : ZS × Int32 := zl (x100_3 + 1) (fun k1 => rc60 S_100 x100_1 x100_2 k1)
noncomputable def fMO_isOne_60 (P : ZS) (rc60 : ZS → Int32 → Int32 → Int32 → (ZS × Int32)) (S_60 : ZS) (x60_1 : Int32) (x60_2 : Int32) (x60_3 : Int32) : ZS × Int32 := zl (P.I 2) (fun k2 => (if k2 ≤ x60_3 then (if x60_2 = 1 then (S_60, 1) else (S_60, 0)) else zl (P.F 2 (x60_3 : Int32).toNatClampNeg) (fun k3 => (if k3 = x60_1 then zl (P.F 0 (x60_3 : Int32).toNatClampNeg) (fun k4 => zl (P.F 1 (x60_3 : Int32).toNatClampNeg) (fun k5 => zl2 (fMO_join P S_60 k4 k5) (fun S8 k7 => (if k7 = 0 then fMO_isOne_100 P rc60 S8 x60_1 x60_2 x60_3 else zl (x60_2 + (-1)) (fun k10 => fMO_isOne_100 P rc60 S8 x60_1 k10 x60_3))))) else fMO_isOne_100 P rc60 S_60 x60_1 x60_2 x60_3))))
noncomputable def fMO_isOne_50 (P : ZS) (rc27 : ZS → Int32 → Int32 → Int32 → (ZS × Int32)) (S_50 : ZS) (x50_1 : Int32) (x50_3 : Int32) (y50_0 : Int32) (y50_1 : Int32) : ZS × Int32 := zl (y50_1 + y50_0) (fun k11 => zl (x50_3 + 1) (fun k12 => rc27 S_50 x50_1 k11 k12))
noncomputable def fMO_isOne_27 (P : ZS) (rc27 : ZS → Int32 → Int32 → Int32 → (ZS × Int32)) (S_27 : ZS) (x27_1 : Int32) (x27_2 : Int32) (x27_3 : Int32) : ZS × Int32 := zl (P.I 1) (fun k13 => (if k13 ≤ x27_3 then zfix (fun S9 _ _ _ => (S9, 0)) (fMO_isOne_60 P) 61 S_27 x27_1 x27_2 0 else zl (fMO_degreeIn P S_27 x27_3 x27_1) (fun k15 => (if k15 ≤ 0 then fMO_isOne_50 P rc27 S_27 x27_1 x27_3 0 x27_2 else fMO_isOne_50 P rc27 S_27 x27_1 x27_3 1 x27_2))))
noncomputable def fMO_isOne_2 (P : ZS) (rc2 : ZS → Int32 → Int32 → (ZS × Int32)) (S_2 : ZS) (x2_1 : Int32) (x2_2 : Int32) : ZS × Int32 := zl (P.I 1) (fun k16 => (if k16 ≤ x2_2 then zfix (fun S9 _ _ _ => (S9, 0)) (fMO_isOne_27 P) 49 S_2 x2_1 0 0 else zl (S_2.setF 33 (x2_2 : Int32).toNatClampNeg x2_2) (fun S17 => zl (x2_2 + 1) (fun k19 => rc2 S17 x2_1 k19))))
noncomputable def fMO_isOne (P S : ZS) (x0 : Int32) : ZS × Int32 := zfix (fun S9 _ _ => (S9, 0)) (fMO_isOne_2 P) 49 S x0 0
set_option maxHeartbeats 4000000 in
set_option maxRecDepth 100000 in
theorem tMO_isOne (l : Launch) (dC : Nat → ClassId) (dI : Nat → Nat → Nat) (cI cZ cJ cA : ClassId) (a0 : Array Value) (s0 : State) (o b : Nat → Nat) (P S : ZS) (sz : Nat) (x0 : Int32) (gP : mok P) (gS : mok S) : Met l yMO_isOne [Cond.code yMO_isOne bMO_isOne 4 (some .boolean)] ({ frames := 2, cells := 0, slots := 0, locals := 46 } : Room) (zP zCl dC dI (zTZ cI cZ cJ cA) a0 s0 [.ref (o 0), .int x0] sz (MW cI cZ cA o b P S)) (zQH zCl dC dI (fun (r : Int32) (x9 : ZS) => (x9, r) = fMO_isOne P S x0 ∧ mok x9 ∧ zr 0 1 r) (fun x9 : ZS => (MW cI cZ cA o b P x9)) (va_A (MW cI cZ cA o b P S) sz)) 0 0 (va_A (MW cI cZ cA o b P S) sz) := by
  refine Met.ofW (cc := bMO_isOne) (maxL := 4) (ret := (some .boolean)) (by decide) rfl ?_
  intro p e s m args below meth c s₁ B hml hv
  obtain ⟨rfl, hsz, hP, hK, hD0, hB⟩ := hv
  have hx := B.exec
  have hb := B.bytes
  have hr := B.returns
  have hown : s.vm.findClass "RingGuardModel" = some m.cls := findClass_of_methodNamed B.named
  have hlocks := B.notSynchronized
  subst hsz
  have hD := hD0.self (sz := s.heap.size)
  have hA0 := zA0 hD0 hB
  generalize hAe : va_A (MW cI cZ cA o b P S) s.heap.size = A at hD hA0 ⊢
  have hAD := hA0
  have hA : ∀ q : Nat, s.heap.size ≤ q → A q := fun q h => by rw [← hAe]; exact Or.inr h
  have hS : va_S A s.heap s.heap [] := va_S.rf
  have hl := lv_entry ([.ref (o 0), .int x0]) (n := 4) (Nat.le_of_ble_eq_true rfl)
  rw [lg_entry_eq]
  generalize (lg_sl ([.ref (o 0), .int x0]) ++ List.replicate (4 - (lg_sl ([.ref (o 0), .int x0])).length) Slot.unset).toArray = ls at hl ⊢
  have hl : lv_has ls 4 [(0, .ref (o 0)), (1, .int x0)] := hl
  refine zgenQ (fun Q hQe => ?_)
  obtain ⟨tg, etg⟩ : ∃ z, z = fMO_isOne P S x0 := ⟨_, rfl⟩
  have E := etg
  unfold fMO_isOne at E
  have hL2 : ∀ (n2 : Nat) (H : Heap) (locs : List Loc) (ls : Array Slot) (S_2 : ZS) (x2_1 : Int32) (x2_2 : Int32), zr 0 48 x2_2 → mok S_2 → 48 + 1 - x2_2.toInt ≤ (n2 : Int) → tg = zfix (fun S9 _ _ => (S9, 0)) (fMO_isOne_2 P) n2 S_2 x2_1 x2_2 → va_P (dC, dI) zCl (MW cI cZ cA o b P S_2) H → va_D A (MW cI cZ cA o b P S_2) → va_S A s.heap H locs → lv_has ls 4 [(0, .ref (o 0)), (1, .int x2_1), (2, .int x2_2)] → W p l e ({ frames := 2, cells := 0, slots := 0, locals := 46 } : Room) s m ([.ref (o 0), .int x0] : List Value).toArray below meth c H locs 0 0 Q (F0 m 2 ls []) := by
    intro n2
    induction n2 with
    | zero => intro H locs ls S_2 x2_1 x2_2 r_x2_2 gS_2 hm2 E hP hD hS hl; exact absurd hm2 (zfuel0U r_x2_2)
    | succ n2 ih2 =>
      intro H locs ls S_2 x2_1 x2_2 r_x2_2 gS_2 hm2 E hP hD hS hl
      rw [zfix_s] at E
      generalize zfix (fun S9 _ _ => (S9, 0)) (fMO_isOne_2 P) n2 = rc2 at ih2 E
      unfold fMO_isOne_2 at E
      have hL27 : ∀ (n27 : Nat) (H : Heap) (locs : List Loc) (ls : Array Slot) (S_27 : ZS) (x27_1 : Int32) (x27_2 : Int32) (x27_3 : Int32), zr 0 48 x27_3 → mok S_27 → 48 + 1 - x27_3.toInt ≤ (n27 : Int) → tg = zfix (fun S9 _ _ _ => (S9, 0)) (fMO_isOne_27 P) n27 S_27 x27_1 x27_2 x27_3 → va_P (dC, dI) zCl (MW cI cZ cA o b P S_27) H → va_D A (MW cI cZ cA o b P S_27) → va_S A s.heap H locs → lv_has ls 4 [(0, .ref (o 0)), (1, .int x27_1), (2, .int x27_2), (3, .int x27_3)] → W p l e ({ frames := 2, cells := 0, slots := 0, locals := 46 } : Room) s m ([.ref (o 0), .int x0] : List Value).toArray below meth c H locs 0 0 Q (F0 m 27 ls []) := by
        intro n27
        induction n27 with
        | zero => intro H locs ls S_27 x27_1 x27_2 x27_3 r_x27_3 gS_27 hm27 E hP hD hS hl; exact absurd hm27 (zfuel0U r_x27_3)
        | succ n27 ih27 =>
          intro H locs ls S_27 x27_1 x27_2 x27_3 r_x27_3 gS_27 hm27 E hP hD hS hl
          rw [zfix_s] at E
          generalize zfix (fun S9 _ _ _ => (S9, 0)) (fMO_isOne_27 P) n27 = rc27 at ih27 E
          unfold fMO_isOne_27 at E
          have hL60 : ∀ (n60 : Nat) (H : Heap) (locs : List Loc) (ls : Array Slot) (S_60 : ZS) (x60_1 : Int32) (x60_2 : Int32) (x60_3 : Int32), zr 0 60 x60_3 → mok S_60 → 60 + 1 - x60_3.toInt ≤ (n60 : Int) → tg = zfix (fun S9 _ _ _ => (S9, 0)) (fMO_isOne_60 P) n60 S_60 x60_1 x60_2 x60_3 → va_P (dC, dI) zCl (MW cI cZ cA o b P S_60) H → va_D A (MW cI cZ cA o b P S_60) → va_S A s.heap H locs → lv_has ls 4 [(0, .ref (o 0)), (1, .int x60_1), (2, .int x60_2), (3, .int x60_3)] → W p l e ({ frames := 2, cells := 0, slots := 0, locals := 46 } : Room) s m ([.ref (o 0), .int x0] : List Value).toArray below meth c H locs 0 0 Q (F0 m 60 ls []) := by
            intro n60
            induction n60 with
            | zero => intro H locs ls S_60 x60_1 x60_2 x60_3 r_x60_3 gS_60 hm60 E hP hD hS hl; exact absurd hm60 (zfuel0U r_x60_3)
            | succ n60 ih60 =>
              intro H locs ls S_60 x60_1 x60_2 x60_3 r_x60_3 gS_60 hm60 E hP hD hS hl
              rw [zfix_s] at E
              generalize zfix (fun S9 _ _ _ => (S9, 0)) (fMO_isOne_60 P) n60 = rc60 at ih60 E
              unfold fMO_isOne_60 at E
              have hJ100 : ∀ (H : Heap) (locs : List Loc) (ls : Array Slot) (S_100 : ZS) (x100_1 : Int32) (x100_2 : Int32) (x100_3 : Int32), zr 0 59 x100_3 → mok S_100 → 60 + 1 - x100_3.toInt ≤ ((n60 + 1 : Nat) : Int) → tg = fMO_isOne_100 P rc60 S_100 x100_1 x100_2 x100_3 → va_P (dC, dI) zCl (MW cI cZ cA o b P S_100) H → va_D A (MW cI cZ cA o b P S_100) → va_S A s.heap H locs → lv_has ls 4 [(0, .ref (o 0)), (1, .int x100_1), (2, .int x100_2), (3, .int x100_3)] → W p l e ({ frames := 2, cells := 0, slots := 0, locals := 46 } : Room) s m ([.ref (o 0), .int x0] : List Value).toArray below meth c H locs 0 0 Q (F0 m 100 ls []) := by
                intro H locs ls S_100 x100_1 x100_2 x100_3 r_x100_3 gS_100 hm60_100 E hP hD hS hl
                unfold fMO_isOne_100 at E
                refine z_iinc (lv' := fun v9 => [(3, .int v9), (0, .ref (o 0)), (1, .int x100_1), (2, .int x100_2)]) (cst := 1) hx hb dMO_isOne_100 hl (k := 3) rfl (by decide) (by decide) (fun _ => rfl) E (fun k1 ls ek1 E hl => ?_)
                have r_k1 : zr 1 60 k1 := zr_add r_x100_3 (show zr 1 1 1 from by decide) ek1 (by decide)
                refine lv_goto (tgt := 60) hx hb dMO_isOne_103 (by decide) ?_
                exact ih60 H locs ls S_100 x100_1 x100_2 k1 (zr_mono r_k1 (by decide)) gS_100 (zstepU ek1 r_x100_3 (by decide) hm60_100) E hP hD hS (lv_sub hl [1, 2, 3, 0] rfl)
              refine lv_iload_n hx hb dMO_isOne_60 rfl (lv_at hl 3 rfl) ?_
              refine lv_aload_n hx hb dMO_isOne_61 rfl (lv_at hl 0 rfl) ?_
              refine m_get_2 hx hb (hB.words zU_MO) hown hK hP (hB.word (zm4 k4_117) rfl) dMO_isOne_62 E (fun k2 ek2 E => ?_)
              have r_k2 : zr 0 60 k2 := by rw [ek2]; exact gP.2.1 2
              refine z_icmp_ge (tgt := 106) hx hb dMO_isOne_65 (by decide) E (fun c_65 E => ?_) (fun c_65 E => ?_)
              · refine lv_iload_n hx hb dMO_isOne_106 rfl (lv_at hl 2 rfl) ?_
                refine lv_iconst (v := 1) hx hb dMO_isOne_107 (by decide) ?_
                refine z_icmp_ne (tgt := 115) hx hb dMO_isOne_108 (by decide) E (fun c_108 E => ?_) (fun c_108 E => ?_)
                · refine lv_iconst (v := 0) hx hb dMO_isOne_115 (by decide) ?_
                  rw [hQe]
                  exact W.zret (v := 0) (ty := .boolean) hx hb hr (znar (show zr 0 1 0 from by decide)) (fun t ht hW => ⟨⟨0, S_60, rfl, ⟨E.symm.trans etg, gS_60, (show zr 0 1 0 from by decide)⟩, by rw [ht]; exact hP, hD⟩, hS.F ht⟩) hS.2.2 dMO_isOne_116
                · have r_x60_2 : zr 1 1 x60_2 := zeq_x (show zr 1 1 1 from by decide) c_108
                  refine lv_iconst (v := 1) hx hb dMO_isOne_111 (by decide) ?_
                  refine lv_goto (tgt := 116) hx hb dMO_isOne_112 (by decide) ?_
                  rw [hQe]
                  exact W.zret (v := 1) (ty := .boolean) hx hb hr (znar (show zr 0 1 1 from by decide)) (fun t ht hW => ⟨⟨1, S_60, rfl, ⟨E.symm.trans etg, gS_60, (show zr 0 1 1 from by decide)⟩, by rw [ht]; exact hP, hD⟩, hS.F ht⟩) hS.2.2 dMO_isOne_116
              · have r_x60_3 : zr 0 59 x60_3 := zlt_x r_x60_3 r_k2 (znle c_65) (by decide)
                have r_k2 : zr 1 60 k2 := zlt_y r_x60_3 r_k2 (znle c_65) (by decide)
                refine lv_aload_n hx hb dMO_isOne_68 rfl (lv_at hl 0 rfl) ?_
                refine m_getA_2 hx hb (hB.words zU_MO) hown hK hP (hB.word (zm4 k4_120) rfl) dMO_isOne_69 ?_
                refine lv_iload_n hx hb dMO_isOne_72 rfl (lv_at hl 3 rfl) ?_
                refine m_aldP hx hb hK hP 2 (by decide) rfl r_x60_3 (by decide) dMO_isOne_73 E (fun k3 ek3 E => ?_)
                have r_k3 : zr 0 5 k3 := by rw [ek3]; exact gP.1 2 _
                refine lv_iload_n hx hb dMO_isOne_74 rfl (lv_at hl 1 rfl) ?_
                refine z_icmp_ne (tgt := 100) hx hb dMO_isOne_75 (by decide) E (fun c_75 E => ?_) (fun c_75 E => ?_)
                · exact hJ100 H locs ls S_60 x60_1 x60_2 x60_3 r_x60_3 gS_60 hm60 E hP hD hS (lv_sub hl [0, 1, 2, 3] rfl)
                · have r_x60_1 : zr 0 5 x60_1 := zeq_x r_k3 c_75.symm
                  refine lv_aload_n hx hb dMO_isOne_78 rfl (lv_at hl 0 rfl) ?_
                  refine lv_aload_n hx hb dMO_isOne_79 rfl (lv_at hl 0 rfl) ?_
                  refine m_getA_0 hx hb (hB.words zU_MO) hown hK hP (hB.word (zm4 k4_118) rfl) dMO_isOne_80 ?_
                  refine lv_iload_n hx hb dMO_isOne_83 rfl (lv_at hl 3 rfl) ?_
                  refine m_aldP hx hb hK hP 0 (by decide) rfl r_x60_3 (by decide) dMO_isOne_84 E (fun k4 ek4 E => ?_)
                  have r_k4 : zr 0 47 k4 := by rw [ek4]; exact gP.1 0 _
                  refine lv_aload_n hx hb dMO_isOne_85 rfl (lv_at hl 0 rfl) ?_
                  refine m_getA_1 hx hb (hB.words zU_MO) hown hK hP (hB.word (zm4 k4_119) rfl) dMO_isOne_86 ?_
                  refine lv_iload_n hx hb dMO_isOne_89 rfl (lv_at hl 3 rfl) ?_
                  refine m_aldP hx hb hK hP 1 (by decide) rfl r_x60_3 (by decide) dMO_isOne_90 E (fun k5 ek5 E => ?_)
                  have r_k5 : zr 0 47 k5 := by rw [ek5]; exact gP.1 1 _
                  refine zcI (va_runV (As := [.int k4, .int k5]) (rest := []) ⟨hx, hb, hml, hown, zno⟩ (tMO_join l dC dI cI cZ cJ cA a0 s0 o b P S_60 H.size k4 k5 gP gS_60 r_k4 r_k5) (zcw 2 (hB.word (zm5 k5_100) rfl) (hB.word (zm1 k1_9) rfl) (hB.word (zm5 k5_97) rfl) (hB.word (zm5 k5_99) rfl) (k2_selects_private (by decide) (hB.word (zm4 k4_109) rfl) (hB.word (zm5 k5_98) rfl) (hB.word (zm5 k5_99) rfl)) rfl rfl (by decide +kernel) ⟨Nat.le_of_ble_eq_true rfl, Nat.le_of_ble_eq_true rfl⟩) ⟨zP_blind, va_recv hK hP (ci := 7) (q0 := 0) rfl rfl, zP_pre hP hK hD hAD (zB_on hB hA0 hS)⟩ rfl rfl hl.1 rfl (lv_room (Nat.le_of_ble_eq_true rfl)) dMO_isOne_91 ⟨Nat.le_of_ble_eq_true rfl, Nat.le_of_ble_eq_true rfl⟩) hD hS hA (fun k7 S8 H6 locs h9 hP hD hS => ?_)
                  have E := zl2_s E h9.1
                  have gS8 := h9.2.1
                  refine z_if_eq (tgt := 100) hx hb dMO_isOne_94 (by decide) E (fun c_94 E => ?_) (fun c_94 E => ?_)
                  · have r_k7 : zr 0 0 k7 := zeq_x (show zr 0 0 0 from by decide) c_94
                    exact hJ100 H6 locs ls S8 x60_1 x60_2 x60_3 r_x60_3 gS8 hm60 E hP hD hS (lv_sub hl [0, 1, 2, 3] rfl)
                  · have r_k7 : zr 1 1 k7 := zne_lo h9.2.2 c_94 (by decide)
                    refine z_iinc (lv' := fun v9 => [(2, .int v9), (0, .ref (o 0)), (1, .int x60_1), (3, .int x60_3)]) (cst := (-1)) hx hb dMO_isOne_97 hl (k := 2) rfl (by decide) (by decide) (fun _ => rfl) E (fun k10 ls ek10 E hl => ?_)
                    exact hJ100 H6 locs ls S8 x60_1 k10 x60_3 r_x60_3 gS8 hm60 E hP hD hS (lv_sub hl [1, 2, 0, 3] rfl)
          have hJ50 : ∀ (H : Heap) (locs : List Loc) (ls : Array Slot) (S_50 : ZS) (x50_1 : Int32) (x50_3 : Int32) (y50_0 : Int32) (y50_1 : Int32), zr 0 47 x50_3 → zr 0 1 y50_0 → mok S_50 → 48 + 1 - x50_3.toInt ≤ ((n27 + 1 : Nat) : Int) → tg = fMO_isOne_50 P rc27 S_50 x50_1 x50_3 y50_0 y50_1 → va_P (dC, dI) zCl (MW cI cZ cA o b P S_50) H → va_D A (MW cI cZ cA o b P S_50) → va_S A s.heap H locs → lv_has ls 4 [(0, .ref (o 0)), (1, .int x50_1), (3, .int x50_3)] → W p l e ({ frames := 2, cells := 0, slots := 0, locals := 46 } : Room) s m ([.ref (o 0), .int x0] : List Value).toArray below meth c H locs 0 0 Q (F0 m 50 ls [.int y50_0, .int y50_1]) := by
            intro H locs ls S_50 x50_1 x50_3 y50_0 y50_1 r_x50_3 r_y50_0 gS_50 hm27_50 E hP hD hS hl
            unfold fMO_isOne_50 at E
            refine z_iadd hx hb dMO_isOne_50 E (fun k11 ek11 E => ?_)
            refine lv_istore_n (lv' := [(2, .int k11), (0, .ref (o 0)), (1, .int x50_1), (3, .int x50_3)]) hx hb dMO_isOne_51 rfl hl (by decide) rfl (fun ls hl => ?_)
            refine z_iinc (lv' := fun v9 => [(3, .int v9), (2, .int k11), (0, .ref (o 0)), (1, .int x50_1)]) (cst := 1) hx hb dMO_isOne_52 hl (k := 3) rfl (by decide) (by decide) (fun _ => rfl) E (fun k12 ls ek12 E hl => ?_)
            have r_k12 : zr 1 48 k12 := zr_add r_x50_3 (show zr 1 1 1 from by decide) ek12 (by decide)
            refine lv_goto (tgt := 27) hx hb dMO_isOne_55 (by decide) ?_
            exact ih27 H locs ls S_50 x50_1 k11 k12 (zr_mono r_k12 (by decide)) gS_50 (zstepU ek12 r_x50_3 (by decide) hm27_50) E hP hD hS (lv_sub hl [2, 3, 1, 0] rfl)
          refine lv_iload_n hx hb dMO_isOne_27 rfl (lv_at hl 3 rfl) ?_
          refine lv_aload_n hx hb dMO_isOne_28 rfl (lv_at hl 0 rfl) ?_
          refine m_get_1 hx hb (hB.words zU_MO) hown hK hP (hB.word (zm4 k4_116) rfl) dMO_isOne_29 E (fun k13 ek13 E => ?_)
          have r_k13 : zr 0 48 k13 := by rw [ek13]; exact gP.2.1 1
          refine z_icmp_ge (tgt := 58) hx hb dMO_isOne_32 (by decide) E (fun c_32 E => ?_) (fun c_32 E => ?_)
          · refine lv_iconst (v := 0) hx hb dMO_isOne_58 (by decide) ?_
            refine lv_istore_n (lv' := [(3, .int 0), (0, .ref (o 0)), (1, .int x27_1), (2, .int x27_2)]) hx hb dMO_isOne_59 rfl hl (by decide) rfl (fun ls hl => ?_)
            exact hL60 61 H locs ls S_27 x27_1 x27_2 0 (show zr 0 60 0 from by decide) gS_27 (by have h9 := (show zr 0 0 0 from by decide); exact zfuelU h9 (by decide)) E hP hD hS (lv_sub hl [1, 2, 3, 0] rfl)
          · have r_x27_3 : zr 0 47 x27_3 := zlt_x r_x27_3 r_k13 (znle c_32) (by decide)
            have r_k13 : zr 1 48 k13 := zlt_y r_x27_3 r_k13 (znle c_32) (by decide)
            refine lv_iload_n hx hb dMO_isOne_35 rfl (lv_at hl 2 rfl) ?_
            refine lv_aload_n hx hb dMO_isOne_36 rfl (lv_at hl 0 rfl) ?_
            refine lv_iload_n hx hb dMO_isOne_37 rfl (lv_at hl 3 rfl) ?_
            refine lv_iload_n hx hb dMO_isOne_38 rfl (lv_at hl 1 rfl) ?_
            refine zcallp (va_runV (As := [.int x27_3, .int x27_1]) (rest := [.int x27_2]) ⟨hx, hb, hml, hown, zno⟩ (tMO_degreeIn l dC dI cI cZ cJ cA a0 s0 o b P S_27 H.size x27_3 x27_1 gP gS_27) (zcw 2 (hB.word (zm5 k5_76) rfl) (hB.word (zm1 k1_9) rfl) (hB.word (zm5 k5_73) rfl) (hB.word (zm5 k5_75) rfl) (k2_selects_private (by decide) (hB.word (zm4 k4_109) rfl) (hB.word (zm5 k5_74) rfl) (hB.word (zm5 k5_75) rfl)) rfl rfl (by decide +kernel) ⟨Nat.le_of_ble_eq_true rfl, Nat.le_of_ble_eq_true rfl⟩) ⟨zP_blind, va_recv hK hP (ci := 7) (q0 := 0) rfl rfl, zP_pre hP hK hD hAD (zB_on hB hA0 hS)⟩ rfl rfl hl.1 rfl (lv_room (Nat.le_of_ble_eq_true rfl)) dMO_isOne_39 ⟨Nat.le_of_ble_eq_true rfl, Nat.le_of_ble_eq_true rfl⟩) hS hA (fun k15 H14 locs hk15 hz1 hk1 hS => ?_)
            have hP := zKeep hP hk1
            have E := zl_s E hk15.1
            refine z_if_le (tgt := 49) hx hb dMO_isOne_42 (by decide) E (fun c_42 E => ?_) (fun c_42 E => ?_)
            · have r_k15 : zr (-2147483648) 0 k15 := zle_x (zr_any k15) (show zr 0 0 0 from by decide) c_42 (by decide)
              refine lv_iconst (v := 0) hx hb dMO_isOne_49 (by decide) ?_
              exact hJ50 H14 locs ls S_27 x27_1 x27_3 0 x27_2 r_x27_3 (show zr 0 1 0 from by decide) gS_27 hm27 E hP hD hS (lv_sub hl [0, 1, 3] rfl)
            · have r_k15 : zr 1 2147483647 k15 := zlt_y (show zr 0 0 0 from by decide) (zr_any k15) (znle c_42) (by decide)
              refine lv_iconst (v := 1) hx hb dMO_isOne_45 (by decide) ?_
              refine lv_goto (tgt := 50) hx hb dMO_isOne_46 (by decide) ?_
              exact hJ50 H14 locs ls S_27 x27_1 x27_3 1 x27_2 r_x27_3 (show zr 0 1 1 from by decide) gS_27 hm27 E hP hD hS (lv_sub hl [0, 1, 3] rfl)
      refine lv_iload_n hx hb dMO_isOne_2 rfl (lv_at hl 2 rfl) ?_
      refine lv_aload_n hx hb dMO_isOne_3 rfl (lv_at hl 0 rfl) ?_
      refine m_get_1 hx hb (hB.words zU_MO) hown hK hP (hB.word (zm4 k4_116) rfl) dMO_isOne_4 E (fun k16 ek16 E => ?_)
      have r_k16 : zr 0 48 k16 := by rw [ek16]; exact gP.2.1 1
      refine z_icmp_ge (tgt := 23) hx hb dMO_isOne_7 (by decide) E (fun c_7 E => ?_) (fun c_7 E => ?_)
      · refine lv_iconst (v := 0) hx hb dMO_isOne_23 (by decide) ?_
        refine lv_istore_n (lv' := [(2, .int 0), (0, .ref (o 0)), (1, .int x2_1)]) hx hb dMO_isOne_24 rfl hl (by decide) rfl (fun ls hl => ?_)
        refine lv_iconst (v := 0) hx hb dMO_isOne_25 (by decide) ?_
        refine lv_istore_n (lv' := [(3, .int 0), (2, .int 0), (0, .ref (o 0)), (1, .int x2_1)]) hx hb dMO_isOne_26 rfl hl (by decide) rfl (fun ls hl => ?_)
        exact hL27 49 H locs ls S_2 x2_1 0 0 (show zr 0 48 0 from by decide) gS_2 (by have h9 := (show zr 0 0 0 from by decide); exact zfuelU h9 (by decide)) E hP hD hS (lv_sub hl [2, 3, 1, 0] rfl)
      · have r_x2_2 : zr 0 47 x2_2 := zlt_x r_x2_2 r_k16 (znle c_7) (by decide)
        have r_k16 : zr 1 48 k16 := zlt_y r_x2_2 r_k16 (znle c_7) (by decide)
        refine lv_aload_n hx hb dMO_isOne_10 rfl (lv_at hl 0 rfl) ?_
        refine m_getA_33 hx hb (hB.words zU_MO) hown hK hP (hB.word (zm4 k4_158) rfl) dMO_isOne_11 ?_
        refine lv_iload_n hx hb dMO_isOne_14 rfl (lv_at hl 2 rfl) ?_
        refine lv_iload_n hx hb dMO_isOne_15 rfl (lv_at hl 2 rfl) ?_
        refine m_astS hx hb hK hP hD hS 33 (by decide) rfl r_x2_2 (by decide) dMO_isOne_16 E (fun S17 H18 locs eS17 E hP hD hS => ?_)
        have gS17 : mok S17 := by rw [eS17]; exact gS_2.setF (k := 33) r_x2_2 (Or.inl (by decide))
        refine z_iinc (lv' := fun v9 => [(2, .int v9), (0, .ref (o 0)), (1, .int x2_1)]) (cst := 1) hx hb dMO_isOne_17 hl (k := 2) rfl (by decide) (by decide) (fun _ => rfl) E (fun k19 ls ek19 E hl => ?_)
        have r_k19 : zr 1 48 k19 := zr_add r_x2_2 (show zr 1 1 1 from by decide) ek19 (by decide)
        refine lv_goto (tgt := 2) hx hb dMO_isOne_20 (by decide) ?_
        exact ih2 H18 locs ls S17 x2_1 k19 (zr_mono r_k19 (by decide)) gS17 (zstepU ek19 r_x2_2 (by decide) hm2) E hP hD hS (lv_sub hl [1, 2, 0] rfl)
  refine lv_iconst (v := 0) hx hb dMO_isOne_0 (by decide) ?_
  refine lv_istore_n (lv' := [(2, .int 0), (0, .ref (o 0)), (1, .int x0)]) hx hb dMO_isOne_1 rfl hl (by decide) rfl (fun ls hl => ?_)
  exact hL2 49 s.heap [] ls S x0 0 (show zr 0 48 0 from by decide) gS (by have h9 := (show zr 0 0 0 from by decide); exact zfuelU h9 (by decide)) E hP hD hS (lv_sub hl [1, 2, 0] rfl)
noncomputable def fMO_isHung_85 (P : ZS) (S : ZS) (rc4 : Int32 → Int32 → Int32 → (Int32)) (x85_1 : Int32) (x85_3 : Int32) (y85_0 : Int32) : Int32 := zl (x85_3 + 1) (fun k1 => rc4 x85_1 y85_0 k1)
noncomputable def fMO_isHung_80 (P : ZS) (S : ZS) (rc4 : Int32 → Int32 → Int32 → (Int32)) (x80_1 : Int32) (x80_3 : Int32) : Int32 := fMO_isHung_85 P S rc4 x80_1 x80_3 1
noncomputable def fMO_isHung_84 (P : ZS) (S : ZS) (rc4 : Int32 → Int32 → Int32 → (Int32)) (x84_1 : Int32) (x84_3 : Int32) : Int32 := fMO_isHung_85 P S rc4 x84_1 x84_3 0
noncomputable def fMO_isHung_52 (P : ZS) (S : ZS) (rc4 : Int32 → Int32 → Int32 → (Int32)) (rc15 : Int32 → Int32 → Int32 → Int32 → Int32 → (Int32)) (x52_1 : Int32) (x52_2 : Int32) (x52_3 : Int32) (x52_5 : Int32) (y52_0 : Int32) (y52_1 : Int32) : Int32 := zl (y52_1 + y52_0) (fun k2 => zl (x52_5 + 1) (fun k3 => rc15 x52_1 x52_2 x52_3 k2 k3))
noncomputable def fMO_isHung_51 (P : ZS) (S : ZS) (rc4 : Int32 → Int32 → Int32 → (Int32)) (rc15 : Int32 → Int32 → Int32 → Int32 → Int32 → (Int32)) (x51_1 : Int32) (x51_2 : Int32) (x51_3 : Int32) (x51_5 : Int32) (y51_0 : Int32) : Int32 := fMO_isHung_52 P S rc4 rc15 x51_1 x51_2 x51_3 x51_5 0 y51_0
noncomputable def fMO_isHung_15 (P : ZS) (S : ZS) (rc4 : Int32 → Int32 → Int32 → (Int32)) (rc15 : Int32 → Int32 → Int32 → Int32 → Int32 → (Int32)) (x15_1 : Int32) (x15_2 : Int32) (x15_3 : Int32) (x15_4 : Int32) (x15_5 : Int32) : Int32 := zl (P.I 1) (fun k4 => (if k4 ≤ x15_5 then (if x15_2 = 0 then zl (P.F 5 (x15_3 : Int32).toNatClampNeg) (fun k5 => (if k5 = 0 then fMO_isHung_84 P S rc4 x15_1 x15_3 else (if x15_4 = 2 then fMO_isHung_80 P S rc4 x15_1 x15_3 else fMO_isHung_84 P S rc4 x15_1 x15_3))) else fMO_isHung_80 P S rc4 x15_1 x15_3) else zl (fMO_degreeIn P S x15_5 x15_1) (fun k7 => (if k7 = 1 then zl (fMO_degreeIn P S x15_5 x15_3) (fun k9 => (if k9 ≤ 0 then fMO_isHung_51 P S rc4 rc15 x15_1 x15_2 x15_3 x15_5 x15_4 else fMO_isHung_52 P S rc4 rc15 x15_1 x15_2 x15_3 x15_5 1 x15_4)) else fMO_isHung_51 P S rc4 rc15 x15_1 x15_2 x15_3 x15_5 x15_4))))
noncomputable def fMO_isHung_4 (P : ZS) (S : ZS) (rc4 : Int32 → Int32 → Int32 → (Int32)) (x4_1 : Int32) (x4_2 : Int32) (x4_3 : Int32) : Int32 := (if x4_1 ≤ x4_3 then x4_2 else zfix (fun _ _ _ _ _ => 0) (fMO_isHung_15 P S rc4) 49 x4_1 x4_2 x4_3 0 0)
noncomputable def fMO_isHung (P S : ZS) (x0 : Int32) : Int32 := zfix (fun _ _ _ => 0) (fMO_isHung_4 P S) 6 x0 0 0
set_option maxHeartbeats 4000000 in
set_option maxRecDepth 100000 in
theorem tMO_isHung (l : Launch) (dC : Nat → ClassId) (dI : Nat → Nat → Nat) (cI cZ cJ cA : ClassId) (a0 : Array Value) (s0 : State) (o b : Nat → Nat) (P S : ZS) (sz : Nat) (x0 : Int32) (gP : mok P) (gS : mok S) (r_x0 : zr 0 5 x0) : Met l yMO_isHung [Cond.code yMO_isHung bMO_isHung 6 (some .boolean)] ({ frames := 2, cells := 0, slots := 0, locals := 46 } : Room) (zP zCl dC dI (zTZ cI cZ cJ cA) a0 s0 [.ref (o 0), .int x0] sz (MW cI cZ cA o b P S)) (zQp (fun r => r = fMO_isHung P S x0 ∧ zr 0 1 r) sz) 0 0 (zN sz) := by
  refine Met.ofW (cc := bMO_isHung) (maxL := 6) (ret := (some .boolean)) (by decide) rfl ?_
  intro p e s m args below meth c s₁ B hml hv
  obtain ⟨rfl, hsz, hP, hK, hD0, hB⟩ := hv
  have hx := B.exec
  have hb := B.bytes
  have hr := B.returns
  have hown : s.vm.findClass "RingGuardModel" = some m.cls := findClass_of_methodNamed B.named
  have hlocks := B.notSynchronized
  subst hsz
  have hD := hD0
  have hA0 : ∀ q, zN s.heap.size q → s0.heap.size ≤ q := zA1 hB
  have hAD : ∀ q, zN s0.heap.size q → s0.heap.size ≤ q := fun _ h => h
  have hA : ∀ q : Nat, s.heap.size ≤ q → zN s.heap.size q := fun _ h => h
  have hS : va_S (zN s.heap.size) s.heap s.heap [] := va_S.rf
  have hl := lv_entry ([.ref (o 0), .int x0]) (n := 6) (Nat.le_of_ble_eq_true rfl)
  rw [lg_entry_eq]
  generalize (lg_sl ([.ref (o 0), .int x0]) ++ List.replicate (6 - (lg_sl ([.ref (o 0), .int x0])).length) Slot.unset).toArray = ls at hl ⊢
  have hl : lv_has ls 6 [(0, .ref (o 0)), (1, .int x0)] := hl
  refine zgenQ (fun Q hQe => ?_)
  obtain ⟨tg, etg⟩ : ∃ z, z = fMO_isHung P S x0 := ⟨_, rfl⟩
  have E := etg
  unfold fMO_isHung at E
  have hL4 : ∀ (n4 : Nat) (H : Heap) (locs : List Loc) (ls : Array Slot) (x4_1 : Int32) (x4_2 : Int32) (x4_3 : Int32), zr 0 5 x4_1 → zr 0 1 x4_2 → zr 0 5 x4_3 → (x4_2 = 0 ∨ zr 1 5 (x4_1)) → (x4_2 = 0 ∨ zr 1 5 (x4_3)) → 5 + 1 - x4_3.toInt ≤ (n4 : Int) → tg = zfix (fun _ _ _ => 0) (fMO_isHung_4 P S) n4 x4_1 x4_2 x4_3 → va_P (dC, dI) zCl (MW cI cZ cA o b P S) H → va_S (zN s.heap.size) s.heap H locs → lv_has ls 6 [(0, .ref (o 0)), (1, .int x4_1), (2, .int x4_2), (3, .int x4_3)] → W p l e ({ frames := 2, cells := 0, slots := 0, locals := 46 } : Room) s m ([.ref (o 0), .int x0] : List Value).toArray below meth c H locs 0 0 Q (F0 m 4 ls []) := by
    intro n4
    induction n4 with
    | zero => intro H locs ls x4_1 x4_2 x4_3 r_x4_1 r_x4_2 r_x4_3 cd4_0 cd4_1 hm4 E hP hS hl; exact absurd hm4 (zfuel0U r_x4_3)
    | succ n4 ih4 =>
      intro H locs ls x4_1 x4_2 x4_3 r_x4_1 r_x4_2 r_x4_3 cd4_0 cd4_1 hm4 E hP hS hl
      rw [zfix_s] at E
      generalize zfix (fun _ _ _ => 0) (fMO_isHung_4 P S) n4 = rc4 at ih4 E
      unfold fMO_isHung_4 at E
      have hL15 : ∀ (n15 : Nat) (H : Heap) (locs : List Loc) (ls : Array Slot) (x15_1 : Int32) (x15_2 : Int32) (x15_3 : Int32) (x15_4 : Int32) (x15_5 : Int32), zr 1 5 x15_1 → zr 0 1 x15_2 → zr 0 4 x15_3 → zr 0 48 x15_5 → 5 + 1 - x15_3.toInt ≤ ((n4 + 1 : Nat) : Int) → 48 + 1 - x15_5.toInt ≤ (n15 : Int) → tg = zfix (fun _ _ _ _ _ => 0) (fMO_isHung_15 P S rc4) n15 x15_1 x15_2 x15_3 x15_4 x15_5 → va_P (dC, dI) zCl (MW cI cZ cA o b P S) H → va_S (zN s.heap.size) s.heap H locs → lv_has ls 6 [(0, .ref (o 0)), (1, .int x15_1), (2, .int x15_2), (3, .int x15_3), (4, .int x15_4), (5, .int x15_5)] → W p l e ({ frames := 2, cells := 0, slots := 0, locals := 46 } : Room) s m ([.ref (o 0), .int x0] : List Value).toArray below meth c H locs 0 0 Q (F0 m 15 ls []) := by
        intro n15
        induction n15 with
        | zero => intro H locs ls x15_1 x15_2 x15_3 x15_4 x15_5 r_x15_1 r_x15_2 r_x15_3 r_x15_5 hm4_15 hm15 E hP hS hl; exact absurd hm15 (zfuel0U r_x15_5)
        | succ n15 ih15 =>
          intro H locs ls x15_1 x15_2 x15_3 x15_4 x15_5 r_x15_1 r_x15_2 r_x15_3 r_x15_5 hm4_15 hm15 E hP hS hl
          rw [zfix_s] at E
          generalize zfix (fun _ _ _ _ _ => 0) (fMO_isHung_15 P S rc4) n15 = rc15 at ih15 E
          unfold fMO_isHung_15 at E
          have hJ85 : ∀ (H : Heap) (locs : List Loc) (ls : Array Slot) (x85_1 : Int32) (x85_3 : Int32) (y85_0 : Int32), zr 1 5 x85_1 → zr 0 4 x85_3 → zr 0 1 y85_0 → 5 + 1 - x85_3.toInt ≤ ((n4 + 1 : Nat) : Int) → tg = fMO_isHung_85 P S rc4 x85_1 x85_3 y85_0 → va_P (dC, dI) zCl (MW cI cZ cA o b P S) H → va_S (zN s.heap.size) s.heap H locs → lv_has ls 6 [(0, .ref (o 0)), (1, .int x85_1), (3, .int x85_3)] → W p l e ({ frames := 2, cells := 0, slots := 0, locals := 46 } : Room) s m ([.ref (o 0), .int x0] : List Value).toArray below meth c H locs 0 0 Q (F0 m 85 ls [.int y85_0]) := by
            intro H locs ls x85_1 x85_3 y85_0 r_x85_1 r_x85_3 r_y85_0 hm4_85 E hP hS hl
            unfold fMO_isHung_85 at E
            refine lv_istore_n (lv' := [(2, .int y85_0), (0, .ref (o 0)), (1, .int x85_1), (3, .int x85_3)]) hx hb dMO_isHung_85 rfl hl (by decide) rfl (fun ls hl => ?_)
            refine z_iinc (lv' := fun v9 => [(3, .int v9), (2, .int y85_0), (0, .ref (o 0)), (1, .int x85_1)]) (cst := 1) hx hb dMO_isHung_86 hl (k := 3) rfl (by decide) (by decide) (fun _ => rfl) E (fun k1 ls ek1 E hl => ?_)
            have r_k1 : zr 1 5 k1 := zr_add r_x85_3 (show zr 1 1 1 from by decide) ek1 (by decide)
            refine lv_goto (tgt := 4) hx hb dMO_isHung_89 (by decide) ?_
            exact ih4 H locs ls x85_1 y85_0 k1 (zr_mono r_x85_1 (by decide)) r_y85_0 (zr_mono r_k1 (by decide)) (Or.inr r_x85_1) (Or.inr r_k1) (zstepU ek1 r_x85_3 (by decide) hm4_85) E hP hS (lv_sub hl [2, 3, 1, 0] rfl)
          have hJ80 : ∀ (H : Heap) (locs : List Loc) (ls : Array Slot) (x80_1 : Int32) (x80_3 : Int32), zr 1 5 x80_1 → zr 0 4 x80_3 → 5 + 1 - x80_3.toInt ≤ ((n4 + 1 : Nat) : Int) → tg = fMO_isHung_80 P S rc4 x80_1 x80_3 → va_P (dC, dI) zCl (MW cI cZ cA o b P S) H → va_S (zN s.heap.size) s.heap H locs → lv_has ls 6 [(0, .ref (o 0)), (1, .int x80_1), (3, .int x80_3)] → W p l e ({ frames := 2, cells := 0, slots := 0, locals := 46 } : Room) s m ([.ref (o 0), .int x0] : List Value).toArray below meth c H locs 0 0 Q (F0 m 80 ls []) := by
            intro H locs ls x80_1 x80_3 r_x80_1 r_x80_3 hm4_80 E hP hS hl
            unfold fMO_isHung_80 at E
            refine lv_iconst (v := 1) hx hb dMO_isHung_80 (by decide) ?_
            refine lv_goto (tgt := 85) hx hb dMO_isHung_81 (by decide) ?_
            exact hJ85 H locs ls x80_1 x80_3 1 r_x80_1 r_x80_3 (show zr 0 1 1 from by decide) hm4_80 E hP hS (lv_sub hl [0, 1, 2] rfl)
          have hJ84 : ∀ (H : Heap) (locs : List Loc) (ls : Array Slot) (x84_1 : Int32) (x84_3 : Int32), zr 1 5 x84_1 → zr 0 4 x84_3 → 5 + 1 - x84_3.toInt ≤ ((n4 + 1 : Nat) : Int) → tg = fMO_isHung_84 P S rc4 x84_1 x84_3 → va_P (dC, dI) zCl (MW cI cZ cA o b P S) H → va_S (zN s.heap.size) s.heap H locs → lv_has ls 6 [(0, .ref (o 0)), (1, .int x84_1), (3, .int x84_3)] → W p l e ({ frames := 2, cells := 0, slots := 0, locals := 46 } : Room) s m ([.ref (o 0), .int x0] : List Value).toArray below meth c H locs 0 0 Q (F0 m 84 ls []) := by
            intro H locs ls x84_1 x84_3 r_x84_1 r_x84_3 hm4_84 E hP hS hl
            unfold fMO_isHung_84 at E
            refine lv_iconst (v := 0) hx hb dMO_isHung_84 (by decide) ?_
            exact hJ85 H locs ls x84_1 x84_3 0 r_x84_1 r_x84_3 (show zr 0 1 0 from by decide) hm4_84 E hP hS (lv_sub hl [0, 1, 2] rfl)
          have hJ52 : ∀ (H : Heap) (locs : List Loc) (ls : Array Slot) (x52_1 : Int32) (x52_2 : Int32) (x52_3 : Int32) (x52_5 : Int32) (y52_0 : Int32) (y52_1 : Int32), zr 1 5 x52_1 → zr 0 1 x52_2 → zr 0 4 x52_3 → zr 0 47 x52_5 → zr 0 1 y52_0 → 5 + 1 - x52_3.toInt ≤ ((n4 + 1 : Nat) : Int) → 48 + 1 - x52_5.toInt ≤ ((n15 + 1 : Nat) : Int) → tg = fMO_isHung_52 P S rc4 rc15 x52_1 x52_2 x52_3 x52_5 y52_0 y52_1 → va_P (dC, dI) zCl (MW cI cZ cA o b P S) H → va_S (zN s.heap.size) s.heap H locs → lv_has ls 6 [(0, .ref (o 0)), (1, .int x52_1), (2, .int x52_2), (3, .int x52_3), (5, .int x52_5)] → W p l e ({ frames := 2, cells := 0, slots := 0, locals := 46 } : Room) s m ([.ref (o 0), .int x0] : List Value).toArray below meth c H locs 0 0 Q (F0 m 52 ls [.int y52_0, .int y52_1]) := by
            intro H locs ls x52_1 x52_2 x52_3 x52_5 y52_0 y52_1 r_x52_1 r_x52_2 r_x52_3 r_x52_5 r_y52_0 hm4_52 hm15_52 E hP hS hl
            unfold fMO_isHung_52 at E
            refine z_iadd hx hb dMO_isHung_52 E (fun k2 ek2 E => ?_)
            refine lv_istore (lv' := [(4, .int k2), (0, .ref (o 0)), (1, .int x52_1), (2, .int x52_2), (3, .int x52_3), (5, .int x52_5)]) hx hb dMO_isHung_53 hl (by decide) rfl (fun ls hl => ?_)
            refine z_iinc (lv' := fun v9 => [(5, .int v9), (4, .int k2), (0, .ref (o 0)), (1, .int x52_1), (2, .int x52_2), (3, .int x52_3)]) (cst := 1) hx hb dMO_isHung_55 hl (k := 5) rfl (by decide) (by decide) (fun _ => rfl) E (fun k3 ls ek3 E hl => ?_)
            have r_k3 : zr 1 48 k3 := zr_add r_x52_5 (show zr 1 1 1 from by decide) ek3 (by decide)
            refine lv_goto (tgt := 15) hx hb dMO_isHung_58 (by decide) ?_
            exact ih15 H locs ls x52_1 x52_2 x52_3 k2 k3 r_x52_1 r_x52_2 r_x52_3 (zr_mono r_k3 (by decide)) hm4_52 (zstepU ek3 r_x52_5 (by decide) hm15_52) E hP hS (lv_sub hl [2, 3, 4, 5, 1, 0] rfl)
          have hJ51 : ∀ (H : Heap) (locs : List Loc) (ls : Array Slot) (x51_1 : Int32) (x51_2 : Int32) (x51_3 : Int32) (x51_5 : Int32) (y51_0 : Int32), zr 1 5 x51_1 → zr 0 1 x51_2 → zr 0 4 x51_3 → zr 0 47 x51_5 → 5 + 1 - x51_3.toInt ≤ ((n4 + 1 : Nat) : Int) → 48 + 1 - x51_5.toInt ≤ ((n15 + 1 : Nat) : Int) → tg = fMO_isHung_51 P S rc4 rc15 x51_1 x51_2 x51_3 x51_5 y51_0 → va_P (dC, dI) zCl (MW cI cZ cA o b P S) H → va_S (zN s.heap.size) s.heap H locs → lv_has ls 6 [(0, .ref (o 0)), (1, .int x51_1), (2, .int x51_2), (3, .int x51_3), (5, .int x51_5)] → W p l e ({ frames := 2, cells := 0, slots := 0, locals := 46 } : Room) s m ([.ref (o 0), .int x0] : List Value).toArray below meth c H locs 0 0 Q (F0 m 51 ls [.int y51_0]) := by
            intro H locs ls x51_1 x51_2 x51_3 x51_5 y51_0 r_x51_1 r_x51_2 r_x51_3 r_x51_5 hm4_51 hm15_51 E hP hS hl
            unfold fMO_isHung_51 at E
            refine lv_iconst (v := 0) hx hb dMO_isHung_51 (by decide) ?_
            exact hJ52 H locs ls x51_1 x51_2 x51_3 x51_5 0 y51_0 r_x51_1 r_x51_2 r_x51_3 r_x51_5 (show zr 0 1 0 from by decide) hm4_51 hm15_51 E hP hS (lv_sub hl [0, 1, 2, 3, 4] rfl)
          refine lv_iload hx hb dMO_isHung_15 (lv_at hl 5 rfl) ?_
          refine lv_aload_n hx hb dMO_isHung_17 rfl (lv_at hl 0 rfl) ?_
          refine m_get_1 hx hb (hB.words zU_MO) hown hK hP (hB.word (zm4 k4_116) rfl) dMO_isHung_18 E (fun k4 ek4 E => ?_)
          have r_k4 : zr 0 48 k4 := by rw [ek4]; exact gP.2.1 1
          refine z_icmp_ge (tgt := 61) hx hb dMO_isHung_21 (by decide) E (fun c_21 E => ?_) (fun c_21 E => ?_)
          · refine lv_iload_n hx hb dMO_isHung_61 rfl (lv_at hl 2 rfl) ?_
            refine z_if_ne (tgt := 80) hx hb dMO_isHung_62 (by decide) E (fun c_62 E => ?_) (fun c_62 E => ?_)
            · have r_x15_2 : zr 1 1 x15_2 := zne_lo r_x15_2 c_62 (by decide)
              exact hJ80 H locs ls x15_1 x15_3 r_x15_1 r_x15_3 hm4_15 E hP hS (lv_sub hl [0, 1, 3] rfl)
            · have r_x15_2 : zr 0 0 x15_2 := zeq_x (show zr 0 0 0 from by decide) c_62
              refine lv_aload_n hx hb dMO_isHung_65 rfl (lv_at hl 0 rfl) ?_
              refine m_getA_5 hx hb (hB.words zU_MO) hown hK hP (hB.word (zm4 k4_127) rfl) dMO_isHung_66 ?_
              refine lv_iload_n hx hb dMO_isHung_69 rfl (lv_at hl 3 rfl) ?_
              refine m_zaldP hx hb hK hP 5 (by decide) rfl r_x15_3 (by decide) dMO_isHung_70 E (fun k5 ek5 E => ?_)
              have r_k5 : zr 0 1 k5 := by rw [ek5]; exact gP.1 5 _
              refine z_if_eq (tgt := 84) hx hb dMO_isHung_71 (by decide) E (fun c_71 E => ?_) (fun c_71 E => ?_)
              · have r_k5 : zr 0 0 k5 := zeq_x (show zr 0 0 0 from by decide) c_71
                exact hJ84 H locs ls x15_1 x15_3 r_x15_1 r_x15_3 hm4_15 E hP hS (lv_sub hl [0, 1, 3] rfl)
              · have r_k5 : zr 1 1 k5 := zne_lo r_k5 c_71 (by decide)
                refine lv_iload hx hb dMO_isHung_74 (lv_at hl 4 rfl) ?_
                refine lv_iconst (v := 2) hx hb dMO_isHung_76 (by decide) ?_
                refine z_icmp_ne (tgt := 84) hx hb dMO_isHung_77 (by decide) E (fun c_77 E => ?_) (fun c_77 E => ?_)
                · exact hJ84 H locs ls x15_1 x15_3 r_x15_1 r_x15_3 hm4_15 E hP hS (lv_sub hl [0, 1, 3] rfl)
                · have r_x15_4 : zr 2 2 x15_4 := zeq_x (show zr 2 2 2 from by decide) c_77
                  exact hJ80 H locs ls x15_1 x15_3 r_x15_1 r_x15_3 hm4_15 E hP hS (lv_sub hl [0, 1, 3] rfl)
          · have r_x15_5 : zr 0 47 x15_5 := zlt_x r_x15_5 r_k4 (znle c_21) (by decide)
            have r_k4 : zr 1 48 k4 := zlt_y r_x15_5 r_k4 (znle c_21) (by decide)
            refine lv_iload hx hb dMO_isHung_24 (lv_at hl 4 rfl) ?_
            refine lv_aload_n hx hb dMO_isHung_26 rfl (lv_at hl 0 rfl) ?_
            refine lv_iload hx hb dMO_isHung_27 (lv_at hl 5 rfl) ?_
            refine lv_iload_n hx hb dMO_isHung_29 rfl (lv_at hl 1 rfl) ?_
            refine zcallp (va_runV (As := [.int x15_5, .int x15_1]) (rest := [.int x15_4]) ⟨hx, hb, hml, hown, zno⟩ (tMO_degreeIn l dC dI cI cZ cJ cA a0 s0 o b P S H.size x15_5 x15_1 gP gS) (zcw 2 (hB.word (zm5 k5_76) rfl) (hB.word (zm1 k1_9) rfl) (hB.word (zm5 k5_73) rfl) (hB.word (zm5 k5_75) rfl) (k2_selects_private (by decide) (hB.word (zm4 k4_109) rfl) (hB.word (zm5 k5_74) rfl) (hB.word (zm5 k5_75) rfl)) rfl rfl (by decide +kernel) ⟨Nat.le_of_ble_eq_true rfl, Nat.le_of_ble_eq_true rfl⟩) ⟨zP_blind, va_recv hK hP (ci := 7) (q0 := 0) rfl rfl, zP_pre hP hK hD hAD (zB_on hB hA0 hS)⟩ rfl rfl hl.1 rfl (lv_room (Nat.le_of_ble_eq_true rfl)) dMO_isHung_30 ⟨Nat.le_of_ble_eq_true rfl, Nat.le_of_ble_eq_true rfl⟩) hS hA (fun k7 H6 locs hk7 hz1 hk1 hS => ?_)
            have hP := zKeep hP hk1
            have E := zl_s E hk7.1
            refine lv_iconst (v := 1) hx hb dMO_isHung_33 (by decide) ?_
            refine z_icmp_ne (tgt := 51) hx hb dMO_isHung_34 (by decide) E (fun c_34 E => ?_) (fun c_34 E => ?_)
            · exact hJ51 H6 locs ls x15_1 x15_2 x15_3 x15_5 x15_4 r_x15_1 r_x15_2 r_x15_3 r_x15_5 hm4_15 hm15 E hP hS (lv_sub hl [0, 1, 2, 3, 5] rfl)
            · have r_k7 : zr 1 1 k7 := zeq_x (show zr 1 1 1 from by decide) c_34
              refine lv_aload_n hx hb dMO_isHung_37 rfl (lv_at hl 0 rfl) ?_
              refine lv_iload hx hb dMO_isHung_38 (lv_at hl 5 rfl) ?_
              refine lv_iload_n hx hb dMO_isHung_40 rfl (lv_at hl 3 rfl) ?_
              refine zcallp (va_runV (As := [.int x15_5, .int x15_3]) (rest := [.int x15_4]) ⟨hx, hb, hml, hown, zno⟩ (tMO_degreeIn l dC dI cI cZ cJ cA a0 s0 o b P S H6.size x15_5 x15_3 gP gS) (zcw 2 (hB.word (zm5 k5_76) rfl) (hB.word (zm1 k1_9) rfl) (hB.word (zm5 k5_73) rfl) (hB.word (zm5 k5_75) rfl) (k2_selects_private (by decide) (hB.word (zm4 k4_109) rfl) (hB.word (zm5 k5_74) rfl) (hB.word (zm5 k5_75) rfl)) rfl rfl (by decide +kernel) ⟨Nat.le_of_ble_eq_true rfl, Nat.le_of_ble_eq_true rfl⟩) ⟨zP_blind, va_recv hK hP (ci := 7) (q0 := 0) rfl rfl, zP_pre hP hK hD hAD (zB_on hB hA0 hS)⟩ rfl rfl hl.1 rfl (lv_room (Nat.le_of_ble_eq_true rfl)) dMO_isHung_41 ⟨Nat.le_of_ble_eq_true rfl, Nat.le_of_ble_eq_true rfl⟩) hS hA (fun k9 H8 locs hk9 hz1 hk1 hS => ?_)
              have hP := zKeep hP hk1
              have E := zl_s E hk9.1
              refine z_if_le (tgt := 51) hx hb dMO_isHung_44 (by decide) E (fun c_44 E => ?_) (fun c_44 E => ?_)
              · have r_k9 : zr (-2147483648) 0 k9 := zle_x (zr_any k9) (show zr 0 0 0 from by decide) c_44 (by decide)
                exact hJ51 H8 locs ls x15_1 x15_2 x15_3 x15_5 x15_4 r_x15_1 r_x15_2 r_x15_3 r_x15_5 hm4_15 hm15 E hP hS (lv_sub hl [0, 1, 2, 3, 5] rfl)
              · have r_k9 : zr 1 2147483647 k9 := zlt_y (show zr 0 0 0 from by decide) (zr_any k9) (znle c_44) (by decide)
                refine lv_iconst (v := 1) hx hb dMO_isHung_47 (by decide) ?_
                refine lv_goto (tgt := 52) hx hb dMO_isHung_48 (by decide) ?_
                exact hJ52 H8 locs ls x15_1 x15_2 x15_3 x15_5 1 x15_4 r_x15_1 r_x15_2 r_x15_3 r_x15_5 (show zr 0 1 1 from by decide) hm4_15 hm15 E hP hS (lv_sub hl [0, 1, 2, 3, 5] rfl)
      refine lv_iload_n hx hb dMO_isHung_4 rfl (lv_at hl 3 rfl) ?_
      refine lv_iload_n hx hb dMO_isHung_5 rfl (lv_at hl 1 rfl) ?_
      refine z_icmp_ge (tgt := 92) hx hb dMO_isHung_6 (by decide) E (fun c_6 E => ?_) (fun c_6 E => ?_)
      · refine lv_iload_n hx hb dMO_isHung_92 rfl (lv_at hl 2 rfl) ?_
        rw [hQe]
        exact W.zret (v := x4_2) (ty := .boolean) hx hb hr (znar r_x4_2) (fun t ht hW => ⟨⟨x4_2, (), rfl, ⟨E.symm.trans etg, r_x4_2⟩, trivial⟩, hS.F ht⟩) hS.2.2 dMO_isHung_93
      · have r_x4_3 : zr 0 4 x4_3 := zlt_x r_x4_3 r_x4_1 (znle c_6) (by decide)
        have r_x4_1 : zr 1 5 x4_1 := zlt_y r_x4_3 r_x4_1 (znle c_6) (by decide)
        refine lv_iconst (v := 0) hx hb dMO_isHung_9 (by decide) ?_
        refine lv_istore (lv' := [(4, .int 0), (0, .ref (o 0)), (1, .int x4_1), (2, .int x4_2), (3, .int x4_3)]) hx hb dMO_isHung_10 hl (by decide) rfl (fun ls hl => ?_)
        refine lv_iconst (v := 0) hx hb dMO_isHung_12 (by decide) ?_
        refine lv_istore (lv' := [(5, .int 0), (4, .int 0), (0, .ref (o 0)), (1, .int x4_1), (2, .int x4_2), (3, .int x4_3)]) hx hb dMO_isHung_13 hl (by decide) rfl (fun ls hl => ?_)
        exact hL15 49 H locs ls x4_1 x4_2 x4_3 0 0 r_x4_1 r_x4_2 r_x4_3 (show zr 0 48 0 from by decide) hm4 (by have h9 := (show zr 0 0 0 from by decide); exact zfuelU h9 (by decide)) E hP hS (lv_sub hl [2, 3, 4, 5, 1, 0] rfl)
  refine lv_iconst (v := 0) hx hb dMO_isHung_0 (by decide) ?_
  refine lv_istore_n (lv' := [(2, .int 0), (0, .ref (o 0)), (1, .int x0)]) hx hb dMO_isHung_1 rfl hl (by decide) rfl (fun ls hl => ?_)
  refine lv_iconst (v := 0) hx hb dMO_isHung_2 (by decide) ?_
  refine lv_istore_n (lv' := [(3, .int 0), (2, .int 0), (0, .ref (o 0)), (1, .int x0)]) hx hb dMO_isHung_3 rfl hl (by decide) rfl (fun ls hl => ?_)
  exact hL4 6 s.heap [] ls x0 0 0 r_x0 (show zr 0 1 0 from by decide) (show zr 0 5 0 from by decide) (Or.inl rfl) (Or.inl rfl) (by have h9 := (show zr 0 0 0 from by decide); exact zfuelU h9 (by decide)) E hP hS (lv_sub hl [2, 3, 1, 0] rfl)
noncomputable def fMO_isRight_185 (P_185 : ZS) (S_185 : ZS) : ZS × ZS × Int32 := (P_185, S_185, 0)
noncomputable def fMO_isRight_155 (P_155 : ZS) (S_155 : ZS) : ZS × ZS × Int32 := (P_155, S_155, 0)
noncomputable def fMO_isRight_148 (P_148 : ZS) (S_148 : ZS) (y148_0 : Int32) (y148_1 : Int32) : ZS × ZS × Int32 := (if y148_1 = y148_0 then (P_148, S_148, 1) else fMO_isRight_155 P_148 S_148)
noncomputable def fMO_isRight_101 (rc11 : ZS → ZS → Int32 → Int32 → Int32 → Int32 → Int32 → Int32 → (ZS × ZS × Int32)) (P_101 : ZS) (S_101 : ZS) (x101_1 : Int32) (x101_2 : Int32) (x101_3 : Int32) (x101_4 : Int32) (x101_6 : Int32) (y101_0 : Int32) (y101_1 : Int32) : ZS × ZS × Int32 := zl (y101_1 + y101_0) (fun k1 => zl (x101_6 + 1) (fun k2 => rc11 P_101 S_101 x101_1 x101_2 x101_3 x101_4 k1 k2))
noncomputable def fMO_isRight_86 (rc11 : ZS → ZS → Int32 → Int32 → Int32 → Int32 → Int32 → Int32 → (ZS × ZS × Int32)) (P_86 : ZS) (S_86 : ZS) (x86_1 : Int32) (x86_2 : Int32) (x86_3 : Int32) (x86_5 : Int32) (x86_6 : Int32) (x86_8 : Int32) (y86_0 : Int32) (y86_1 : Int32) : ZS × ZS × Int32 := zl (y86_1 + y86_0) (fun k3 => (if x86_8 = 0 then fMO_isRight_101 rc11 P_86 S_86 x86_1 x86_2 x86_3 k3 x86_6 0 x86_5 else fMO_isRight_101 rc11 P_86 S_86 x86_1 x86_2 x86_3 k3 x86_6 1 x86_5))
noncomputable def fMO_isRight_71 (rc11 : ZS → ZS → Int32 → Int32 → Int32 → Int32 → Int32 → Int32 → (ZS × ZS × Int32)) (P_71 : ZS) (S_71 : ZS) (x71_1 : Int32) (x71_2 : Int32) (x71_4 : Int32) (x71_5 : Int32) (x71_6 : Int32) (x71_7 : Int32) (x71_8 : Int32) (y71_0 : Int32) (y71_1 : Int32) : ZS × ZS × Int32 := zl (y71_1 + y71_0) (fun k4 => (if x71_7 = 2 then fMO_isRight_86 rc11 P_71 S_71 x71_1 x71_2 k4 x71_5 x71_6 x71_8 1 x71_4 else fMO_isRight_86 rc11 P_71 S_71 x71_1 x71_2 k4 x71_5 x71_6 x71_8 0 x71_4))
noncomputable def fMO_isRight_49 (rc11 : ZS → ZS → Int32 → Int32 → Int32 → Int32 → Int32 → Int32 → (ZS × ZS × Int32)) (P_49 : ZS) (S_49 : ZS) (x49_1 : Int32) (x49_2 : Int32) (x49_3 : Int32) (x49_4 : Int32) (x49_5 : Int32) (x49_6 : Int32) (x49_7 : Int32) (y49_0 : Int32) : ZS × ZS × Int32 := (if x49_7 ≤ 2 then (if x49_7 = 1 then fMO_isRight_71 rc11 P_49 S_49 x49_1 x49_2 x49_4 x49_5 x49_6 x49_7 y49_0 1 x49_3 else fMO_isRight_71 rc11 P_49 S_49 x49_1 x49_2 x49_4 x49_5 x49_6 x49_7 y49_0 0 x49_3) else (P_49, S_49, 0))
noncomputable def fMO_isRight_48 (rc11 : ZS → ZS → Int32 → Int32 → Int32 → Int32 → Int32 → Int32 → (ZS × ZS × Int32)) (P_48 : ZS) (S_48 : ZS) (x48_1 : Int32) (x48_2 : Int32) (x48_3 : Int32) (x48_4 : Int32) (x48_5 : Int32) (x48_6 : Int32) (x48_7 : Int32) : ZS × ZS × Int32 := fMO_isRight_49 rc11 P_48 S_48 x48_1 x48_2 x48_3 x48_4 x48_5 x48_6 x48_7 0
noncomputable def fMO_isRight_11 (rc11 : ZS → ZS → Int32 → Int32 → Int32 → Int32 → Int32 → Int32 → (ZS × ZS × Int32)) (P_11 : ZS) (S_11 : ZS) (x11_1 : Int32) (x11_2 : Int32) (x11_3 : Int32) (x11_4 : Int32) (x11_5 : Int32) (x11_6 : Int32) : ZS × ZS × Int32 := zl (P_11.I 1) (fun k5 => (if k5 ≤ x11_6 then zl2 (fMO_isOne P_11 S_11 x11_1) (fun S8 k7 => (if k7 = 0 then (P_11, S8, 0) else (if x11_3 = 0 then zl (P_11.setF 5 (x11_1 : Int32).toNatClampNeg 1) (fun P12 => (if x11_4 < 3 then fMO_isRight_155 P12 S8 else (if x11_2 = 0 then fMO_isRight_148 P12 S8 1 x11_5 else fMO_isRight_148 P12 S8 0 x11_5))) else (if x11_3 = 2 then (if x11_4 ≤ 0 then fMO_isRight_185 P_11 S8 else (if x11_5 = 2 then zl (fMO_isHung P_11 S8 x11_1) (fun k11 => (if k11 = 0 then fMO_isRight_185 P_11 S8 else (P_11, S8, 1))) else fMO_isRight_185 P_11 S8)) else fMO_isRight_185 P_11 S8)))) else zl (fMO_degreeIn P_11 S_11 x11_6 x11_1) (fun k15 => (if k15 ≤ 0 then fMO_isRight_48 rc11 P_11 S_11 x11_1 x11_2 x11_3 x11_4 x11_5 x11_6 k15 else zl (fMO_isEarlier P_11 S_11 x11_6 x11_1) (fun k17 => (if k17 = 0 then fMO_isRight_48 rc11 P_11 S_11 x11_1 x11_2 x11_3 x11_4 x11_5 x11_6 k15 else fMO_isRight_49 rc11 P_11 S_11 x11_1 x11_2 x11_3 x11_4 x11_5 x11_6 k15 1))))))
noncomputable def fMO_isRight (P S : ZS) (x0 : Int32) (x1 : Int32) : ZS × ZS × Int32 := zfix (fun P9 S9 _ _ _ _ _ _ => (P9, S9, 0)) (fMO_isRight_11 ) 49 P S x0 x1 0 0 0 0
set_option maxHeartbeats 4000000 in
set_option maxRecDepth 100000 in
theorem tMO_isRight (l : Launch) (dC : Nat → ClassId) (dI : Nat → Nat → Nat) (cI cZ cJ cA : ClassId) (a0 : Array Value) (s0 : State) (o b : Nat → Nat) (P S : ZS) (sz : Nat) (x0 : Int32) (x1 : Int32) (gP : mok P) (gS : mok S) (iM : zM P) (r_x0 : zr 0 5 x0) (r_x1 : zr 0 1 x1) : Met l yMO_isRight [Cond.code yMO_isRight bMO_isRight 9 (some .boolean)] ({ frames := 3, cells := 0, slots := 0, locals := 71 } : Room) (zP zCl dC dI (zTZ cI cZ cJ cA) a0 s0 [.ref (o 0), .int x0, .int x1] sz (MW cI cZ cA o b P S)) (zQH zCl dC dI (fun (r : Int32) (x9 : ZS × ZS) => (x9.1, x9.2, r) = fMO_isRight P S x0 x1 ∧ mok x9.1 ∧ mok x9.2 ∧ (zM x9.1) ∧ zr 0 1 r) (fun x9 : ZS × ZS => (MW cI cZ cA o b x9.1 x9.2)) (va_A (MW cI cZ cA o b P S) sz)) 0 0 (va_A (MW cI cZ cA o b P S) sz) := by
  refine Met.ofW (cc := bMO_isRight) (maxL := 9) (ret := (some .boolean)) (by decide) rfl ?_
  intro p e s m args below meth c s₁ B hml hv
  obtain ⟨rfl, hsz, hP, hK, hD0, hB⟩ := hv
  have hx := B.exec
  have hb := B.bytes
  have hr := B.returns
  have hown : s.vm.findClass "RingGuardModel" = some m.cls := findClass_of_methodNamed B.named
  have hlocks := B.notSynchronized
  subst hsz
  have hD := hD0.self (sz := s.heap.size)
  have hA0 := zA0 hD0 hB
  generalize hAe : va_A (MW cI cZ cA o b P S) s.heap.size = A at hD hA0 ⊢
  have hAD := hA0
  have hA : ∀ q : Nat, s.heap.size ≤ q → A q := fun q h => by rw [← hAe]; exact Or.inr h
  have hS : va_S A s.heap s.heap [] := va_S.rf
  have hl := lv_entry ([.ref (o 0), .int x0, .int x1]) (n := 9) (Nat.le_of_ble_eq_true rfl)
  rw [lg_entry_eq]
  generalize (lg_sl ([.ref (o 0), .int x0, .int x1]) ++ List.replicate (9 - (lg_sl ([.ref (o 0), .int x0, .int x1])).length) Slot.unset).toArray = ls at hl ⊢
  have hl : lv_has ls 9 [(0, .ref (o 0)), (1, .int x0), (2, .int x1)] := hl
  refine zgenQ (fun Q hQe => ?_)
  obtain ⟨tg, etg⟩ : ∃ z, z = fMO_isRight P S x0 x1 := ⟨_, rfl⟩
  have E := etg
  unfold fMO_isRight at E
  have hL11 : ∀ (n11 : Nat) (H : Heap) (locs : List Loc) (ls : Array Slot) (P_11 : ZS) (S_11 : ZS) (x11_1 : Int32) (x11_2 : Int32) (x11_3 : Int32) (x11_4 : Int32) (x11_5 : Int32) (x11_6 : Int32), zr 0 5 x11_1 → zr 0 1 x11_2 → zr 0 48 x11_6 → mok P_11 → mok S_11 → (zM P_11) → 48 + 1 - x11_6.toInt ≤ (n11 : Int) → tg = zfix (fun P9 S9 _ _ _ _ _ _ => (P9, S9, 0)) (fMO_isRight_11 ) n11 P_11 S_11 x11_1 x11_2 x11_3 x11_4 x11_5 x11_6 → va_P (dC, dI) zCl (MW cI cZ cA o b P_11 S_11) H → va_D A (MW cI cZ cA o b P_11 S_11) → va_S A s.heap H locs → lv_has ls 9 [(0, .ref (o 0)), (1, .int x11_1), (2, .int x11_2), (3, .int x11_3), (4, .int x11_4), (5, .int x11_5), (6, .int x11_6)] → W p l e ({ frames := 3, cells := 0, slots := 0, locals := 71 } : Room) s m ([.ref (o 0), .int x0, .int x1] : List Value).toArray below meth c H locs 0 0 Q (F0 m 11 ls []) := by
    intro n11
    induction n11 with
    | zero => intro H locs ls P_11 S_11 x11_1 x11_2 x11_3 x11_4 x11_5 x11_6 r_x11_1 r_x11_2 r_x11_6 gP_11 gS_11 iM_11 hm11 E hP hD hS hl; exact absurd hm11 (zfuel0U r_x11_6)
    | succ n11 ih11 =>
      intro H locs ls P_11 S_11 x11_1 x11_2 x11_3 x11_4 x11_5 x11_6 r_x11_1 r_x11_2 r_x11_6 gP_11 gS_11 iM_11 hm11 E hP hD hS hl
      rw [zfix_s] at E
      generalize zfix (fun P9 S9 _ _ _ _ _ _ => (P9, S9, 0)) (fMO_isRight_11 ) n11 = rc11 at ih11 E
      unfold fMO_isRight_11 at E
      have hJ185 : ∀ (H : Heap) (locs : List Loc) (ls : Array Slot) (P_185 : ZS) (S_185 : ZS), mok P_185 → mok S_185 → (zM P_185) → tg = fMO_isRight_185  P_185 S_185 → va_P (dC, dI) zCl (MW cI cZ cA o b P_185 S_185) H → va_D A (MW cI cZ cA o b P_185 S_185) → va_S A s.heap H locs → lv_has ls 9 [] → W p l e ({ frames := 3, cells := 0, slots := 0, locals := 71 } : Room) s m ([.ref (o 0), .int x0, .int x1] : List Value).toArray below meth c H locs 0 0 Q (F0 m 185 ls []) := by
        intro H locs ls P_185 S_185 gP_185 gS_185 iM_185 E hP hD hS hl
        unfold fMO_isRight_185 at E
        refine lv_iconst (v := 0) hx hb dMO_isRight_185 (by decide) ?_
        rw [hQe]
        exact W.zret (v := 0) (ty := .boolean) hx hb hr (znar (show zr 0 1 0 from by decide)) (fun t ht hW => ⟨⟨0, (P_185, S_185), rfl, ⟨E.symm.trans etg, gP_185, gS_185, iM_185, (show zr 0 1 0 from by decide)⟩, by rw [ht]; exact hP, hD⟩, hS.F ht⟩) hS.2.2 dMO_isRight_186
      have hJ155 : ∀ (H : Heap) (locs : List Loc) (ls : Array Slot) (P_155 : ZS) (S_155 : ZS), mok P_155 → mok S_155 → (zM P_155) → tg = fMO_isRight_155  P_155 S_155 → va_P (dC, dI) zCl (MW cI cZ cA o b P_155 S_155) H → va_D A (MW cI cZ cA o b P_155 S_155) → va_S A s.heap H locs → lv_has ls 9 [] → W p l e ({ frames := 3, cells := 0, slots := 0, locals := 71 } : Room) s m ([.ref (o 0), .int x0, .int x1] : List Value).toArray below meth c H locs 0 0 Q (F0 m 155 ls []) := by
        intro H locs ls P_155 S_155 gP_155 gS_155 iM_155 E hP hD hS hl
        unfold fMO_isRight_155 at E
        refine lv_iconst (v := 0) hx hb dMO_isRight_155 (by decide) ?_
        rw [hQe]
        exact W.zret (v := 0) (ty := .boolean) hx hb hr (znar (show zr 0 1 0 from by decide)) (fun t ht hW => ⟨⟨0, (P_155, S_155), rfl, ⟨E.symm.trans etg, gP_155, gS_155, iM_155, (show zr 0 1 0 from by decide)⟩, by rw [ht]; exact hP, hD⟩, hS.F ht⟩) hS.2.2 dMO_isRight_156
      have hJ148 : ∀ (H : Heap) (locs : List Loc) (ls : Array Slot) (P_148 : ZS) (S_148 : ZS) (y148_0 : Int32) (y148_1 : Int32), zr 0 1 y148_0 → mok P_148 → mok S_148 → (zM P_148) → tg = fMO_isRight_148  P_148 S_148 y148_0 y148_1 → va_P (dC, dI) zCl (MW cI cZ cA o b P_148 S_148) H → va_D A (MW cI cZ cA o b P_148 S_148) → va_S A s.heap H locs → lv_has ls 9 [] → W p l e ({ frames := 3, cells := 0, slots := 0, locals := 71 } : Room) s m ([.ref (o 0), .int x0, .int x1] : List Value).toArray below meth c H locs 0 0 Q (F0 m 148 ls [.int y148_0, .int y148_1]) := by
        intro H locs ls P_148 S_148 y148_0 y148_1 r_y148_0 gP_148 gS_148 iM_148 E hP hD hS hl
        unfold fMO_isRight_148 at E
        refine z_icmp_ne (tgt := 155) hx hb dMO_isRight_148 (by decide) E (fun c_148 E => ?_) (fun c_148 E => ?_)
        · exact hJ155 H locs ls P_148 S_148 gP_148 gS_148 iM_148 E hP hD hS (lv_sub hl [] rfl)
        · have r_y148_1 : zr 0 1 y148_1 := zeq_x r_y148_0 c_148
          refine lv_iconst (v := 1) hx hb dMO_isRight_151 (by decide) ?_
          refine lv_goto (tgt := 156) hx hb dMO_isRight_152 (by decide) ?_
          rw [hQe]
          exact W.zret (v := 1) (ty := .boolean) hx hb hr (znar (show zr 0 1 1 from by decide)) (fun t ht hW => ⟨⟨1, (P_148, S_148), rfl, ⟨E.symm.trans etg, gP_148, gS_148, iM_148, (show zr 0 1 1 from by decide)⟩, by rw [ht]; exact hP, hD⟩, hS.F ht⟩) hS.2.2 dMO_isRight_156
      have hJ49 : ∀ (H : Heap) (locs : List Loc) (ls : Array Slot) (P_49 : ZS) (S_49 : ZS) (x49_1 : Int32) (x49_2 : Int32) (x49_3 : Int32) (x49_4 : Int32) (x49_5 : Int32) (x49_6 : Int32) (x49_7 : Int32) (y49_0 : Int32), zr 0 5 x49_1 → zr 0 1 x49_2 → zr 0 47 x49_6 → zr 0 1 y49_0 → mok P_49 → mok S_49 → 48 + 1 - x49_6.toInt ≤ ((n11 + 1 : Nat) : Int) → (zM P_49) → (y49_0 = 0 ∨ zr 1 2147483647 (x49_7)) → tg = fMO_isRight_49 rc11 P_49 S_49 x49_1 x49_2 x49_3 x49_4 x49_5 x49_6 x49_7 y49_0 → va_P (dC, dI) zCl (MW cI cZ cA o b P_49 S_49) H → va_D A (MW cI cZ cA o b P_49 S_49) → va_S A s.heap H locs → lv_has ls 9 [(0, .ref (o 0)), (1, .int x49_1), (2, .int x49_2), (3, .int x49_3), (4, .int x49_4), (5, .int x49_5), (6, .int x49_6), (7, .int x49_7)] → W p l e ({ frames := 3, cells := 0, slots := 0, locals := 71 } : Room) s m ([.ref (o 0), .int x0, .int x1] : List Value).toArray below meth c H locs 0 0 Q (F0 m 49 ls [.int y49_0]) := by
        intro H locs ls P_49 S_49 x49_1 x49_2 x49_3 x49_4 x49_5 x49_6 x49_7 y49_0 r_x49_1 r_x49_2 r_x49_6 r_y49_0 gP_49 gS_49 hm11_49 iM_49 cd49_0 E hP hD hS hl
        unfold fMO_isRight_49 at E
        have hJ71 : ∀ (H : Heap) (locs : List Loc) (ls : Array Slot) (P_71 : ZS) (S_71 : ZS) (x71_1 : Int32) (x71_2 : Int32) (x71_4 : Int32) (x71_5 : Int32) (x71_6 : Int32) (x71_7 : Int32) (x71_8 : Int32) (y71_0 : Int32) (y71_1 : Int32), zr 0 5 x71_1 → zr 0 1 x71_2 → zr 0 47 x71_6 → zr (-2147483648) 2 x71_7 → zr 0 1 x71_8 → zr 0 1 y71_0 → mok P_71 → mok S_71 → 48 + 1 - x71_6.toInt ≤ ((n11 + 1 : Nat) : Int) → (zM P_71) → (y71_0 = 0 ∨ zr 1 1 (x71_7)) → tg = fMO_isRight_71 rc11 P_71 S_71 x71_1 x71_2 x71_4 x71_5 x71_6 x71_7 x71_8 y71_0 y71_1 → va_P (dC, dI) zCl (MW cI cZ cA o b P_71 S_71) H → va_D A (MW cI cZ cA o b P_71 S_71) → va_S A s.heap H locs → lv_has ls 9 [(0, .ref (o 0)), (1, .int x71_1), (2, .int x71_2), (4, .int x71_4), (5, .int x71_5), (6, .int x71_6), (7, .int x71_7), (8, .int x71_8)] → W p l e ({ frames := 3, cells := 0, slots := 0, locals := 71 } : Room) s m ([.ref (o 0), .int x0, .int x1] : List Value).toArray below meth c H locs 0 0 Q (F0 m 71 ls [.int y71_0, .int y71_1]) := by
          intro H locs ls P_71 S_71 x71_1 x71_2 x71_4 x71_5 x71_6 x71_7 x71_8 y71_0 y71_1 r_x71_1 r_x71_2 r_x71_6 r_x71_7 r_x71_8 r_y71_0 gP_71 gS_71 hm11_71 iM_71 cd71_0 E hP hD hS hl
          unfold fMO_isRight_71 at E
          have hJ86 : ∀ (H : Heap) (locs : List Loc) (ls : Array Slot) (P_86 : ZS) (S_86 : ZS) (x86_1 : Int32) (x86_2 : Int32) (x86_3 : Int32) (x86_5 : Int32) (x86_6 : Int32) (x86_8 : Int32) (y86_0 : Int32) (y86_1 : Int32), zr 0 5 x86_1 → zr 0 1 x86_2 → zr 0 47 x86_6 → zr 0 1 x86_8 → zr 0 1 y86_0 → mok P_86 → mok S_86 → 48 + 1 - x86_6.toInt ≤ ((n11 + 1 : Nat) : Int) → (zM P_86) → tg = fMO_isRight_86 rc11 P_86 S_86 x86_1 x86_2 x86_3 x86_5 x86_6 x86_8 y86_0 y86_1 → va_P (dC, dI) zCl (MW cI cZ cA o b P_86 S_86) H → va_D A (MW cI cZ cA o b P_86 S_86) → va_S A s.heap H locs → lv_has ls 9 [(0, .ref (o 0)), (1, .int x86_1), (2, .int x86_2), (3, .int x86_3), (5, .int x86_5), (6, .int x86_6), (8, .int x86_8)] → W p l e ({ frames := 3, cells := 0, slots := 0, locals := 71 } : Room) s m ([.ref (o 0), .int x0, .int x1] : List Value).toArray below meth c H locs 0 0 Q (F0 m 86 ls [.int y86_0, .int y86_1]) := by
            intro H locs ls P_86 S_86 x86_1 x86_2 x86_3 x86_5 x86_6 x86_8 y86_0 y86_1 r_x86_1 r_x86_2 r_x86_6 r_x86_8 r_y86_0 gP_86 gS_86 hm11_86 iM_86 E hP hD hS hl
            unfold fMO_isRight_86 at E
            have hJ101 : ∀ (H : Heap) (locs : List Loc) (ls : Array Slot) (P_101 : ZS) (S_101 : ZS) (x101_1 : Int32) (x101_2 : Int32) (x101_3 : Int32) (x101_4 : Int32) (x101_6 : Int32) (y101_0 : Int32) (y101_1 : Int32), zr 0 5 x101_1 → zr 0 1 x101_2 → zr 0 47 x101_6 → zr 0 1 y101_0 → mok P_101 → mok S_101 → 48 + 1 - x101_6.toInt ≤ ((n11 + 1 : Nat) : Int) → (zM P_101) → tg = fMO_isRight_101 rc11 P_101 S_101 x101_1 x101_2 x101_3 x101_4 x101_6 y101_0 y101_1 → va_P (dC, dI) zCl (MW cI cZ cA o b P_101 S_101) H → va_D A (MW cI cZ cA o b P_101 S_101) → va_S A s.heap H locs → lv_has ls 9 [(0, .ref (o 0)), (1, .int x101_1), (2, .int x101_2), (3, .int x101_3), (4, .int x101_4), (6, .int x101_6)] → W p l e ({ frames := 3, cells := 0, slots := 0, locals := 71 } : Room) s m ([.ref (o 0), .int x0, .int x1] : List Value).toArray below meth c H locs 0 0 Q (F0 m 101 ls [.int y101_0, .int y101_1]) := by
              intro H locs ls P_101 S_101 x101_1 x101_2 x101_3 x101_4 x101_6 y101_0 y101_1 r_x101_1 r_x101_2 r_x101_6 r_y101_0 gP_101 gS_101 hm11_101 iM_101 E hP hD hS hl
              unfold fMO_isRight_101 at E
              refine z_iadd hx hb dMO_isRight_101 E (fun k1 ek1 E => ?_)
              refine lv_istore (lv' := [(5, .int k1), (0, .ref (o 0)), (1, .int x101_1), (2, .int x101_2), (3, .int x101_3), (4, .int x101_4), (6, .int x101_6)]) hx hb dMO_isRight_102 hl (by decide) rfl (fun ls hl => ?_)
              refine z_iinc (lv' := fun v9 => [(6, .int v9), (5, .int k1), (0, .ref (o 0)), (1, .int x101_1), (2, .int x101_2), (3, .int x101_3), (4, .int x101_4)]) (cst := 1) hx hb dMO_isRight_104 hl (k := 6) rfl (by decide) (by decide) (fun _ => rfl) E (fun k2 ls ek2 E hl => ?_)
              have r_k2 : zr 1 48 k2 := zr_add r_x101_6 (show zr 1 1 1 from by decide) ek2 (by decide)
              refine lv_goto (tgt := 11) hx hb dMO_isRight_107 (by decide) ?_
              exact ih11 H locs ls P_101 S_101 x101_1 x101_2 x101_3 x101_4 k1 k2 r_x101_1 r_x101_2 (zr_mono r_k2 (by decide)) gP_101 gS_101 iM_101 (zstepU ek2 r_x101_6 (by decide) hm11_101) E hP hD hS (lv_sub hl [2, 3, 4, 5, 6, 1, 0] rfl)
            refine z_iadd hx hb dMO_isRight_86 E (fun k3 ek3 E => ?_)
            refine lv_istore (lv' := [(4, .int k3), (0, .ref (o 0)), (1, .int x86_1), (2, .int x86_2), (3, .int x86_3), (5, .int x86_5), (6, .int x86_6), (8, .int x86_8)]) hx hb dMO_isRight_87 hl (by decide) rfl (fun ls hl => ?_)
            refine lv_iload hx hb dMO_isRight_89 (lv_at hl 5 rfl) ?_
            refine lv_iload hx hb dMO_isRight_91 (lv_at hl 7 rfl) ?_
            refine z_if_eq (tgt := 100) hx hb dMO_isRight_93 (by decide) E (fun c_93 E => ?_) (fun c_93 E => ?_)
            · have r_x86_8 : zr 0 0 x86_8 := zeq_x (show zr 0 0 0 from by decide) c_93
              refine lv_iconst (v := 0) hx hb dMO_isRight_100 (by decide) ?_
              exact hJ101 H locs ls P_86 S_86 x86_1 x86_2 x86_3 k3 x86_6 0 x86_5 r_x86_1 r_x86_2 r_x86_6 (show zr 0 1 0 from by decide) gP_86 gS_86 hm11_86 iM_86 E hP hD hS (lv_sub hl [1, 2, 3, 4, 0, 6] rfl)
            · have r_x86_8 : zr 1 1 x86_8 := zne_lo r_x86_8 c_93 (by decide)
              refine lv_iconst (v := 1) hx hb dMO_isRight_96 (by decide) ?_
              refine lv_goto (tgt := 101) hx hb dMO_isRight_97 (by decide) ?_
              exact hJ101 H locs ls P_86 S_86 x86_1 x86_2 x86_3 k3 x86_6 1 x86_5 r_x86_1 r_x86_2 r_x86_6 (show zr 0 1 1 from by decide) gP_86 gS_86 hm11_86 iM_86 E hP hD hS (lv_sub hl [1, 2, 3, 4, 0, 6] rfl)
          refine z_iadd hx hb dMO_isRight_71 E (fun k4 ek4 E => ?_)
          refine lv_istore_n (lv' := [(3, .int k4), (0, .ref (o 0)), (1, .int x71_1), (2, .int x71_2), (4, .int x71_4), (5, .int x71_5), (6, .int x71_6), (7, .int x71_7), (8, .int x71_8)]) hx hb dMO_isRight_72 rfl hl (by decide) rfl (fun ls hl => ?_)
          refine lv_iload hx hb dMO_isRight_73 (lv_at hl 4 rfl) ?_
          refine lv_iload hx hb dMO_isRight_75 (lv_at hl 7 rfl) ?_
          refine lv_iconst (v := 2) hx hb dMO_isRight_77 (by decide) ?_
          refine z_icmp_ne (tgt := 85) hx hb dMO_isRight_78 (by decide) E (fun c_78 E => ?_) (fun c_78 E => ?_)
          · have r_x71_7 : zr (-2147483648) 1 x71_7 := zne_hi r_x71_7 c_78 (by decide)
            refine lv_iconst (v := 0) hx hb dMO_isRight_85 (by decide) ?_
            exact hJ86 H locs ls P_71 S_71 x71_1 x71_2 k4 x71_5 x71_6 x71_8 0 x71_4 r_x71_1 r_x71_2 r_x71_6 r_x71_8 (show zr 0 1 0 from by decide) gP_71 gS_71 hm11_71 iM_71 E hP hD hS (lv_sub hl [1, 2, 3, 0, 5, 6, 8] rfl)
          · have r_x71_7 : zr 2 2 x71_7 := zeq_x (show zr 2 2 2 from by decide) c_78
            refine lv_iconst (v := 1) hx hb dMO_isRight_81 (by decide) ?_
            refine lv_goto (tgt := 86) hx hb dMO_isRight_82 (by decide) ?_
            exact hJ86 H locs ls P_71 S_71 x71_1 x71_2 k4 x71_5 x71_6 x71_8 1 x71_4 r_x71_1 r_x71_2 r_x71_6 r_x71_8 (show zr 0 1 1 from by decide) gP_71 gS_71 hm11_71 iM_71 E hP hD hS (lv_sub hl [1, 2, 3, 0, 5, 6, 8] rfl)
        refine lv_istore (lv' := [(8, .int y49_0), (0, .ref (o 0)), (1, .int x49_1), (2, .int x49_2), (3, .int x49_3), (4, .int x49_4), (5, .int x49_5), (6, .int x49_6), (7, .int x49_7)]) hx hb dMO_isRight_49 hl (by decide) rfl (fun ls hl => ?_)
        refine lv_iload hx hb dMO_isRight_51 (lv_at hl 8 rfl) ?_
        refine lv_iconst (v := 2) hx hb dMO_isRight_53 (by decide) ?_
        refine z_icmp_le (tgt := 59) hx hb dMO_isRight_54 (by decide) E (fun c_54 E => ?_) (fun c_54 E => ?_)
        · have r_x49_7 : zr (-2147483648) 2 x49_7 := zle_x (zr_any x49_7) (show zr 2 2 2 from by decide) c_54 (by decide)
          refine lv_iload_n hx hb dMO_isRight_59 rfl (lv_at hl 4 rfl) ?_
          refine lv_iload hx hb dMO_isRight_60 (lv_at hl 8 rfl) ?_
          refine lv_iconst (v := 1) hx hb dMO_isRight_62 (by decide) ?_
          refine z_icmp_ne (tgt := 70) hx hb dMO_isRight_63 (by decide) E (fun c_63 E => ?_) (fun c_63 E => ?_)
          · refine lv_iconst (v := 0) hx hb dMO_isRight_70 (by decide) ?_
            exact hJ71 H locs ls P_49 S_49 x49_1 x49_2 x49_4 x49_5 x49_6 x49_7 y49_0 0 x49_3 r_x49_1 r_x49_2 r_x49_6 r_x49_7 r_y49_0 (show zr 0 1 0 from by decide) gP_49 gS_49 hm11_49 iM_49 (Or.inl rfl) E hP hD hS (lv_sub hl [1, 2, 3, 5, 6, 7, 8, 0] rfl)
          · have r_x49_7 : zr 1 1 x49_7 := zeq_x (show zr 1 1 1 from by decide) c_63
            refine lv_iconst (v := 1) hx hb dMO_isRight_66 (by decide) ?_
            refine lv_goto (tgt := 71) hx hb dMO_isRight_67 (by decide) ?_
            exact hJ71 H locs ls P_49 S_49 x49_1 x49_2 x49_4 x49_5 x49_6 x49_7 y49_0 1 x49_3 r_x49_1 r_x49_2 r_x49_6 (zr_mono r_x49_7 (by decide)) r_y49_0 (show zr 0 1 1 from by decide) gP_49 gS_49 hm11_49 iM_49 (Or.inr r_x49_7) E hP hD hS (lv_sub hl [1, 2, 3, 5, 6, 7, 8, 0] rfl)
        · have r_x49_7 : zr 3 2147483647 x49_7 := zlt_y (show zr 2 2 2 from by decide) (zr_any x49_7) (znle c_54) (by decide)
          refine lv_iconst (v := 0) hx hb dMO_isRight_57 (by decide) ?_
          rw [hQe]
          exact W.zret (v := 0) (ty := .boolean) hx hb hr (znar (show zr 0 1 0 from by decide)) (fun t ht hW => ⟨⟨0, (P_49, S_49), rfl, ⟨E.symm.trans etg, gP_49, gS_49, iM_49, (show zr 0 1 0 from by decide)⟩, by rw [ht]; exact hP, hD⟩, hS.F ht⟩) hS.2.2 dMO_isRight_58
      have hJ48 : ∀ (H : Heap) (locs : List Loc) (ls : Array Slot) (P_48 : ZS) (S_48 : ZS) (x48_1 : Int32) (x48_2 : Int32) (x48_3 : Int32) (x48_4 : Int32) (x48_5 : Int32) (x48_6 : Int32) (x48_7 : Int32), zr 0 5 x48_1 → zr 0 1 x48_2 → zr 0 47 x48_6 → mok P_48 → mok S_48 → 48 + 1 - x48_6.toInt ≤ ((n11 + 1 : Nat) : Int) → (zM P_48) → tg = fMO_isRight_48 rc11 P_48 S_48 x48_1 x48_2 x48_3 x48_4 x48_5 x48_6 x48_7 → va_P (dC, dI) zCl (MW cI cZ cA o b P_48 S_48) H → va_D A (MW cI cZ cA o b P_48 S_48) → va_S A s.heap H locs → lv_has ls 9 [(0, .ref (o 0)), (1, .int x48_1), (2, .int x48_2), (3, .int x48_3), (4, .int x48_4), (5, .int x48_5), (6, .int x48_6), (7, .int x48_7)] → W p l e ({ frames := 3, cells := 0, slots := 0, locals := 71 } : Room) s m ([.ref (o 0), .int x0, .int x1] : List Value).toArray below meth c H locs 0 0 Q (F0 m 48 ls []) := by
        intro H locs ls P_48 S_48 x48_1 x48_2 x48_3 x48_4 x48_5 x48_6 x48_7 r_x48_1 r_x48_2 r_x48_6 gP_48 gS_48 hm11_48 iM_48 E hP hD hS hl
        unfold fMO_isRight_48 at E
        refine lv_iconst (v := 0) hx hb dMO_isRight_48 (by decide) ?_
        exact hJ49 H locs ls P_48 S_48 x48_1 x48_2 x48_3 x48_4 x48_5 x48_6 x48_7 0 r_x48_1 r_x48_2 r_x48_6 (show zr 0 1 0 from by decide) gP_48 gS_48 hm11_48 iM_48 (Or.inl rfl) E hP hD hS (lv_sub hl [0, 1, 2, 3, 4, 5, 6, 7] rfl)
      refine lv_iload hx hb dMO_isRight_11 (lv_at hl 6 rfl) ?_
      refine lv_aload_n hx hb dMO_isRight_13 rfl (lv_at hl 0 rfl) ?_
      refine m_get_1 hx hb (hB.words zU_MO) hown hK hP (hB.word (zm4 k4_116) rfl) dMO_isRight_14 E (fun k5 ek5 E => ?_)
      have r_k5 : zr 0 48 k5 := by rw [ek5]; exact gP_11.2.1 1
      refine z_icmp_ge (tgt := 110) hx hb dMO_isRight_17 (by decide) E (fun c_17 E => ?_) (fun c_17 E => ?_)
      · refine lv_aload_n hx hb dMO_isRight_110 rfl (lv_at hl 0 rfl) ?_
        refine lv_iload_n hx hb dMO_isRight_111 rfl (lv_at hl 1 rfl) ?_
        refine zcI (va_runV (As := [.int x11_1]) (rest := []) ⟨hx, hb, hml, hown, zno⟩ (tMO_isOne l dC dI cI cZ cJ cA a0 s0 o b P_11 S_11 H.size x11_1 gP_11 gS_11) (zcw 1 (hB.word (zm5 k5_96) rfl) (hB.word (zm1 k1_9) rfl) (hB.word (zm5 k5_93) rfl) (hB.word (zm5 k5_95) rfl) (k2_selects_private (by decide) (hB.word (zm4 k4_109) rfl) (hB.word (zm5 k5_94) rfl) (hB.word (zm5 k5_95) rfl)) rfl rfl (by decide +kernel) ⟨Nat.le_of_ble_eq_true rfl, Nat.le_of_ble_eq_true rfl⟩) ⟨zP_blind, va_recv hK hP (ci := 7) (q0 := 0) rfl rfl, zP_pre hP hK hD hAD (zB_on hB hA0 hS)⟩ rfl rfl hl.1 rfl (lv_room (Nat.le_of_ble_eq_true rfl)) dMO_isRight_112 ⟨Nat.le_of_ble_eq_true rfl, Nat.le_of_ble_eq_true rfl⟩) hD hS hA (fun k7 S8 H6 locs h9 hP hD hS => ?_)
        have E := zl2_s E h9.1
        have gS8 := h9.2.1
        refine z_if_ne (tgt := 120) hx hb dMO_isRight_115 (by decide) E (fun c_115 E => ?_) (fun c_115 E => ?_)
        · have r_k7 : zr 1 1 k7 := zne_lo h9.2.2 c_115 (by decide)
          refine lv_iload_n hx hb dMO_isRight_120 rfl (lv_at hl 3 rfl) ?_
          refine z_if_ne (tgt := 157) hx hb dMO_isRight_121 (by decide) E (fun c_121 E => ?_) (fun c_121 E => ?_)
          · refine lv_iload_n hx hb dMO_isRight_157 rfl (lv_at hl 3 rfl) ?_
            refine lv_iconst (v := 2) hx hb dMO_isRight_158 (by decide) ?_
            refine z_icmp_ne (tgt := 185) hx hb dMO_isRight_159 (by decide) E (fun c_159 E => ?_) (fun c_159 E => ?_)
            · exact hJ185 H6 locs ls P_11 S8 gP_11 gS8 iM_11 E hP hD hS (lv_sub hl [] rfl)
            · have r_x11_3 : zr 2 2 x11_3 := zeq_x (show zr 2 2 2 from by decide) c_159
              refine lv_iload hx hb dMO_isRight_162 (lv_at hl 4 rfl) ?_
              refine z_if_le (tgt := 185) hx hb dMO_isRight_164 (by decide) E (fun c_164 E => ?_) (fun c_164 E => ?_)
              · have r_x11_4 : zr (-2147483648) 0 x11_4 := zle_x (zr_any x11_4) (show zr 0 0 0 from by decide) c_164 (by decide)
                exact hJ185 H6 locs ls P_11 S8 gP_11 gS8 iM_11 E hP hD hS (lv_sub hl [] rfl)
              · have r_x11_4 : zr 1 2147483647 x11_4 := zlt_y (show zr 0 0 0 from by decide) (zr_any x11_4) (znle c_164) (by decide)
                refine lv_iload hx hb dMO_isRight_167 (lv_at hl 5 rfl) ?_
                refine lv_iconst (v := 2) hx hb dMO_isRight_169 (by decide) ?_
                refine z_icmp_ne (tgt := 185) hx hb dMO_isRight_170 (by decide) E (fun c_170 E => ?_) (fun c_170 E => ?_)
                · exact hJ185 H6 locs ls P_11 S8 gP_11 gS8 iM_11 E hP hD hS (lv_sub hl [] rfl)
                · have r_x11_5 : zr 2 2 x11_5 := zeq_x (show zr 2 2 2 from by decide) c_170
                  refine lv_aload_n hx hb dMO_isRight_173 rfl (lv_at hl 0 rfl) ?_
                  refine lv_iload_n hx hb dMO_isRight_174 rfl (lv_at hl 1 rfl) ?_
                  refine zcallp (va_runV (As := [.int x11_1]) (rest := []) ⟨hx, hb, hml, hown, zno⟩ (tMO_isHung l dC dI cI cZ cJ cA a0 s0 o b P_11 S8 H6.size x11_1 gP_11 gS8 r_x11_1) (zcw 1 (hB.word (zm5 k5_104) rfl) (hB.word (zm1 k1_9) rfl) (hB.word (zm5 k5_101) rfl) (hB.word (zm5 k5_103) rfl) (k2_selects_private (by decide) (hB.word (zm4 k4_109) rfl) (hB.word (zm5 k5_102) rfl) (hB.word (zm5 k5_103) rfl)) rfl rfl (by decide +kernel) ⟨Nat.le_of_ble_eq_true rfl, Nat.le_of_ble_eq_true rfl⟩) ⟨zP_blind, va_recv hK hP (ci := 7) (q0 := 0) rfl rfl, zP_pre hP hK hD hAD (zB_on hB hA0 hS)⟩ rfl rfl hl.1 rfl (lv_room (Nat.le_of_ble_eq_true rfl)) dMO_isRight_175 ⟨Nat.le_of_ble_eq_true rfl, Nat.le_of_ble_eq_true rfl⟩) hS hA (fun k11 H10 locs hk11 hz1 hk1 hS => ?_)
                  have hP := zKeep hP hk1
                  have E := zl_s E hk11.1
                  refine z_if_eq (tgt := 185) hx hb dMO_isRight_178 (by decide) E (fun c_178 E => ?_) (fun c_178 E => ?_)
                  · have r_k11 : zr 0 0 k11 := zeq_x (show zr 0 0 0 from by decide) c_178
                    exact hJ185 H10 locs ls P_11 S8 gP_11 gS8 iM_11 E hP hD hS (lv_sub hl [] rfl)
                  · have r_k11 : zr 1 1 k11 := zne_lo hk11.2 c_178 (by decide)
                    refine lv_iconst (v := 1) hx hb dMO_isRight_181 (by decide) ?_
                    refine lv_goto (tgt := 186) hx hb dMO_isRight_182 (by decide) ?_
                    rw [hQe]
                    exact W.zret (v := 1) (ty := .boolean) hx hb hr (znar (show zr 0 1 1 from by decide)) (fun t ht hW => ⟨⟨1, (P_11, S8), rfl, ⟨E.symm.trans etg, gP_11, gS8, iM_11, (show zr 0 1 1 from by decide)⟩, by rw [ht]; exact hP, hD⟩, hS.F ht⟩) hS.2.2 dMO_isRight_186
          · have r_x11_3 : zr 0 0 x11_3 := zeq_x (show zr 0 0 0 from by decide) c_121
            refine lv_aload_n hx hb dMO_isRight_124 rfl (lv_at hl 0 rfl) ?_
            refine m_getA_5 hx hb (hB.words zU_MO) hown hK hP (hB.word (zm4 k4_127) rfl) dMO_isRight_125 ?_
            refine lv_iload_n hx hb dMO_isRight_128 rfl (lv_at hl 1 rfl) ?_
            refine lv_iconst (v := 1) hx hb dMO_isRight_129 (by decide) ?_
            refine m_zastP hx hb hK hP hD hS 5 (by decide) rfl r_x11_1 (by decide) (show zr 0 1 1 from by decide) dMO_isRight_130 E (fun P12 H13 locs eP12 E hP hD hS => ?_)
            have gP12 : mok P12 := by rw [eP12]; exact gP_11.setF (k := 5) (show zr 0 1 1 from by decide) (Or.inl (by decide))
            have iM_P12 : zM P12 := by rw [eP12]; exact iM_11
            refine lv_iload hx hb dMO_isRight_131 (lv_at hl 4 rfl) ?_
            refine lv_iconst (v := 3) hx hb dMO_isRight_133 (by decide) ?_
            refine z_icmp_lt (tgt := 155) hx hb dMO_isRight_134 (by decide) E (fun c_134 E => ?_) (fun c_134 E => ?_)
            · have r_x11_4 : zr (-2147483648) 2 x11_4 := zlt_x (zr_any x11_4) (show zr 3 3 3 from by decide) c_134 (by decide)
              exact hJ155 H13 locs ls P12 S8 gP12 gS8 iM_P12 E hP hD hS (lv_sub hl [] rfl)
            · have r_x11_4 : zr 3 2147483647 x11_4 := zle_y (show zr 3 3 3 from by decide) (zr_any x11_4) (znlt c_134) (by decide)
              refine lv_iload hx hb dMO_isRight_137 (lv_at hl 5 rfl) ?_
              refine lv_iload_n hx hb dMO_isRight_139 rfl (lv_at hl 2 rfl) ?_
              refine z_if_eq (tgt := 147) hx hb dMO_isRight_140 (by decide) E (fun c_140 E => ?_) (fun c_140 E => ?_)
              · have r_x11_2 : zr 0 0 x11_2 := zeq_x (show zr 0 0 0 from by decide) c_140
                refine lv_iconst (v := 1) hx hb dMO_isRight_147 (by decide) ?_
                exact hJ148 H13 locs ls P12 S8 1 x11_5 (show zr 0 1 1 from by decide) gP12 gS8 iM_P12 E hP hD hS (lv_sub hl [] rfl)
              · have r_x11_2 : zr 1 1 x11_2 := zne_lo r_x11_2 c_140 (by decide)
                refine lv_iconst (v := 0) hx hb dMO_isRight_143 (by decide) ?_
                refine lv_goto (tgt := 148) hx hb dMO_isRight_144 (by decide) ?_
                exact hJ148 H13 locs ls P12 S8 0 x11_5 (show zr 0 1 0 from by decide) gP12 gS8 iM_P12 E hP hD hS (lv_sub hl [] rfl)
        · have r_k7 : zr 0 0 k7 := zeq_x (show zr 0 0 0 from by decide) c_115
          refine lv_iconst (v := 0) hx hb dMO_isRight_118 (by decide) ?_
          rw [hQe]
          exact W.zret (v := 0) (ty := .boolean) hx hb hr (znar (show zr 0 1 0 from by decide)) (fun t ht hW => ⟨⟨0, (P_11, S8), rfl, ⟨E.symm.trans etg, gP_11, gS8, iM_11, (show zr 0 1 0 from by decide)⟩, by rw [ht]; exact hP, hD⟩, hS.F ht⟩) hS.2.2 dMO_isRight_119
      · have r_x11_6 : zr 0 47 x11_6 := zlt_x r_x11_6 r_k5 (znle c_17) (by decide)
        have r_k5 : zr 1 48 k5 := zlt_y r_x11_6 r_k5 (znle c_17) (by decide)
        refine lv_aload_n hx hb dMO_isRight_20 rfl (lv_at hl 0 rfl) ?_
        refine lv_iload hx hb dMO_isRight_21 (lv_at hl 6 rfl) ?_
        refine lv_iload_n hx hb dMO_isRight_23 rfl (lv_at hl 1 rfl) ?_
        refine zcallp (va_runV (As := [.int x11_6, .int x11_1]) (rest := []) ⟨hx, hb, hml, hown, zno⟩ (tMO_degreeIn l dC dI cI cZ cJ cA a0 s0 o b P_11 S_11 H.size x11_6 x11_1 gP_11 gS_11) (zcw 2 (hB.word (zm5 k5_76) rfl) (hB.word (zm1 k1_9) rfl) (hB.word (zm5 k5_73) rfl) (hB.word (zm5 k5_75) rfl) (k2_selects_private (by decide) (hB.word (zm4 k4_109) rfl) (hB.word (zm5 k5_74) rfl) (hB.word (zm5 k5_75) rfl)) rfl rfl (by decide +kernel) ⟨Nat.le_of_ble_eq_true rfl, Nat.le_of_ble_eq_true rfl⟩) ⟨zP_blind, va_recv hK hP (ci := 7) (q0 := 0) rfl rfl, zP_pre hP hK hD hAD (zB_on hB hA0 hS)⟩ rfl rfl hl.1 rfl (lv_room (Nat.le_of_ble_eq_true rfl)) dMO_isRight_24 ⟨Nat.le_of_ble_eq_true rfl, Nat.le_of_ble_eq_true rfl⟩) hS hA (fun k15 H14 locs hk15 hz1 hk1 hS => ?_)
        have hP := zKeep hP hk1
        have E := zl_s E hk15.1
        refine lv_istore (lv' := [(7, .int k15), (0, .ref (o 0)), (1, .int x11_1), (2, .int x11_2), (3, .int x11_3), (4, .int x11_4), (5, .int x11_5), (6, .int x11_6)]) hx hb dMO_isRight_27 hl (by decide) rfl (fun ls hl => ?_)
        refine lv_iload hx hb dMO_isRight_29 (lv_at hl 0 rfl) ?_
        refine z_if_le (tgt := 48) hx hb dMO_isRight_31 (by decide) E (fun c_31 E => ?_) (fun c_31 E => ?_)
        · have r_k15 : zr (-2147483648) 0 k15 := zle_x (zr_any k15) (show zr 0 0 0 from by decide) c_31 (by decide)
          exact hJ48 H14 locs ls P_11 S_11 x11_1 x11_2 x11_3 x11_4 x11_5 x11_6 k15 r_x11_1 r_x11_2 r_x11_6 gP_11 gS_11 hm11 iM_11 E hP hD hS (lv_sub hl [1, 2, 3, 4, 5, 6, 7, 0] rfl)
        · have r_k15 : zr 1 2147483647 k15 := zlt_y (show zr 0 0 0 from by decide) (zr_any k15) (znle c_31) (by decide)
          refine lv_aload_n hx hb dMO_isRight_34 rfl (lv_at hl 1 rfl) ?_
          refine lv_iload hx hb dMO_isRight_35 (lv_at hl 7 rfl) ?_
          refine lv_iload_n hx hb dMO_isRight_37 rfl (lv_at hl 2 rfl) ?_
          refine zcallp (va_runV (As := [.int x11_6, .int x11_1]) (rest := []) ⟨hx, hb, hml, hown, zno⟩ (tMO_isEarlier l dC dI cI cZ cJ cA a0 s0 o b P_11 S_11 H14.size x11_6 x11_1 gP_11 gS_11 r_x11_1) (zcw 2 (hB.word (zm5 k5_92) rfl) (hB.word (zm1 k1_9) rfl) (hB.word (zm5 k5_89) rfl) (hB.word (zm5 k5_91) rfl) (k2_selects_private (by decide) (hB.word (zm4 k4_109) rfl) (hB.word (zm5 k5_90) rfl) (hB.word (zm5 k5_91) rfl)) rfl rfl (by decide +kernel) ⟨Nat.le_of_ble_eq_true rfl, Nat.le_of_ble_eq_true rfl⟩) ⟨zP_blind, va_recv hK hP (ci := 7) (q0 := 0) rfl rfl, zP_pre hP hK hD hAD (zB_on hB hA0 hS)⟩ rfl rfl hl.1 rfl (lv_room (Nat.le_of_ble_eq_true rfl)) dMO_isRight_38 ⟨Nat.le_of_ble_eq_true rfl, Nat.le_of_ble_eq_true rfl⟩) hS hA (fun k17 H16 locs hk17 hz1 hk1 hS => ?_)
          have hP := zKeep hP hk1
          have E := zl_s E hk17.1
          refine z_if_eq (tgt := 48) hx hb dMO_isRight_41 (by decide) E (fun c_41 E => ?_) (fun c_41 E => ?_)
          · have r_k17 : zr 0 0 k17 := zeq_x (show zr 0 0 0 from by decide) c_41
            exact hJ48 H16 locs ls P_11 S_11 x11_1 x11_2 x11_3 x11_4 x11_5 x11_6 k15 r_x11_1 r_x11_2 r_x11_6 gP_11 gS_11 hm11 iM_11 E hP hD hS (lv_sub hl [1, 2, 3, 4, 5, 6, 7, 0] rfl)
          · have r_k17 : zr 1 1 k17 := zne_lo hk17.2 c_41 (by decide)
            refine lv_iconst (v := 1) hx hb dMO_isRight_44 (by decide) ?_
            refine lv_goto (tgt := 49) hx hb dMO_isRight_45 (by decide) ?_
            exact hJ49 H16 locs ls P_11 S_11 x11_1 x11_2 x11_3 x11_4 x11_5 x11_6 k15 1 r_x11_1 r_x11_2 r_x11_6 (show zr 0 1 1 from by decide) gP_11 gS_11 hm11 iM_11 (Or.inr r_k15) E hP hD hS (lv_sub hl [1, 2, 3, 4, 5, 6, 7, 0] rfl)
  refine lv_iconst (v := 0) hx hb dMO_isRight_0 (by decide) ?_
  refine lv_istore_n (lv' := [(3, .int 0), (0, .ref (o 0)), (1, .int x0), (2, .int x1)]) hx hb dMO_isRight_1 rfl hl (by decide) rfl (fun ls hl => ?_)
  refine lv_iconst (v := 0) hx hb dMO_isRight_2 (by decide) ?_
  refine lv_istore (lv' := [(4, .int 0), (3, .int 0), (0, .ref (o 0)), (1, .int x0), (2, .int x1)]) hx hb dMO_isRight_3 hl (by decide) rfl (fun ls hl => ?_)
  refine lv_iconst (v := 0) hx hb dMO_isRight_5 (by decide) ?_
  refine lv_istore (lv' := [(5, .int 0), (4, .int 0), (3, .int 0), (0, .ref (o 0)), (1, .int x0), (2, .int x1)]) hx hb dMO_isRight_6 hl (by decide) rfl (fun ls hl => ?_)
  refine lv_iconst (v := 0) hx hb dMO_isRight_8 (by decide) ?_
  refine lv_istore (lv' := [(6, .int 0), (5, .int 0), (4, .int 0), (3, .int 0), (0, .ref (o 0)), (1, .int x0), (2, .int x1)]) hx hb dMO_isRight_9 hl (by decide) rfl (fun ls hl => ?_)
  exact hL11 49 s.heap [] ls P S x0 x1 0 0 0 0 r_x0 r_x1 (show zr 0 48 0 from by decide) gP gS iM (by have h9 := (show zr 0 0 0 from by decide); exact zfuelU h9 (by decide)) E hP hD hS (lv_sub hl [4, 5, 6, 3, 2, 1, 0] rfl)
noncomputable def fMO_faultOf_162 (rc72 : ZS → ZS → Int32 → Int32 → (ZS × ZS × Int32)) (P_162 : ZS) (S_162 : ZS) (x162_1 : Int32) (x162_2 : Int32) : ZS × ZS × Int32 := zl (x162_2 + 1) (fun k1 => rc72 P_162 S_162 x162_1 k1)
noncomputable def fMO_faultOf_156 (P_156 : ZS) (S_156 : ZS) (x156_2 : Int32) : ZS × ZS × Int32 := zl (x156_2 + 1) (fun k2 => (P_156, S_156, k2))
noncomputable def fMO_faultOf_142 (rc72 : ZS → ZS → Int32 → Int32 → (ZS × ZS × Int32)) (P_142 : ZS) (S_142 : ZS) (x142_1 : Int32) (x142_2 : Int32) (y142_0 : Int32) : ZS × ZS × Int32 := zl3 (fMO_isRight P_142 S_142 x142_2 x142_1) (fun P6 S5 k4 => (if k4 = 0 then fMO_faultOf_156 P6 S5 x142_2 else (if y142_0 = 0 then fMO_faultOf_156 P6 S5 x142_2 else fMO_faultOf_162 rc72 P6 S5 0 x142_2)))
noncomputable def fMO_faultOf_141 (rc72 : ZS → ZS → Int32 → Int32 → (ZS × ZS × Int32)) (P_141 : ZS) (S_141 : ZS) (x141_1 : Int32) (x141_2 : Int32) : ZS × ZS × Int32 := fMO_faultOf_142 rc72 P_141 S_141 x141_1 x141_2 0
noncomputable def fMO_faultOf_72 (rc72 : ZS → ZS → Int32 → Int32 → (ZS × ZS × Int32)) (P_72 : ZS) (S_72 : ZS) (x72_1 : Int32) (x72_2 : Int32) : ZS × ZS × Int32 := (if 6 ≤ x72_2 then (P_72, S_72, 0) else zl (P_72.setF 5 (x72_2 : Int32).toNatClampNeg 0) (fun P8 => zl (fMO_linksIn P8 S_72 x72_2) (fun k11 => (if k11 ≤ 0 then fMO_faultOf_162 rc72 P8 S_72 x72_1 x72_2 else zl (P8.F 3 (x72_2 : Int32).toNatClampNeg) (fun k12 => (if k12 = (-1) then fMO_faultOf_141 rc72 P8 S_72 x72_1 x72_2 else zl (P8.F 4 (x72_2 : Int32).toNatClampNeg) (fun k13 => zl (P8.F 2 (k13 : Int32).toNatClampNeg) (fun k14 => (if k14 = x72_2 then zl (P8.F 3 (x72_2 : Int32).toNatClampNeg) (fun k15 => zl (P8.F 4 (x72_2 : Int32).toNatClampNeg) (fun k16 => zl (fMO_isEnd P8 S_72 k12 k13) (fun k18 => (if k18 = 0 then fMO_faultOf_141 rc72 P8 S_72 x72_1 x72_2 else fMO_faultOf_142 rc72 P8 S_72 x72_1 x72_2 1)))) else fMO_faultOf_141 rc72 P8 S_72 x72_1 x72_2)))))))))
noncomputable def fMO_faultOf_48 (rc12 : ZS → ZS → Int32 → (ZS × ZS × Int32)) (rc24 : ZS → ZS → Int32 → Int32 → Int32 → (ZS × ZS × Int32)) (P_48 : ZS) (S_48 : ZS) (x48_1 : Int32) (x48_3 : Int32) (y48_0 : Int32) : ZS × ZS × Int32 := zl (x48_3 + 1) (fun k19 => rc24 P_48 S_48 x48_1 y48_0 k19)
noncomputable def fMO_faultOf_43 (rc12 : ZS → ZS → Int32 → (ZS × ZS × Int32)) (rc24 : ZS → ZS → Int32 → Int32 → Int32 → (ZS × ZS × Int32)) (P_43 : ZS) (S_43 : ZS) (x43_1 : Int32) (x43_3 : Int32) : ZS × ZS × Int32 := fMO_faultOf_48 rc12 rc24 P_43 S_43 x43_1 x43_3 1
noncomputable def fMO_faultOf_24 (rc12 : ZS → ZS → Int32 → (ZS × ZS × Int32)) (rc24 : ZS → ZS → Int32 → Int32 → Int32 → (ZS × ZS × Int32)) (P_24 : ZS) (S_24 : ZS) (x24_1 : Int32) (x24_2 : Int32) (x24_3 : Int32) : ZS × ZS × Int32 := (if 6 ≤ x24_3 then (if x24_2 = 0 then (P_24, S_24, 7) else zl (x24_1 + 1) (fun k20 => rc12 P_24 S_24 k20)) else (if x24_2 = 0 then zl (fMO_degreeIn P_24 S_24 x24_1 x24_3) (fun k22 => (if k22 ≤ 0 then fMO_faultOf_48 rc12 rc24 P_24 S_24 x24_1 x24_3 0 else fMO_faultOf_43 rc12 rc24 P_24 S_24 x24_1 x24_3)) else fMO_faultOf_43 rc12 rc24 P_24 S_24 x24_1 x24_3))
noncomputable def fMO_faultOf_12 (rc12 : ZS → ZS → Int32 → (ZS × ZS × Int32)) (P_12 : ZS) (S_12 : ZS) (x12_1 : Int32) : ZS × ZS × Int32 := zl (P_12.I 1) (fun k23 => (if k23 ≤ x12_1 then zfix (fun P9 S9 _ _ => (P9, S9, 0)) (fMO_faultOf_72 ) 7 P_12 S_12 1 0 else zfix (fun P9 S9 _ _ _ => (P9, S9, 0)) (fMO_faultOf_24 rc12) 7 P_12 S_12 x12_1 0 0))
noncomputable def fMO_faultOf (P S : ZS) : ZS × ZS × Int32 := zl (P.I 2) (fun k24 => (if k24 = 0 then (P, S, 7) else zfix (fun P9 S9 _ => (P9, S9, 0)) (fMO_faultOf_12 ) 49 P S 0))
set_option maxHeartbeats 4000000 in
set_option maxRecDepth 100000 in
theorem tMO_faultOf (l : Launch) (dC : Nat → ClassId) (dI : Nat → Nat → Nat) (cI cZ cJ cA : ClassId) (a0 : Array Value) (s0 : State) (o b : Nat → Nat) (P S : ZS) (sz : Nat) (gP : mok P) (gS : mok S) (iM : zM P) : Met l yMO_faultOf [Cond.code yMO_faultOf bMO_faultOf 4 (some .int)] ({ frames := 4, cells := 0, slots := 0, locals := 99 } : Room) (zP zCl dC dI (zTZ cI cZ cJ cA) a0 s0 [.ref (o 0)] sz (MW cI cZ cA o b P S)) (zQH zCl dC dI (fun (r : Int32) (x9 : ZS × ZS) => (x9.1, x9.2, r) = fMO_faultOf P S  ∧ mok x9.1 ∧ mok x9.2 ∧ (zM x9.1) ∧ zr 0 7 r) (fun x9 : ZS × ZS => (MW cI cZ cA o b x9.1 x9.2)) (va_A (MW cI cZ cA o b P S) sz)) 0 0 (va_A (MW cI cZ cA o b P S) sz) := by
  refine Met.ofW (cc := bMO_faultOf) (maxL := 4) (ret := (some .int)) (by decide) rfl ?_
  intro p e s m args below meth c s₁ B hml hv
  obtain ⟨rfl, hsz, hP, hK, hD0, hB⟩ := hv
  have hx := B.exec
  have hb := B.bytes
  have hr := B.returns
  have hown : s.vm.findClass "RingGuardModel" = some m.cls := findClass_of_methodNamed B.named
  have hlocks := B.notSynchronized
  subst hsz
  have hD := hD0.self (sz := s.heap.size)
  have hA0 := zA0 hD0 hB
  generalize hAe : va_A (MW cI cZ cA o b P S) s.heap.size = A at hD hA0 ⊢
  have hAD := hA0
  have hA : ∀ q : Nat, s.heap.size ≤ q → A q := fun q h => by rw [← hAe]; exact Or.inr h
  have hS : va_S A s.heap s.heap [] := va_S.rf
  have hl := lv_entry ([.ref (o 0)]) (n := 4) (Nat.le_of_ble_eq_true rfl)
  rw [lg_entry_eq]
  generalize (lg_sl ([.ref (o 0)]) ++ List.replicate (4 - (lg_sl ([.ref (o 0)])).length) Slot.unset).toArray = ls at hl ⊢
  have hl : lv_has ls 4 [(0, .ref (o 0))] := hl
  refine zgenQ (fun Q hQe => ?_)
  obtain ⟨tg, etg⟩ : ∃ z, z = fMO_faultOf P S  := ⟨_, rfl⟩
  have E := etg
  unfold fMO_faultOf at E
  have hL12 : ∀ (n12 : Nat) (H : Heap) (locs : List Loc) (ls : Array Slot) (P_12 : ZS) (S_12 : ZS) (x12_1 : Int32), zr 0 48 x12_1 → mok P_12 → mok S_12 → (zM P_12) → 48 + 1 - x12_1.toInt ≤ (n12 : Int) → tg = zfix (fun P9 S9 _ => (P9, S9, 0)) (fMO_faultOf_12 ) n12 P_12 S_12 x12_1 → va_P (dC, dI) zCl (MW cI cZ cA o b P_12 S_12) H → va_D A (MW cI cZ cA o b P_12 S_12) → va_S A s.heap H locs → lv_has ls 4 [(0, .ref (o 0)), (1, .int x12_1)] → W p l e ({ frames := 4, cells := 0, slots := 0, locals := 99 } : Room) s m ([.ref (o 0)] : List Value).toArray below meth c H locs 0 0 Q (F0 m 12 ls []) := by
    intro n12
    induction n12 with
    | zero => intro H locs ls P_12 S_12 x12_1 r_x12_1 gP_12 gS_12 iM_12 hm12 E hP hD hS hl; exact absurd hm12 (zfuel0U r_x12_1)
    | succ n12 ih12 =>
      intro H locs ls P_12 S_12 x12_1 r_x12_1 gP_12 gS_12 iM_12 hm12 E hP hD hS hl
      rw [zfix_s] at E
      generalize zfix (fun P9 S9 _ => (P9, S9, 0)) (fMO_faultOf_12 ) n12 = rc12 at ih12 E
      unfold fMO_faultOf_12 at E
      have hL72 : ∀ (n72 : Nat) (H : Heap) (locs : List Loc) (ls : Array Slot) (P_72 : ZS) (S_72 : ZS) (x72_1 : Int32) (x72_2 : Int32), zr 0 1 x72_1 → zr 0 6 x72_2 → mok P_72 → mok S_72 → (zM P_72) → (x72_1 = 1 ∨ zr 1 6 (x72_2)) → 6 + 1 - x72_2.toInt ≤ (n72 : Int) → tg = zfix (fun P9 S9 _ _ => (P9, S9, 0)) (fMO_faultOf_72 ) n72 P_72 S_72 x72_1 x72_2 → va_P (dC, dI) zCl (MW cI cZ cA o b P_72 S_72) H → va_D A (MW cI cZ cA o b P_72 S_72) → va_S A s.heap H locs → lv_has ls 4 [(0, .ref (o 0)), (1, .int x72_1), (2, .int x72_2)] → W p l e ({ frames := 4, cells := 0, slots := 0, locals := 99 } : Room) s m ([.ref (o 0)] : List Value).toArray below meth c H locs 0 0 Q (F0 m 72 ls []) := by
        intro n72
        induction n72 with
        | zero => intro H locs ls P_72 S_72 x72_1 x72_2 r_x72_1 r_x72_2 gP_72 gS_72 iM_72 cd72_0 hm72 E hP hD hS hl; exact absurd hm72 (zfuel0U r_x72_2)
        | succ n72 ih72 =>
          intro H locs ls P_72 S_72 x72_1 x72_2 r_x72_1 r_x72_2 gP_72 gS_72 iM_72 cd72_0 hm72 E hP hD hS hl
          rw [zfix_s] at E
          generalize zfix (fun P9 S9 _ _ => (P9, S9, 0)) (fMO_faultOf_72 ) n72 = rc72 at ih72 E
          unfold fMO_faultOf_72 at E
          have hJ162 : ∀ (H : Heap) (locs : List Loc) (ls : Array Slot) (P_162 : ZS) (S_162 : ZS) (x162_1 : Int32) (x162_2 : Int32), zr 0 1 x162_1 → zr 0 5 x162_2 → mok P_162 → mok S_162 → 6 + 1 - x162_2.toInt ≤ ((n72 + 1 : Nat) : Int) → (zM P_162) → tg = fMO_faultOf_162 rc72 P_162 S_162 x162_1 x162_2 → va_P (dC, dI) zCl (MW cI cZ cA o b P_162 S_162) H → va_D A (MW cI cZ cA o b P_162 S_162) → va_S A s.heap H locs → lv_has ls 4 [(0, .ref (o 0)), (1, .int x162_1), (2, .int x162_2)] → W p l e ({ frames := 4, cells := 0, slots := 0, locals := 99 } : Room) s m ([.ref (o 0)] : List Value).toArray below meth c H locs 0 0 Q (F0 m 162 ls []) := by
            intro H locs ls P_162 S_162 x162_1 x162_2 r_x162_1 r_x162_2 gP_162 gS_162 hm72_162 iM_162 E hP hD hS hl
            unfold fMO_faultOf_162 at E
            refine z_iinc (lv' := fun v9 => [(2, .int v9), (0, .ref (o 0)), (1, .int x162_1)]) (cst := 1) hx hb dMO_faultOf_162 hl (k := 2) rfl (by decide) (by decide) (fun _ => rfl) E (fun k1 ls ek1 E hl => ?_)
            have r_k1 : zr 1 6 k1 := zr_add r_x162_2 (show zr 1 1 1 from by decide) ek1 (by decide)
            refine lv_goto (tgt := 72) hx hb dMO_faultOf_165 (by decide) ?_
            exact ih72 H locs ls P_162 S_162 x162_1 k1 r_x162_1 (zr_mono r_k1 (by decide)) gP_162 gS_162 iM_162 (Or.inr r_k1) (zstepU ek1 r_x162_2 (by decide) hm72_162) E hP hD hS (lv_sub hl [1, 2, 0] rfl)
          have hJ142 : ∀ (H : Heap) (locs : List Loc) (ls : Array Slot) (P_142 : ZS) (S_142 : ZS) (x142_1 : Int32) (x142_2 : Int32) (y142_0 : Int32), zr 0 1 x142_1 → zr 0 5 x142_2 → zr 0 1 y142_0 → mok P_142 → mok S_142 → 6 + 1 - x142_2.toInt ≤ ((n72 + 1 : Nat) : Int) → (zM P_142) → tg = fMO_faultOf_142 rc72 P_142 S_142 x142_1 x142_2 y142_0 → va_P (dC, dI) zCl (MW cI cZ cA o b P_142 S_142) H → va_D A (MW cI cZ cA o b P_142 S_142) → va_S A s.heap H locs → lv_has ls 4 [(0, .ref (o 0)), (1, .int x142_1), (2, .int x142_2)] → W p l e ({ frames := 4, cells := 0, slots := 0, locals := 99 } : Room) s m ([.ref (o 0)] : List Value).toArray below meth c H locs 0 0 Q (F0 m 142 ls [.int y142_0]) := by
            intro H locs ls P_142 S_142 x142_1 x142_2 y142_0 r_x142_1 r_x142_2 r_y142_0 gP_142 gS_142 hm72_142 iM_142 E hP hD hS hl
            unfold fMO_faultOf_142 at E
            have hJ156 : ∀ (H : Heap) (locs : List Loc) (ls : Array Slot) (P_156 : ZS) (S_156 : ZS) (x156_2 : Int32), zr 0 5 x156_2 → mok P_156 → mok S_156 → (zM P_156) → tg = fMO_faultOf_156  P_156 S_156 x156_2 → va_P (dC, dI) zCl (MW cI cZ cA o b P_156 S_156) H → va_D A (MW cI cZ cA o b P_156 S_156) → va_S A s.heap H locs → lv_has ls 4 [(2, .int x156_2)] → W p l e ({ frames := 4, cells := 0, slots := 0, locals := 99 } : Room) s m ([.ref (o 0)] : List Value).toArray below meth c H locs 0 0 Q (F0 m 156 ls []) := by
              intro H locs ls P_156 S_156 x156_2 r_x156_2 gP_156 gS_156 iM_156 E hP hD hS hl
              unfold fMO_faultOf_156 at E
              refine lv_iload_n hx hb dMO_faultOf_156 rfl (lv_at hl 0 rfl) ?_
              refine lv_iconst (v := 1) hx hb dMO_faultOf_157 (by decide) ?_
              refine z_iadd hx hb dMO_faultOf_158 E (fun k2 ek2 E => ?_)
              have r_k2 : zr 1 6 k2 := zr_add r_x156_2 (show zr 1 1 1 from by decide) ek2 (by decide)
              rw [hQe]
              exact W.iret (v := k2) hx hb hr (fun t ht hW => ⟨⟨k2, (P_156, S_156), rfl, ⟨E.symm.trans etg, gP_156, gS_156, iM_156, (zr_mono r_k2 (by decide))⟩, by rw [ht]; exact hP, hD⟩, hS.F ht⟩) hS.2.2 dMO_faultOf_159
            refine lv_istore_n (lv' := [(3, .int y142_0), (0, .ref (o 0)), (1, .int x142_1), (2, .int x142_2)]) hx hb dMO_faultOf_142 rfl hl (by decide) rfl (fun ls hl => ?_)
            refine lv_aload_n hx hb dMO_faultOf_143 rfl (lv_at hl 1 rfl) ?_
            refine lv_iload_n hx hb dMO_faultOf_144 rfl (lv_at hl 3 rfl) ?_
            refine lv_iload_n hx hb dMO_faultOf_145 rfl (lv_at hl 2 rfl) ?_
            refine zcI (va_runV (As := [.int x142_2, .int x142_1]) (rest := []) ⟨hx, hb, hml, hown, zno⟩ (tMO_isRight l dC dI cI cZ cJ cA a0 s0 o b P_142 S_142 H.size x142_2 x142_1 gP_142 gS_142 iM_142 r_x142_2 r_x142_1) (zcw 2 (hB.word (zm5 k5_88) rfl) (hB.word (zm1 k1_9) rfl) (hB.word (zm5 k5_85) rfl) (hB.word (zm5 k5_87) rfl) (k2_selects_private (by decide) (hB.word (zm4 k4_109) rfl) (hB.word (zm5 k5_86) rfl) (hB.word (zm5 k5_87) rfl)) rfl rfl (by decide +kernel) ⟨Nat.le_of_ble_eq_true rfl, Nat.le_of_ble_eq_true rfl⟩) ⟨zP_blind, va_recv hK hP (ci := 7) (q0 := 0) rfl rfl, zP_pre hP hK hD hAD (zB_on hB hA0 hS)⟩ rfl rfl hl.1 rfl (lv_room (Nat.le_of_ble_eq_true rfl)) dMO_faultOf_146 ⟨Nat.le_of_ble_eq_true rfl, Nat.le_of_ble_eq_true rfl⟩) hD hS hA (fun k4 x9 H3 locs h7 hP hD hS => ?_)
            obtain ⟨P6, S5⟩ := x9
            have hP : va_P (dC, dI) zCl (MW cI cZ cA o b P6 S5) H3 := hP
            have hD : va_D A (MW cI cZ cA o b P6 S5) := hD
            have E := zl3_s E h7.1
            have gP6 := h7.2.1
            have gS5 := h7.2.2.1
            have iM_P6 := h7.2.2.2.1
            refine z_if_eq (tgt := 156) hx hb dMO_faultOf_149 (by decide) E (fun c_149 E => ?_) (fun c_149 E => ?_)
            · have r_k4 : zr 0 0 k4 := zeq_x (show zr 0 0 0 from by decide) c_149
              exact hJ156 H3 locs ls P6 S5 x142_2 r_x142_2 gP6 gS5 iM_P6 E hP hD hS (lv_sub hl [3] rfl)
            · have r_k4 : zr 1 1 k4 := zne_lo h7.2.2.2.2 c_149 (by decide)
              refine lv_iload_n hx hb dMO_faultOf_152 rfl (lv_at hl 0 rfl) ?_
              refine z_if_ne (tgt := 160) hx hb dMO_faultOf_153 (by decide) E (fun c_153 E => ?_) (fun c_153 E => ?_)
              · have r_y142_0 : zr 1 1 y142_0 := zne_lo r_y142_0 c_153 (by decide)
                refine lv_iconst (v := 0) hx hb dMO_faultOf_160 (by decide) ?_
                refine lv_istore_n (lv' := [(1, .int 0), (3, .int y142_0), (0, .ref (o 0)), (2, .int x142_2)]) hx hb dMO_faultOf_161 rfl hl (by decide) rfl (fun ls hl => ?_)
                exact hJ162 H3 locs ls P6 S5 0 x142_2 (show zr 0 1 0 from by decide) r_x142_2 gP6 gS5 hm72_142 iM_P6 E hP hD hS (lv_sub hl [2, 0, 3] rfl)
              · have r_y142_0 : zr 0 0 y142_0 := zeq_x (show zr 0 0 0 from by decide) c_153
                exact hJ156 H3 locs ls P6 S5 x142_2 r_x142_2 gP6 gS5 iM_P6 E hP hD hS (lv_sub hl [3] rfl)
          have hJ141 : ∀ (H : Heap) (locs : List Loc) (ls : Array Slot) (P_141 : ZS) (S_141 : ZS) (x141_1 : Int32) (x141_2 : Int32), zr 0 1 x141_1 → zr 0 5 x141_2 → mok P_141 → mok S_141 → 6 + 1 - x141_2.toInt ≤ ((n72 + 1 : Nat) : Int) → (zM P_141) → tg = fMO_faultOf_141 rc72 P_141 S_141 x141_1 x141_2 → va_P (dC, dI) zCl (MW cI cZ cA o b P_141 S_141) H → va_D A (MW cI cZ cA o b P_141 S_141) → va_S A s.heap H locs → lv_has ls 4 [(0, .ref (o 0)), (1, .int x141_1), (2, .int x141_2)] → W p l e ({ frames := 4, cells := 0, slots := 0, locals := 99 } : Room) s m ([.ref (o 0)] : List Value).toArray below meth c H locs 0 0 Q (F0 m 141 ls []) := by
            intro H locs ls P_141 S_141 x141_1 x141_2 r_x141_1 r_x141_2 gP_141 gS_141 hm72_141 iM_141 E hP hD hS hl
            unfold fMO_faultOf_141 at E
            refine lv_iconst (v := 0) hx hb dMO_faultOf_141 (by decide) ?_
            exact hJ142 H locs ls P_141 S_141 x141_1 x141_2 0 r_x141_1 r_x141_2 (show zr 0 1 0 from by decide) gP_141 gS_141 hm72_141 iM_141 E hP hD hS (lv_sub hl [0, 1, 2] rfl)
          refine lv_iload_n hx hb dMO_faultOf_72 rfl (lv_at hl 2 rfl) ?_
          refine lv_bipush (v := 6) hx hb dMO_faultOf_73 (by decide) ?_
          refine z_icmp_ge (tgt := 168) hx hb dMO_faultOf_75 (by decide) E (fun c_75 E => ?_) (fun c_75 E => ?_)
          · have r_x72_2 : zr 6 6 x72_2 := zle_y (show zr 6 6 6 from by decide) r_x72_2 c_75 (by decide)
            refine lv_iconst (v := 0) hx hb dMO_faultOf_168 (by decide) ?_
            rw [hQe]
            exact W.iret (v := 0) hx hb hr (fun t ht hW => ⟨⟨0, (P_72, S_72), rfl, ⟨E.symm.trans etg, gP_72, gS_72, iM_72, (show zr 0 7 0 from by decide)⟩, by rw [ht]; exact hP, hD⟩, hS.F ht⟩) hS.2.2 dMO_faultOf_169
          · have r_x72_2 : zr 0 5 x72_2 := zlt_x r_x72_2 (show zr 6 6 6 from by decide) (znle c_75) (by decide)
            refine lv_aload_n hx hb dMO_faultOf_78 rfl (lv_at hl 0 rfl) ?_
            refine m_getA_5 hx hb (hB.words zU_MO) hown hK hP (hB.word (zm4 k4_127) rfl) dMO_faultOf_79 ?_
            refine lv_iload_n hx hb dMO_faultOf_82 rfl (lv_at hl 2 rfl) ?_
            refine lv_iconst (v := 0) hx hb dMO_faultOf_83 (by decide) ?_
            refine m_zastP hx hb hK hP hD hS 5 (by decide) rfl r_x72_2 (by decide) (show zr 0 1 0 from by decide) dMO_faultOf_84 E (fun P8 H9 locs eP8 E hP hD hS => ?_)
            have gP8 : mok P8 := by rw [eP8]; exact gP_72.setF (k := 5) (show zr 0 1 0 from by decide) (Or.inl (by decide))
            have iM_P8 : zM P8 := by rw [eP8]; exact iM_72
            refine lv_aload_n hx hb dMO_faultOf_85 rfl (lv_at hl 0 rfl) ?_
            refine lv_iload_n hx hb dMO_faultOf_86 rfl (lv_at hl 2 rfl) ?_
            refine zcallp (va_runV (As := [.int x72_2]) (rest := []) ⟨hx, hb, hml, hown, zno⟩ (tMO_linksIn l dC dI cI cZ cJ cA a0 s0 o b P8 S_72 H9.size x72_2 gP8 gS_72) (zcw 1 (hB.word (zm5 k5_84) rfl) (hB.word (zm1 k1_9) rfl) (hB.word (zm5 k5_81) rfl) (hB.word (zm5 k5_83) rfl) (k2_selects_private (by decide) (hB.word (zm4 k4_109) rfl) (hB.word (zm5 k5_82) rfl) (hB.word (zm5 k5_83) rfl)) rfl rfl (by decide +kernel) ⟨Nat.le_of_ble_eq_true rfl, Nat.le_of_ble_eq_true rfl⟩) ⟨zP_blind, va_recv hK hP (ci := 7) (q0 := 0) rfl rfl, zP_pre hP hK hD hAD (zB_on hB hA0 hS)⟩ rfl rfl hl.1 rfl (lv_room (Nat.le_of_ble_eq_true rfl)) dMO_faultOf_87 ⟨Nat.le_of_ble_eq_true rfl, Nat.le_of_ble_eq_true rfl⟩) hS hA (fun k11 H10 locs hk11 hz1 hk1 hS => ?_)
            have hP := zKeep hP hk1
            have E := zl_s E hk11.1
            refine z_if_le (tgt := 162) hx hb dMO_faultOf_90 (by decide) E (fun c_90 E => ?_) (fun c_90 E => ?_)
            · have r_k11 : zr (-2147483648) 0 k11 := zle_x (zr_any k11) (show zr 0 0 0 from by decide) c_90 (by decide)
              exact hJ162 H10 locs ls P8 S_72 x72_1 x72_2 r_x72_1 r_x72_2 gP8 gS_72 hm72 iM_P8 E hP hD hS (lv_sub hl [0, 1, 2] rfl)
            · have r_k11 : zr 1 2147483647 k11 := zlt_y (show zr 0 0 0 from by decide) (zr_any k11) (znle c_90) (by decide)
              refine lv_aload_n hx hb dMO_faultOf_93 rfl (lv_at hl 0 rfl) ?_
              refine m_getA_3 hx hb (hB.words zU_MO) hown hK hP (hB.word (zm4 k4_125) rfl) dMO_faultOf_94 ?_
              refine lv_iload_n hx hb dMO_faultOf_97 rfl (lv_at hl 2 rfl) ?_
              refine m_aldP hx hb hK hP 3 (by decide) rfl r_x72_2 (by decide) dMO_faultOf_98 E (fun k12 ek12 E => ?_)
              have r_k12 : zr (-1) 47 k12 := by rw [ek12]; exact gP8.1 3 _
              refine lv_iconst (v := (-1)) hx hb dMO_faultOf_99 (by decide) ?_
              refine z_icmp_eq (tgt := 141) hx hb dMO_faultOf_100 (by decide) E (fun c_100 E => ?_) (fun c_100 E => ?_)
              · have r_k12 : zr (-1) (-1) k12 := zeq_x (show zr (-1) (-1) (-1) from by decide) c_100
                exact hJ141 H10 locs ls P8 S_72 x72_1 x72_2 r_x72_1 r_x72_2 gP8 gS_72 hm72 iM_P8 E hP hD hS (lv_sub hl [0, 1, 2] rfl)
              · have r_k12 : zr 0 47 k12 := zne_lo r_k12 c_100 (by decide)
                refine lv_aload_n hx hb dMO_faultOf_103 rfl (lv_at hl 0 rfl) ?_
                refine m_getA_2 hx hb (hB.words zU_MO) hown hK hP (hB.word (zm4 k4_120) rfl) dMO_faultOf_104 ?_
                refine lv_aload_n hx hb dMO_faultOf_107 rfl (lv_at hl 0 rfl) ?_
                refine m_getA_4 hx hb (hB.words zU_MO) hown hK hP (hB.word (zm4 k4_126) rfl) dMO_faultOf_108 ?_
                refine lv_iload_n hx hb dMO_faultOf_111 rfl (lv_at hl 2 rfl) ?_
                refine m_aldP hx hb hK hP 4 (by decide) rfl r_x72_2 (by decide) dMO_faultOf_112 E (fun k13 ek13 E => ?_)
                have r_k13 : zr (-1) 59 k13 := by rw [ek13]; exact gP8.1 4 _
                have r_k132 : zr 0 59 k13 := zne_lo r_k13 (by rw [ek13]; exact (iM_P8 _).resolve_left (by rw [← ek12]; exact c_100)) (by decide)
                refine m_aldP hx hb hK hP 2 (by decide) rfl r_k132 (by decide) dMO_faultOf_113 E (fun k14 ek14 E => ?_)
                have r_k14 : zr 0 5 k14 := by rw [ek14]; exact gP8.1 2 _
                refine lv_iload_n hx hb dMO_faultOf_114 rfl (lv_at hl 2 rfl) ?_
                refine z_icmp_ne (tgt := 141) hx hb dMO_faultOf_115 (by decide) E (fun c_115 E => ?_) (fun c_115 E => ?_)
                · exact hJ141 H10 locs ls P8 S_72 x72_1 x72_2 r_x72_1 r_x72_2 gP8 gS_72 hm72 iM_P8 E hP hD hS (lv_sub hl [0, 1, 2] rfl)
                · refine lv_aload_n hx hb dMO_faultOf_118 rfl (lv_at hl 0 rfl) ?_
                  refine lv_aload_n hx hb dMO_faultOf_119 rfl (lv_at hl 0 rfl) ?_
                  refine m_getA_3 hx hb (hB.words zU_MO) hown hK hP (hB.word (zm4 k4_125) rfl) dMO_faultOf_120 ?_
                  refine lv_iload_n hx hb dMO_faultOf_123 rfl (lv_at hl 2 rfl) ?_
                  refine m_aldP hx hb hK hP 3 (by decide) rfl r_x72_2 (by decide) dMO_faultOf_124 E (fun k15 ek15 E => ?_)
                  have x9 : k12 = k15 := by rw [ek12, ek15]
                  subst x9
                  refine lv_aload_n hx hb dMO_faultOf_125 rfl (lv_at hl 0 rfl) ?_
                  refine m_getA_4 hx hb (hB.words zU_MO) hown hK hP (hB.word (zm4 k4_126) rfl) dMO_faultOf_126 ?_
                  refine lv_iload_n hx hb dMO_faultOf_129 rfl (lv_at hl 2 rfl) ?_
                  refine m_aldP hx hb hK hP 4 (by decide) rfl r_x72_2 (by decide) dMO_faultOf_130 E (fun k16 ek16 E => ?_)
                  have x9 : k13 = k16 := by rw [ek13, ek16]
                  subst x9
                  refine zcallp (va_runV (As := [.int k12, .int k13]) (rest := []) ⟨hx, hb, hml, hown, zno⟩ (tMO_isEnd l dC dI cI cZ cJ cA a0 s0 o b P8 S_72 H10.size k12 k13 gP8 gS_72 r_k132) (zcw 2 (hB.word (zm5 k5_80) rfl) (hB.word (zm1 k1_9) rfl) (hB.word (zm5 k5_77) rfl) (hB.word (zm5 k5_79) rfl) (k2_selects_private (by decide) (hB.word (zm4 k4_109) rfl) (hB.word (zm5 k5_78) rfl) (hB.word (zm5 k5_79) rfl)) rfl rfl (by decide +kernel) ⟨Nat.le_of_ble_eq_true rfl, Nat.le_of_ble_eq_true rfl⟩) ⟨zP_blind, va_recv hK hP (ci := 7) (q0 := 0) rfl rfl, zP_pre hP hK hD hAD (zB_on hB hA0 hS)⟩ rfl rfl hl.1 rfl (lv_room (Nat.le_of_ble_eq_true rfl)) dMO_faultOf_131 ⟨Nat.le_of_ble_eq_true rfl, Nat.le_of_ble_eq_true rfl⟩) hS hA (fun k18 H17 locs hk18 hz1 hk1 hS => ?_)
                  have hP := zKeep hP hk1
                  have E := zl_s E hk18.1
                  refine z_if_eq (tgt := 141) hx hb dMO_faultOf_134 (by decide) E (fun c_134 E => ?_) (fun c_134 E => ?_)
                  · have r_k18 : zr 0 0 k18 := zeq_x (show zr 0 0 0 from by decide) c_134
                    exact hJ141 H17 locs ls P8 S_72 x72_1 x72_2 r_x72_1 r_x72_2 gP8 gS_72 hm72 iM_P8 E hP hD hS (lv_sub hl [0, 1, 2] rfl)
                  · have r_k18 : zr 1 1 k18 := zne_lo hk18.2 c_134 (by decide)
                    refine lv_iconst (v := 1) hx hb dMO_faultOf_137 (by decide) ?_
                    refine lv_goto (tgt := 142) hx hb dMO_faultOf_138 (by decide) ?_
                    exact hJ142 H17 locs ls P8 S_72 x72_1 x72_2 1 r_x72_1 r_x72_2 (show zr 0 1 1 from by decide) gP8 gS_72 hm72 iM_P8 E hP hD hS (lv_sub hl [0, 1, 2] rfl)
      have hL24 : ∀ (n24 : Nat) (H : Heap) (locs : List Loc) (ls : Array Slot) (P_24 : ZS) (S_24 : ZS) (x24_1 : Int32) (x24_2 : Int32) (x24_3 : Int32), zr 0 47 x24_1 → zr 0 1 x24_2 → zr 0 6 x24_3 → mok P_24 → mok S_24 → 48 + 1 - x24_1.toInt ≤ ((n12 + 1 : Nat) : Int) → (zM P_24) → (x24_2 = 0 ∨ zr 1 6 (x24_3)) → 6 + 1 - x24_3.toInt ≤ (n24 : Int) → tg = zfix (fun P9 S9 _ _ _ => (P9, S9, 0)) (fMO_faultOf_24 rc12) n24 P_24 S_24 x24_1 x24_2 x24_3 → va_P (dC, dI) zCl (MW cI cZ cA o b P_24 S_24) H → va_D A (MW cI cZ cA o b P_24 S_24) → va_S A s.heap H locs → lv_has ls 4 [(0, .ref (o 0)), (1, .int x24_1), (2, .int x24_2), (3, .int x24_3)] → W p l e ({ frames := 4, cells := 0, slots := 0, locals := 99 } : Room) s m ([.ref (o 0)] : List Value).toArray below meth c H locs 0 0 Q (F0 m 24 ls []) := by
        intro n24
        induction n24 with
        | zero => intro H locs ls P_24 S_24 x24_1 x24_2 x24_3 r_x24_1 r_x24_2 r_x24_3 gP_24 gS_24 hm12_24 iM_24 cd24_0 hm24 E hP hD hS hl; exact absurd hm24 (zfuel0U r_x24_3)
        | succ n24 ih24 =>
          intro H locs ls P_24 S_24 x24_1 x24_2 x24_3 r_x24_1 r_x24_2 r_x24_3 gP_24 gS_24 hm12_24 iM_24 cd24_0 hm24 E hP hD hS hl
          rw [zfix_s] at E
          generalize zfix (fun P9 S9 _ _ _ => (P9, S9, 0)) (fMO_faultOf_24 rc12) n24 = rc24 at ih24 E
          unfold fMO_faultOf_24 at E
          have hJ48 : ∀ (H : Heap) (locs : List Loc) (ls : Array Slot) (P_48 : ZS) (S_48 : ZS) (x48_1 : Int32) (x48_3 : Int32) (y48_0 : Int32), zr 0 47 x48_1 → zr 0 5 x48_3 → zr 0 1 y48_0 → mok P_48 → mok S_48 → 48 + 1 - x48_1.toInt ≤ ((n12 + 1 : Nat) : Int) → 6 + 1 - x48_3.toInt ≤ ((n24 + 1 : Nat) : Int) → (zM P_48) → tg = fMO_faultOf_48 rc12 rc24 P_48 S_48 x48_1 x48_3 y48_0 → va_P (dC, dI) zCl (MW cI cZ cA o b P_48 S_48) H → va_D A (MW cI cZ cA o b P_48 S_48) → va_S A s.heap H locs → lv_has ls 4 [(0, .ref (o 0)), (1, .int x48_1), (3, .int x48_3)] → W p l e ({ frames := 4, cells := 0, slots := 0, locals := 99 } : Room) s m ([.ref (o 0)] : List Value).toArray below meth c H locs 0 0 Q (F0 m 48 ls [.int y48_0]) := by
            intro H locs ls P_48 S_48 x48_1 x48_3 y48_0 r_x48_1 r_x48_3 r_y48_0 gP_48 gS_48 hm12_48 hm24_48 iM_48 E hP hD hS hl
            unfold fMO_faultOf_48 at E
            refine lv_istore_n (lv' := [(2, .int y48_0), (0, .ref (o 0)), (1, .int x48_1), (3, .int x48_3)]) hx hb dMO_faultOf_48 rfl hl (by decide) rfl (fun ls hl => ?_)
            refine z_iinc (lv' := fun v9 => [(3, .int v9), (2, .int y48_0), (0, .ref (o 0)), (1, .int x48_1)]) (cst := 1) hx hb dMO_faultOf_49 hl (k := 3) rfl (by decide) (by decide) (fun _ => rfl) E (fun k19 ls ek19 E hl => ?_)
            have r_k19 : zr 1 6 k19 := zr_add r_x48_3 (show zr 1 1 1 from by decide) ek19 (by decide)
            refine lv_goto (tgt := 24) hx hb dMO_faultOf_52 (by decide) ?_
            exact ih24 H locs ls P_48 S_48 x48_1 y48_0 k19 r_x48_1 r_y48_0 (zr_mono r_k19 (by decide)) gP_48 gS_48 hm12_48 iM_48 (Or.inr r_k19) (zstepU ek19 r_x48_3 (by decide) hm24_48) E hP hD hS (lv_sub hl [2, 3, 1, 0] rfl)
          have hJ43 : ∀ (H : Heap) (locs : List Loc) (ls : Array Slot) (P_43 : ZS) (S_43 : ZS) (x43_1 : Int32) (x43_3 : Int32), zr 0 47 x43_1 → zr 0 5 x43_3 → mok P_43 → mok S_43 → 48 + 1 - x43_1.toInt ≤ ((n12 + 1 : Nat) : Int) → 6 + 1 - x43_3.toInt ≤ ((n24 + 1 : Nat) : Int) → (zM P_43) → tg = fMO_faultOf_43 rc12 rc24 P_43 S_43 x43_1 x43_3 → va_P (dC, dI) zCl (MW cI cZ cA o b P_43 S_43) H → va_D A (MW cI cZ cA o b P_43 S_43) → va_S A s.heap H locs → lv_has ls 4 [(0, .ref (o 0)), (1, .int x43_1), (3, .int x43_3)] → W p l e ({ frames := 4, cells := 0, slots := 0, locals := 99 } : Room) s m ([.ref (o 0)] : List Value).toArray below meth c H locs 0 0 Q (F0 m 43 ls []) := by
            intro H locs ls P_43 S_43 x43_1 x43_3 r_x43_1 r_x43_3 gP_43 gS_43 hm12_43 hm24_43 iM_43 E hP hD hS hl
            unfold fMO_faultOf_43 at E
            refine lv_iconst (v := 1) hx hb dMO_faultOf_43 (by decide) ?_
            refine lv_goto (tgt := 48) hx hb dMO_faultOf_44 (by decide) ?_
            exact hJ48 H locs ls P_43 S_43 x43_1 x43_3 1 r_x43_1 r_x43_3 (show zr 0 1 1 from by decide) gP_43 gS_43 hm12_43 hm24_43 iM_43 E hP hD hS (lv_sub hl [0, 1, 2] rfl)
          refine lv_iload_n hx hb dMO_faultOf_24 rfl (lv_at hl 3 rfl) ?_
          refine lv_bipush (v := 6) hx hb dMO_faultOf_25 (by decide) ?_
          refine z_icmp_ge (tgt := 55) hx hb dMO_faultOf_27 (by decide) E (fun c_27 E => ?_) (fun c_27 E => ?_)
          · have r_x24_3 : zr 6 6 x24_3 := zle_y (show zr 6 6 6 from by decide) r_x24_3 c_27 (by decide)
            refine lv_iload_n hx hb dMO_faultOf_55 rfl (lv_at hl 2 rfl) ?_
            refine z_if_ne (tgt := 62) hx hb dMO_faultOf_56 (by decide) E (fun c_56 E => ?_) (fun c_56 E => ?_)
            · have r_x24_2 : zr 1 1 x24_2 := zne_lo r_x24_2 c_56 (by decide)
              refine z_iinc (lv' := fun v9 => [(1, .int v9), (0, .ref (o 0)), (2, .int x24_2), (3, .int x24_3)]) (cst := 1) hx hb dMO_faultOf_62 hl (k := 1) rfl (by decide) (by decide) (fun _ => rfl) E (fun k20 ls ek20 E hl => ?_)
              have r_k20 : zr 1 48 k20 := zr_add r_x24_1 (show zr 1 1 1 from by decide) ek20 (by decide)
              refine lv_goto (tgt := 12) hx hb dMO_faultOf_65 (by decide) ?_
              exact ih12 H locs ls P_24 S_24 k20 (zr_mono r_k20 (by decide)) gP_24 gS_24 iM_24 (zstepU ek20 r_x24_1 (by decide) hm12_24) E hP hD hS (lv_sub hl [1, 0] rfl)
            · have r_x24_2 : zr 0 0 x24_2 := zeq_x (show zr 0 0 0 from by decide) c_56
              refine lv_bipush (v := 7) hx hb dMO_faultOf_59 (by decide) ?_
              rw [hQe]
              exact W.iret (v := 7) hx hb hr (fun t ht hW => ⟨⟨7, (P_24, S_24), rfl, ⟨E.symm.trans etg, gP_24, gS_24, iM_24, (show zr 0 7 7 from by decide)⟩, by rw [ht]; exact hP, hD⟩, hS.F ht⟩) hS.2.2 dMO_faultOf_61
          · have r_x24_3 : zr 0 5 x24_3 := zlt_x r_x24_3 (show zr 6 6 6 from by decide) (znle c_27) (by decide)
            refine lv_iload_n hx hb dMO_faultOf_30 rfl (lv_at hl 2 rfl) ?_
            refine z_if_ne (tgt := 43) hx hb dMO_faultOf_31 (by decide) E (fun c_31 E => ?_) (fun c_31 E => ?_)
            · have r_x24_2 : zr 1 1 x24_2 := zne_lo r_x24_2 c_31 (by decide)
              exact hJ43 H locs ls P_24 S_24 x24_1 x24_3 r_x24_1 r_x24_3 gP_24 gS_24 hm12_24 hm24 iM_24 E hP hD hS (lv_sub hl [0, 1, 3] rfl)
            · have r_x24_2 : zr 0 0 x24_2 := zeq_x (show zr 0 0 0 from by decide) c_31
              refine lv_aload_n hx hb dMO_faultOf_34 rfl (lv_at hl 0 rfl) ?_
              refine lv_iload_n hx hb dMO_faultOf_35 rfl (lv_at hl 1 rfl) ?_
              refine lv_iload_n hx hb dMO_faultOf_36 rfl (lv_at hl 3 rfl) ?_
              refine zcallp (va_runV (As := [.int x24_1, .int x24_3]) (rest := []) ⟨hx, hb, hml, hown, zno⟩ (tMO_degreeIn l dC dI cI cZ cJ cA a0 s0 o b P_24 S_24 H.size x24_1 x24_3 gP_24 gS_24) (zcw 2 (hB.word (zm5 k5_76) rfl) (hB.word (zm1 k1_9) rfl) (hB.word (zm5 k5_73) rfl) (hB.word (zm5 k5_75) rfl) (k2_selects_private (by decide) (hB.word (zm4 k4_109) rfl) (hB.word (zm5 k5_74) rfl) (hB.word (zm5 k5_75) rfl)) rfl rfl (by decide +kernel) ⟨Nat.le_of_ble_eq_true rfl, Nat.le_of_ble_eq_true rfl⟩) ⟨zP_blind, va_recv hK hP (ci := 7) (q0 := 0) rfl rfl, zP_pre hP hK hD hAD (zB_on hB hA0 hS)⟩ rfl rfl hl.1 rfl (lv_room (Nat.le_of_ble_eq_true rfl)) dMO_faultOf_37 ⟨Nat.le_of_ble_eq_true rfl, Nat.le_of_ble_eq_true rfl⟩) hS hA (fun k22 H21 locs hk22 hz1 hk1 hS => ?_)
              have hP := zKeep hP hk1
              have E := zl_s E hk22.1
              refine z_if_le (tgt := 47) hx hb dMO_faultOf_40 (by decide) E (fun c_40 E => ?_) (fun c_40 E => ?_)
              · have r_k22 : zr (-2147483648) 0 k22 := zle_x (zr_any k22) (show zr 0 0 0 from by decide) c_40 (by decide)
                refine lv_iconst (v := 0) hx hb dMO_faultOf_47 (by decide) ?_
                exact hJ48 H21 locs ls P_24 S_24 x24_1 x24_3 0 r_x24_1 r_x24_3 (show zr 0 1 0 from by decide) gP_24 gS_24 hm12_24 hm24 iM_24 E hP hD hS (lv_sub hl [0, 1, 3] rfl)
              · have r_k22 : zr 1 2147483647 k22 := zlt_y (show zr 0 0 0 from by decide) (zr_any k22) (znle c_40) (by decide)
                exact hJ43 H21 locs ls P_24 S_24 x24_1 x24_3 r_x24_1 r_x24_3 gP_24 gS_24 hm12_24 hm24 iM_24 E hP hD hS (lv_sub hl [0, 1, 3] rfl)
      refine lv_iload_n hx hb dMO_faultOf_12 rfl (lv_at hl 1 rfl) ?_
      refine lv_aload_n hx hb dMO_faultOf_13 rfl (lv_at hl 0 rfl) ?_
      refine m_get_1 hx hb (hB.words zU_MO) hown hK hP (hB.word (zm4 k4_116) rfl) dMO_faultOf_14 E (fun k23 ek23 E => ?_)
      have r_k23 : zr 0 48 k23 := by rw [ek23]; exact gP_12.2.1 1
      refine z_icmp_ge (tgt := 68) hx hb dMO_faultOf_17 (by decide) E (fun c_17 E => ?_) (fun c_17 E => ?_)
      · refine lv_iconst (v := 1) hx hb dMO_faultOf_68 (by decide) ?_
        refine lv_istore_n (lv' := [(1, .int 1), (0, .ref (o 0))]) hx hb dMO_faultOf_69 rfl hl (by decide) rfl (fun ls hl => ?_)
        refine lv_iconst (v := 0) hx hb dMO_faultOf_70 (by decide) ?_
        refine lv_istore_n (lv' := [(2, .int 0), (1, .int 1), (0, .ref (o 0))]) hx hb dMO_faultOf_71 rfl hl (by decide) rfl (fun ls hl => ?_)
        exact hL72 7 H locs ls P_12 S_12 1 0 (show zr 0 1 1 from by decide) (show zr 0 6 0 from by decide) gP_12 gS_12 iM_12 (Or.inl rfl) (by have h9 := (show zr 0 0 0 from by decide); exact zfuelU h9 (by decide)) E hP hD hS (lv_sub hl [2, 1, 0] rfl)
      · have r_x12_1 : zr 0 47 x12_1 := zlt_x r_x12_1 r_k23 (znle c_17) (by decide)
        have r_k23 : zr 1 48 k23 := zlt_y r_x12_1 r_k23 (znle c_17) (by decide)
        refine lv_iconst (v := 0) hx hb dMO_faultOf_20 (by decide) ?_
        refine lv_istore_n (lv' := [(2, .int 0), (0, .ref (o 0)), (1, .int x12_1)]) hx hb dMO_faultOf_21 rfl hl (by decide) rfl (fun ls hl => ?_)
        refine lv_iconst (v := 0) hx hb dMO_faultOf_22 (by decide) ?_
        refine lv_istore_n (lv' := [(3, .int 0), (2, .int 0), (0, .ref (o 0)), (1, .int x12_1)]) hx hb dMO_faultOf_23 rfl hl (by decide) rfl (fun ls hl => ?_)
        exact hL24 7 H locs ls P_12 S_12 x12_1 0 0 r_x12_1 (show zr 0 1 0 from by decide) (show zr 0 6 0 from by decide) gP_12 gS_12 hm12 iM_12 (Or.inl rfl) (by have h9 := (show zr 0 0 0 from by decide); exact zfuelU h9 (by decide)) E hP hD hS (lv_sub hl [2, 3, 1, 0] rfl)
  refine lv_aload_n hx hb dMO_faultOf_0 rfl (lv_at hl 0 rfl) ?_
  refine m_get_2 hx hb (hB.words zU_MO) hown hK hP (hB.word (zm4 k4_117) rfl) dMO_faultOf_1 E (fun k24 ek24 E => ?_)
  have r_k24 : zr 0 60 k24 := by rw [ek24]; exact gP.2.1 2
  refine z_if_ne (tgt := 10) hx hb dMO_faultOf_4 (by decide) E (fun c_4 E => ?_) (fun c_4 E => ?_)
  · have r_k24 : zr 1 60 k24 := zne_lo r_k24 c_4 (by decide)
    refine lv_iconst (v := 0) hx hb dMO_faultOf_10 (by decide) ?_
    refine lv_istore_n (lv' := [(1, .int 0), (0, .ref (o 0))]) hx hb dMO_faultOf_11 rfl hl (by decide) rfl (fun ls hl => ?_)
    exact hL12 49 s.heap [] ls P S 0 (show zr 0 48 0 from by decide) gP gS iM (by have h9 := (show zr 0 0 0 from by decide); exact zfuelU h9 (by decide)) E hP hD hS (lv_sub hl [1, 0] rfl)
  · have r_k24 : zr 0 0 k24 := zeq_x (show zr 0 0 0 from by decide) c_4
    refine lv_bipush (v := 7) hx hb dMO_faultOf_7 (by decide) ?_
    rw [hQe]
    exact W.iret (v := 7) hx hb hr (fun t ht hW => ⟨⟨7, (P, S), rfl, ⟨E.symm.trans etg, gP, gS, iM, (show zr 0 7 7 from by decide)⟩, by rw [ht]; exact hP, hD⟩, hS.F ht⟩) hS.2.2 dMO_faultOf_9
