theorem k4_115 : tables_1_4[115]? = some (Jvm.Cond.fieldLink "RingGuardModel" (135 : Nat) "RingGuardModel" "started" "Z") := by decide +kernel
theorem k4_140 : tables_1_4[140]? = some (Jvm.Cond.fieldLink "RingGuardModel" (77 : Nat) "RingGuardModel" "places" "[I") := by decide +kernel
theorem k4_153 : tables_1_4[153]? = some (Jvm.Cond.fieldLink "RingGuardModel" (293 : Nat) "RingGuardModel" "visits" "I") := by decide +kernel
theorem k4_160 : tables_1_4[160]? = some (Jvm.Cond.fieldLink "RingGuardModel" (116 : Nat) "RingGuardModel" "wayBridge" "[I") := by decide +kernel
theorem k4_161 : tables_1_4[161]? = some (Jvm.Cond.fieldLink "RingGuardModel" (119 : Nat) "RingGuardModel" "wayLink" "[I") := by decide +kernel
theorem k4_166 : tables_1_4[166]? = some (Jvm.Cond.fieldLink "RingGuardModel" (122 : Nat) "RingGuardModel" "crossed" "[I") := by decide +kernel
theorem k5_46 : tables_1_5[46]? = some (Jvm.Cond.methodLink "RingGuardModel" (139 : Nat) ({ cls := "RingGuardModel", name := "isBridge", desc := "(I)Z" } : Jvm.MethodName)) := by decide +kernel
theorem k5_47 : tables_1_5[47]? = some (Jvm.Cond.privateMethod ({ cls := "RingGuardModel", name := "isBridge", desc := "(I)Z" } : Jvm.MethodName)) := by decide +kernel
theorem k5_48 : tables_1_5[48]? = some (Jvm.Cond.instanceMethod ({ cls := "RingGuardModel", name := "isBridge", desc := "(I)Z" } : Jvm.MethodName)) := by decide +kernel
theorem k5_49 : tables_1_5[49]? = some (Jvm.Cond.code ({ cls := "RingGuardModel", name := "isBridge", desc := "(I)Z" } : Jvm.MethodName) prog_10_method_3_code (2 : Nat) (Option.some Jvm.ClassFile.FieldType.boolean)) := rfl
theorem k5_50 : tables_1_5[50]? = some (Jvm.Cond.methodLink "RingGuardModel" (143 : Nat) ({ cls := "RingGuardModel", name := "isRing", desc := "(I)Z" } : Jvm.MethodName)) := by decide +kernel
theorem k5_51 : tables_1_5[51]? = some (Jvm.Cond.static ({ cls := "RingGuardModel", name := "isRing", desc := "(I)Z" } : Jvm.MethodName)) := by decide +kernel
theorem k5_52 : tables_1_5[52]? = some (Jvm.Cond.code ({ cls := "RingGuardModel", name := "isRing", desc := "(I)Z" } : Jvm.MethodName) prog_10_method_5_code (1 : Nat) (Option.some Jvm.ClassFile.FieldType.boolean)) := rfl
theorem k5_53 : tables_1_5[53]? = some (Jvm.Cond.methodLink "RingGuardModel" (146 : Nat) ({ cls := "RingGuardModel", name := "goes", desc := "(ZZ)Z" } : Jvm.MethodName)) := by decide +kernel
theorem k5_54 : tables_1_5[54]? = some (Jvm.Cond.privateMethod ({ cls := "RingGuardModel", name := "goes", desc := "(ZZ)Z" } : Jvm.MethodName)) := by decide +kernel
theorem k5_55 : tables_1_5[55]? = some (Jvm.Cond.instanceMethod ({ cls := "RingGuardModel", name := "goes", desc := "(ZZ)Z" } : Jvm.MethodName)) := by decide +kernel
theorem k5_56 : tables_1_5[56]? = some (Jvm.Cond.code ({ cls := "RingGuardModel", name := "goes", desc := "(ZZ)Z" } : Jvm.MethodName) prog_10_method_8_code (3 : Nat) (Option.some Jvm.ClassFile.FieldType.boolean)) := rfl
theorem k5_61 : tables_1_5[61]? = some (Jvm.Cond.methodLink "RingGuardModel" (150 : Nat) ({ cls := "RingGuardModel", name := "isLink", desc := "(I)Z" } : Jvm.MethodName)) := by decide +kernel
theorem k5_62 : tables_1_5[62]? = some (Jvm.Cond.privateMethod ({ cls := "RingGuardModel", name := "isLink", desc := "(I)Z" } : Jvm.MethodName)) := by decide +kernel
theorem k5_63 : tables_1_5[63]? = some (Jvm.Cond.instanceMethod ({ cls := "RingGuardModel", name := "isLink", desc := "(I)Z" } : Jvm.MethodName)) := by decide +kernel
theorem k5_64 : tables_1_5[64]? = some (Jvm.Cond.code ({ cls := "RingGuardModel", name := "isLink", desc := "(I)Z" } : Jvm.MethodName) prog_10_method_4_code (2 : Nat) (Option.some Jvm.ClassFile.FieldType.boolean)) := rfl
theorem k5_148 : tables_1_5[148]? = some (Jvm.Cond.methodLink "RingGuardModel" (218 : Nat) ({ cls := "RingGuardModel", name := "begins", desc := "(III)V" } : Jvm.MethodName)) := by decide +kernel
theorem k5_149 : tables_1_5[149]? = some (Jvm.Cond.privateMethod ({ cls := "RingGuardModel", name := "begins", desc := "(III)V" } : Jvm.MethodName)) := by decide +kernel
theorem k5_150 : tables_1_5[150]? = some (Jvm.Cond.instanceMethod ({ cls := "RingGuardModel", name := "begins", desc := "(III)V" } : Jvm.MethodName)) := by decide +kernel
theorem k5_151 : tables_1_5[151]? = some (Jvm.Cond.code ({ cls := "RingGuardModel", name := "begins", desc := "(III)V" } : Jvm.MethodName) prog_10_method_27_code (5 : Nat) (Option.none : Option Jvm.ClassFile.FieldType)) := rfl
theorem k5_188 : tables_1_5[188]? = some (Jvm.Cond.methodLink "RingGuardModel" (284 : Nat) ({ cls := "RingGuardModel", name := "tick", desc := "()V" } : Jvm.MethodName)) := by decide +kernel
theorem k5_189 : tables_1_5[189]? = some (Jvm.Cond.privateMethod ({ cls := "RingGuardModel", name := "tick", desc := "()V" } : Jvm.MethodName)) := by decide +kernel
theorem k5_190 : tables_1_5[190]? = some (Jvm.Cond.instanceMethod ({ cls := "RingGuardModel", name := "tick", desc := "()V" } : Jvm.MethodName)) := by decide +kernel
theorem k5_191 : tables_1_5[191]? = some (Jvm.Cond.code ({ cls := "RingGuardModel", name := "tick", desc := "()V" } : Jvm.MethodName) prog_10_method_45_code (3 : Nat) (Option.none : Option Jvm.ClassFile.FieldType)) := rfl
theorem k5_232 : tables_1_5[232]? = some (Jvm.Cond.methodLink "RingGuardModel" (296 : Nat) ({ cls := "RingGuardModel", name := "known", desc := "(III)I" } : Jvm.MethodName)) := by decide +kernel
theorem k5_233 : tables_1_5[233]? = some (Jvm.Cond.privateMethod ({ cls := "RingGuardModel", name := "known", desc := "(III)I" } : Jvm.MethodName)) := by decide +kernel
theorem k5_234 : tables_1_5[234]? = some (Jvm.Cond.instanceMethod ({ cls := "RingGuardModel", name := "known", desc := "(III)I" } : Jvm.MethodName)) := by decide +kernel
theorem k5_235 : tables_1_5[235]? = some (Jvm.Cond.code ({ cls := "RingGuardModel", name := "known", desc := "(III)I" } : Jvm.MethodName) prog_10_method_52_code (5 : Nat) (Option.some Jvm.ClassFile.FieldType.int)) := rfl
theorem k5_236 : tables_1_5[236]? = some (Jvm.Cond.methodLink "RingGuardModel" (300 : Nat) ({ cls := "RingGuardModel", name := "other", desc := "(II)I" } : Jvm.MethodName)) := by decide +kernel
theorem k5_237 : tables_1_5[237]? = some (Jvm.Cond.privateMethod ({ cls := "RingGuardModel", name := "other", desc := "(II)I" } : Jvm.MethodName)) := by decide +kernel
theorem k5_238 : tables_1_5[238]? = some (Jvm.Cond.instanceMethod ({ cls := "RingGuardModel", name := "other", desc := "(II)I" } : Jvm.MethodName)) := by decide +kernel
theorem k5_239 : tables_1_5[239]? = some (Jvm.Cond.code ({ cls := "RingGuardModel", name := "other", desc := "(II)I" } : Jvm.MethodName) prog_10_method_7_code (3 : Nat) (Option.some Jvm.ClassFile.FieldType.int)) := rfl
abbrev yMO_ticks : MethodName := ⟨"RingGuardModel", "ticks", "(I)I"⟩
abbrev bMO_ticks : ByteArray := prog_10_method_46_code
abbrev yMO_send : MethodName := ⟨"RingGuardModel", "send", "(III)I"⟩
abbrev bMO_send : ByteArray := prog_10_method_53_code
abbrev yMO_bridge : MethodName := ⟨"RingGuardModel", "bridge", "()I"⟩
abbrev bMO_bridge : ByteArray := prog_10_method_9_code
abbrev yMO_link : MethodName := ⟨"RingGuardModel", "link", "(III)I"⟩
abbrev bMO_link : ByteArray := prog_10_method_10_code
abbrev yMO_owner : MethodName := ⟨"RingGuardModel", "owner", "(III)V"⟩
abbrev bMO_owner : ByteArray := prog_10_method_11_code
abbrev yMO_fail : MethodName := ⟨"RingGuardModel", "fail", "(I)Z"⟩
abbrev bMO_fail : ByteArray := prog_10_method_31_code
abbrev yMO_heal : MethodName := ⟨"RingGuardModel", "heal", "(I)Z"⟩
abbrev bMO_heal : ByteArray := prog_10_method_32_code
abbrev yMO_lose : MethodName := ⟨"RingGuardModel", "lose", "(II)I"⟩
abbrev bMO_lose : ByteArray := prog_10_method_33_code
abbrev yMO_order : MethodName := ⟨"RingGuardModel", "order", "(IIZ)Z"⟩
abbrev bMO_order : ByteArray := prog_10_method_34_code
abbrev yMO_clear : MethodName := ⟨"RingGuardModel", "clear", "(II)Z"⟩
abbrev bMO_clear : ByteArray := prog_10_method_35_code
abbrev yMO_host : MethodName := ⟨"RingGuardModel", "host", "(II)I"⟩
abbrev bMO_host : ByteArray := prog_10_method_51_code
abbrev yMO_visits : MethodName := ⟨"RingGuardModel", "visits", "()I"⟩
abbrev bMO_visits : ByteArray := prog_10_method_54_code
abbrev yMO_holds : MethodName := ⟨"RingGuardModel", "holds", "(II)I"⟩
abbrev bMO_holds : ByteArray := prog_10_method_55_code
abbrev yMO_told : MethodName := ⟨"RingGuardModel", "told", "(III)I"⟩
abbrev bMO_told : ByteArray := prog_10_method_56_code
abbrev yMO_learned : MethodName := ⟨"RingGuardModel", "learned", "(III)I"⟩
abbrev bMO_learned : ByteArray := prog_10_method_57_code
abbrev yMO_joined : MethodName := ⟨"RingGuardModel", "joined", "(II)Z"⟩
abbrev bMO_joined : ByteArray := prog_10_method_58_code
abbrev yMO_casts : MethodName := ⟨"RingGuardModel", "casts", "()I"⟩
abbrev bMO_casts : ByteArray := prog_10_method_59_code
abbrev yMO_lost : MethodName := ⟨"RingGuardModel", "lost", "()I"⟩
abbrev bMO_lost : ByteArray := prog_10_method_60_code
abbrev yMO_circles : MethodName := ⟨"RingGuardModel", "circles", "()I"⟩
abbrev bMO_circles : ByteArray := prog_10_method_61_code
abbrev yMO_apart : MethodName := ⟨"RingGuardModel", "apart", "()I"⟩
abbrev bMO_apart : ByteArray := prog_10_method_62_code
abbrev yMO_thrown : MethodName := ⟨"RingGuardModel", "thrown", "()I"⟩
abbrev bMO_thrown : ByteArray := prog_10_method_2_code
theorem dMO_apart_0 : decode bMO_apart 0 = .ok (.aload_n 0, 1) := by decide +kernel
theorem dMO_apart_1 : decode bMO_apart 1 = .ok (.iconst 0, 1) := by decide +kernel
theorem dMO_apart_2 : decode bMO_apart 2 = .ok (.putfield 125, 3) := by decide +kernel
theorem dMO_apart_5 : decode bMO_apart 5 = .ok (.aload_n 0, 1) := by decide +kernel
theorem dMO_apart_6 : decode bMO_apart 6 = .ok (.getfield 274, 3) := by decide +kernel
theorem dMO_apart_9 : decode bMO_apart 9 = .ok (.ireturn, 1) := by decide +kernel
theorem dMO_bridge_0 : decode bMO_bridge 0 = .ok (.aload_n 0, 1) := by decide +kernel
theorem dMO_bridge_1 : decode bMO_bridge 1 = .ok (.aload_n 0, 1) := by decide +kernel
theorem dMO_bridge_2 : decode bMO_bridge 2 = .ok (.getfield 135, 3) := by decide +kernel
theorem dMO_bridge_5 : decode bMO_bridge 5 = .ok (.ifCond .ne 12, 3) := by decide +kernel
theorem dMO_bridge_8 : decode bMO_bridge 8 = .ok (.aload_n 0, 1) := by decide +kernel
theorem dMO_bridge_9 : decode bMO_bridge 9 = .ok (.getfield 129, 3) := by decide +kernel
theorem dMO_bridge_12 : decode bMO_bridge 12 = .ok (.bipush 48, 2) := by decide +kernel
theorem dMO_bridge_14 : decode bMO_bridge 14 = .ok (.if_icmp .ne 7, 3) := by decide +kernel
theorem dMO_bridge_17 : decode bMO_bridge 17 = .ok (.iconst 1, 1) := by decide +kernel
theorem dMO_bridge_18 : decode bMO_bridge 18 = .ok (.goto 4, 3) := by decide +kernel
theorem dMO_bridge_21 : decode bMO_bridge 21 = .ok (.iconst 0, 1) := by decide +kernel
theorem dMO_bridge_22 : decode bMO_bridge 22 = .ok (.putfield 125, 3) := by decide +kernel
theorem dMO_bridge_25 : decode bMO_bridge 25 = .ok (.aload_n 0, 1) := by decide +kernel
theorem dMO_bridge_26 : decode bMO_bridge 26 = .ok (.getfield 125, 3) := by decide +kernel
theorem dMO_bridge_29 : decode bMO_bridge 29 = .ok (.ifCond .le 5, 3) := by decide +kernel
theorem dMO_bridge_32 : decode bMO_bridge 32 = .ok (.iconst 0, 1) := by decide +kernel
theorem dMO_bridge_33 : decode bMO_bridge 33 = .ok (.ireturn, 1) := by decide +kernel
theorem dMO_bridge_34 : decode bMO_bridge 34 = .ok (.aload_n 0, 1) := by decide +kernel
theorem dMO_bridge_35 : decode bMO_bridge 35 = .ok (.dup, 1) := by decide +kernel
theorem dMO_bridge_36 : decode bMO_bridge 36 = .ok (.getfield 129, 3) := by decide +kernel
theorem dMO_bridge_39 : decode bMO_bridge 39 = .ok (.iconst 1, 1) := by decide +kernel
theorem dMO_bridge_40 : decode bMO_bridge 40 = .ok (.iadd, 1) := by decide +kernel
theorem dMO_bridge_41 : decode bMO_bridge 41 = .ok (.putfield 129, 3) := by decide +kernel
theorem dMO_bridge_44 : decode bMO_bridge 44 = .ok (.aload_n 0, 1) := by decide +kernel
theorem dMO_bridge_45 : decode bMO_bridge 45 = .ok (.getfield 129, 3) := by decide +kernel
theorem dMO_bridge_48 : decode bMO_bridge 48 = .ok (.iconst 1, 1) := by decide +kernel
theorem dMO_bridge_49 : decode bMO_bridge 49 = .ok (.isub, 1) := by decide +kernel
theorem dMO_bridge_50 : decode bMO_bridge 50 = .ok (.ireturn, 1) := by decide +kernel
theorem dMO_casts_0 : decode bMO_casts 0 = .ok (.aload_n 0, 1) := by decide +kernel
theorem dMO_casts_1 : decode bMO_casts 1 = .ok (.iconst 0, 1) := by decide +kernel
theorem dMO_casts_2 : decode bMO_casts 2 = .ok (.putfield 125, 3) := by decide +kernel
theorem dMO_casts_5 : decode bMO_casts 5 = .ok (.iconst 0, 1) := by decide +kernel
theorem dMO_casts_6 : decode bMO_casts 6 = .ok (.istore_n 1, 1) := by decide +kernel
theorem dMO_casts_7 : decode bMO_casts 7 = .ok (.iconst 0, 1) := by decide +kernel
theorem dMO_casts_8 : decode bMO_casts 8 = .ok (.istore_n 2, 1) := by decide +kernel
theorem dMO_casts_9 : decode bMO_casts 9 = .ok (.iload_n 2, 1) := by decide +kernel
theorem dMO_casts_10 : decode bMO_casts 10 = .ok (.bipush 120, 2) := by decide +kernel
theorem dMO_casts_12 : decode bMO_casts 12 = .ok (.if_icmp .ge 18, 3) := by decide +kernel
theorem dMO_casts_15 : decode bMO_casts 15 = .ok (.iload_n 1, 1) := by decide +kernel
theorem dMO_casts_16 : decode bMO_casts 16 = .ok (.aload_n 0, 1) := by decide +kernel
theorem dMO_casts_17 : decode bMO_casts 17 = .ok (.getfield 80, 3) := by decide +kernel
theorem dMO_casts_20 : decode bMO_casts 20 = .ok (.iload_n 2, 1) := by decide +kernel
theorem dMO_casts_21 : decode bMO_casts 21 = .ok (.iaload, 1) := by decide +kernel
theorem dMO_casts_22 : decode bMO_casts 22 = .ok (.iadd, 1) := by decide +kernel
theorem dMO_casts_23 : decode bMO_casts 23 = .ok (.istore_n 1, 1) := by decide +kernel
theorem dMO_casts_24 : decode bMO_casts 24 = .ok (.iinc 2 1, 3) := by decide +kernel
theorem dMO_casts_27 : decode bMO_casts 27 = .ok (.goto (-18), 3) := by decide +kernel
theorem dMO_casts_30 : decode bMO_casts 30 = .ok (.iload_n 1, 1) := by decide +kernel
theorem dMO_casts_31 : decode bMO_casts 31 = .ok (.ireturn, 1) := by decide +kernel
theorem dMO_circles_0 : decode bMO_circles 0 = .ok (.aload_n 0, 1) := by decide +kernel
theorem dMO_circles_1 : decode bMO_circles 1 = .ok (.iconst 0, 1) := by decide +kernel
theorem dMO_circles_2 : decode bMO_circles 2 = .ok (.putfield 125, 3) := by decide +kernel
theorem dMO_circles_5 : decode bMO_circles 5 = .ok (.aload_n 0, 1) := by decide +kernel
theorem dMO_circles_6 : decode bMO_circles 6 = .ok (.getfield 290, 3) := by decide +kernel
theorem dMO_circles_9 : decode bMO_circles 9 = .ok (.ireturn, 1) := by decide +kernel
theorem dMO_clear_0 : decode bMO_clear 0 = .ok (.aload_n 0, 1) := by decide +kernel
theorem dMO_clear_1 : decode bMO_clear 1 = .ok (.aload_n 0, 1) := by decide +kernel
theorem dMO_clear_2 : decode bMO_clear 2 = .ok (.iload_n 1, 1) := by decide +kernel
theorem dMO_clear_3 : decode bMO_clear 3 = .ok (.invokevirtual 139, 3) := by decide +kernel
theorem dMO_clear_6 : decode bMO_clear 6 = .ok (.ifCond .eq 14, 3) := by decide +kernel
theorem dMO_clear_9 : decode bMO_clear 9 = .ok (.iload_n 2, 1) := by decide +kernel
theorem dMO_clear_10 : decode bMO_clear 10 = .ok (.invokestatic 143, 3) := by decide +kernel
theorem dMO_clear_13 : decode bMO_clear 13 = .ok (.ifCond .eq 7, 3) := by decide +kernel
theorem dMO_clear_16 : decode bMO_clear 16 = .ok (.iconst 1, 1) := by decide +kernel
theorem dMO_clear_17 : decode bMO_clear 17 = .ok (.goto 4, 3) := by decide +kernel
theorem dMO_clear_20 : decode bMO_clear 20 = .ok (.iconst 0, 1) := by decide +kernel
theorem dMO_clear_21 : decode bMO_clear 21 = .ok (.aload_n 0, 1) := by decide +kernel
theorem dMO_clear_22 : decode bMO_clear 22 = .ok (.getfield 135, 3) := by decide +kernel
theorem dMO_clear_25 : decode bMO_clear 25 = .ok (.invokevirtual 146, 3) := by decide +kernel
theorem dMO_clear_28 : decode bMO_clear 28 = .ok (.ifCond .ne 5, 3) := by decide +kernel
theorem dMO_clear_31 : decode bMO_clear 31 = .ok (.iconst 0, 1) := by decide +kernel
theorem dMO_clear_32 : decode bMO_clear 32 = .ok (.ireturn, 1) := by decide +kernel
theorem dMO_clear_33 : decode bMO_clear 33 = .ok (.aload_n 0, 1) := by decide +kernel
theorem dMO_clear_34 : decode bMO_clear 34 = .ok (.iload_n 1, 1) := by decide +kernel
theorem dMO_clear_35 : decode bMO_clear 35 = .ok (.iload_n 2, 1) := by decide +kernel
theorem dMO_clear_36 : decode bMO_clear 36 = .ok (.invokevirtual 224, 3) := by decide +kernel
theorem dMO_clear_39 : decode bMO_clear 39 = .ok (.istore_n 3, 1) := by decide +kernel
theorem dMO_clear_40 : decode bMO_clear 40 = .ok (.aload_n 0, 1) := by decide +kernel
theorem dMO_clear_41 : decode bMO_clear 41 = .ok (.iload_n 3, 1) := by decide +kernel
theorem dMO_clear_42 : decode bMO_clear 42 = .ok (.ifCond .eq 7, 3) := by decide +kernel
theorem dMO_clear_45 : decode bMO_clear 45 = .ok (.iconst 0, 1) := by decide +kernel
theorem dMO_clear_46 : decode bMO_clear 46 = .ok (.goto 7, 3) := by decide +kernel
theorem dMO_clear_49 : decode bMO_clear 49 = .ok (.aload_n 0, 1) := by decide +kernel
theorem dMO_clear_50 : decode bMO_clear 50 = .ok (.getfield 221, 3) := by decide +kernel
theorem dMO_clear_53 : decode bMO_clear 53 = .ok (.putfield 221, 3) := by decide +kernel
theorem dMO_clear_56 : decode bMO_clear 56 = .ok (.aload_n 0, 1) := by decide +kernel
theorem dMO_clear_57 : decode bMO_clear 57 = .ok (.invokevirtual 215, 3) := by decide +kernel
theorem dMO_clear_60 : decode bMO_clear 60 = .ok (.iload_n 3, 1) := by decide +kernel
theorem dMO_clear_61 : decode bMO_clear 61 = .ok (.ireturn, 1) := by decide +kernel
theorem dMO_fail_0 : decode bMO_fail 0 = .ok (.aload_n 0, 1) := by decide +kernel
theorem dMO_fail_1 : decode bMO_fail 1 = .ok (.aload_n 0, 1) := by decide +kernel
theorem dMO_fail_2 : decode bMO_fail 2 = .ok (.iload_n 1, 1) := by decide +kernel
theorem dMO_fail_3 : decode bMO_fail 3 = .ok (.invokevirtual 150, 3) := by decide +kernel
theorem dMO_fail_6 : decode bMO_fail 6 = .ok (.aload_n 0, 1) := by decide +kernel
theorem dMO_fail_7 : decode bMO_fail 7 = .ok (.getfield 135, 3) := by decide +kernel
theorem dMO_fail_10 : decode bMO_fail 10 = .ok (.invokevirtual 146, 3) := by decide +kernel
theorem dMO_fail_13 : decode bMO_fail 13 = .ok (.ifCond .eq 12, 3) := by decide +kernel
theorem dMO_fail_16 : decode bMO_fail 16 = .ok (.aload_n 0, 1) := by decide +kernel
theorem dMO_fail_17 : decode bMO_fail 17 = .ok (.getfield 19, 3) := by decide +kernel
theorem dMO_fail_20 : decode bMO_fail 20 = .ok (.iload_n 1, 1) := by decide +kernel
theorem dMO_fail_21 : decode bMO_fail 21 = .ok (.baload, 1) := by decide +kernel
theorem dMO_fail_22 : decode bMO_fail 22 = .ok (.ifCond .eq 9, 3) := by decide +kernel
theorem dMO_fail_25 : decode bMO_fail 25 = .ok (.aload_n 0, 1) := by decide +kernel
theorem dMO_fail_26 : decode bMO_fail 26 = .ok (.invokevirtual 215, 3) := by decide +kernel
theorem dMO_fail_29 : decode bMO_fail 29 = .ok (.iconst 0, 1) := by decide +kernel
theorem dMO_fail_30 : decode bMO_fail 30 = .ok (.ireturn, 1) := by decide +kernel
theorem dMO_fail_31 : decode bMO_fail 31 = .ok (.aload_n 0, 1) := by decide +kernel
theorem dMO_fail_32 : decode bMO_fail 32 = .ok (.getfield 19, 3) := by decide +kernel
theorem dMO_fail_35 : decode bMO_fail 35 = .ok (.iload_n 1, 1) := by decide +kernel
theorem dMO_fail_36 : decode bMO_fail 36 = .ok (.iconst 1, 1) := by decide +kernel
theorem dMO_fail_37 : decode bMO_fail 37 = .ok (.bastore, 1) := by decide +kernel
theorem dMO_fail_38 : decode bMO_fail 38 = .ok (.aload_n 0, 1) := by decide +kernel
theorem dMO_fail_39 : decode bMO_fail 39 = .ok (.getfield 23, 3) := by decide +kernel
theorem dMO_fail_42 : decode bMO_fail 42 = .ok (.iload_n 1, 1) := by decide +kernel
theorem dMO_fail_43 : decode bMO_fail 43 = .ok (.dup2, 1) := by decide +kernel
theorem dMO_fail_44 : decode bMO_fail 44 = .ok (.iaload, 1) := by decide +kernel
theorem dMO_fail_45 : decode bMO_fail 45 = .ok (.iconst 1, 1) := by decide +kernel
theorem dMO_fail_46 : decode bMO_fail 46 = .ok (.iadd, 1) := by decide +kernel
theorem dMO_fail_47 : decode bMO_fail 47 = .ok (.iastore, 1) := by decide +kernel
theorem dMO_fail_48 : decode bMO_fail 48 = .ok (.iconst 0, 1) := by decide +kernel
theorem dMO_fail_49 : decode bMO_fail 49 = .ok (.istore_n 2, 1) := by decide +kernel
theorem dMO_fail_50 : decode bMO_fail 50 = .ok (.iload_n 2, 1) := by decide +kernel
theorem dMO_fail_51 : decode bMO_fail 51 = .ok (.iconst 2, 1) := by decide +kernel
theorem dMO_fail_52 : decode bMO_fail 52 = .ok (.if_icmp .ge 74, 3) := by decide +kernel
theorem dMO_fail_55 : decode bMO_fail 55 = .ok (.iload_n 2, 1) := by decide +kernel
theorem dMO_fail_56 : decode bMO_fail 56 = .ok (.ifCond .ne 12, 3) := by decide +kernel
theorem dMO_fail_59 : decode bMO_fail 59 = .ok (.aload_n 0, 1) := by decide +kernel
theorem dMO_fail_60 : decode bMO_fail 60 = .ok (.getfield 7, 3) := by decide +kernel
theorem dMO_fail_63 : decode bMO_fail 63 = .ok (.iload_n 1, 1) := by decide +kernel
theorem dMO_fail_64 : decode bMO_fail 64 = .ok (.iaload, 1) := by decide +kernel
theorem dMO_fail_65 : decode bMO_fail 65 = .ok (.goto 9, 3) := by decide +kernel
theorem dMO_fail_68 : decode bMO_fail 68 = .ok (.aload_n 0, 1) := by decide +kernel
theorem dMO_fail_69 : decode bMO_fail 69 = .ok (.getfield 13, 3) := by decide +kernel
theorem dMO_fail_72 : decode bMO_fail 72 = .ok (.iload_n 1, 1) := by decide +kernel
theorem dMO_fail_73 : decode bMO_fail 73 = .ok (.iaload, 1) := by decide +kernel
theorem dMO_fail_74 : decode bMO_fail 74 = .ok (.istore_n 3, 1) := by decide +kernel
theorem dMO_fail_75 : decode bMO_fail 75 = .ok (.aload_n 0, 1) := by decide +kernel
theorem dMO_fail_76 : decode bMO_fail 76 = .ok (.iload_n 3, 1) := by decide +kernel
theorem dMO_fail_77 : decode bMO_fail 77 = .ok (.iload_n 1, 1) := by decide +kernel
theorem dMO_fail_78 : decode bMO_fail 78 = .ok (.aload_n 0, 1) := by decide +kernel
theorem dMO_fail_79 : decode bMO_fail 79 = .ok (.getfield 29, 3) := by decide +kernel
theorem dMO_fail_82 : decode bMO_fail 82 = .ok (.aload_n 0, 1) := by decide +kernel
theorem dMO_fail_83 : decode bMO_fail 83 = .ok (.iload_n 3, 1) := by decide +kernel
theorem dMO_fail_84 : decode bMO_fail 84 = .ok (.iload_n 1, 1) := by decide +kernel
theorem dMO_fail_85 : decode bMO_fail 85 = .ok (.invokevirtual 189, 3) := by decide +kernel
theorem dMO_fail_88 : decode bMO_fail 88 = .ok (.iaload, 1) := by decide +kernel
theorem dMO_fail_89 : decode bMO_fail 89 = .ok (.bipush (-9), 2) := by decide +kernel
theorem dMO_fail_91 : decode bMO_fail 91 = .ok (.iand, 1) := by decide +kernel
theorem dMO_fail_92 : decode bMO_fail 92 = .ok (.invokevirtual 195, 3) := by decide +kernel
theorem dMO_fail_95 : decode bMO_fail 95 = .ok (.aload_n 0, 1) := by decide +kernel
theorem dMO_fail_96 : decode bMO_fail 96 = .ok (.iload_n 3, 1) := by decide +kernel
theorem dMO_fail_97 : decode bMO_fail 97 = .ok (.iload_n 1, 1) := by decide +kernel
theorem dMO_fail_98 : decode bMO_fail 98 = .ok (.iconst 1, 1) := by decide +kernel
theorem dMO_fail_99 : decode bMO_fail 99 = .ok (.invokevirtual 218, 3) := by decide +kernel
theorem dMO_fail_102 : decode bMO_fail 102 = .ok (.aload_n 0, 1) := by decide +kernel
theorem dMO_fail_103 : decode bMO_fail 103 = .ok (.iload_n 3, 1) := by decide +kernel
theorem dMO_fail_104 : decode bMO_fail 104 = .ok (.iload_n 1, 1) := by decide +kernel
theorem dMO_fail_105 : decode bMO_fail 105 = .ok (.aload_n 0, 1) := by decide +kernel
theorem dMO_fail_106 : decode bMO_fail 106 = .ok (.getfield 23, 3) := by decide +kernel
theorem dMO_fail_109 : decode bMO_fail 109 = .ok (.iload_n 1, 1) := by decide +kernel
theorem dMO_fail_110 : decode bMO_fail 110 = .ok (.iaload, 1) := by decide +kernel
theorem dMO_fail_111 : decode bMO_fail 111 = .ok (.aload_n 0, 1) := by decide +kernel
theorem dMO_fail_112 : decode bMO_fail 112 = .ok (.getfield 16, 3) := by decide +kernel
theorem dMO_fail_115 : decode bMO_fail 115 = .ok (.iload_n 1, 1) := by decide +kernel
theorem dMO_fail_116 : decode bMO_fail 116 = .ok (.iaload, 1) := by decide +kernel
theorem dMO_fail_117 : decode bMO_fail 117 = .ok (.invokevirtual 205, 3) := by decide +kernel
theorem dMO_fail_120 : decode bMO_fail 120 = .ok (.iinc 2 1, 3) := by decide +kernel
theorem dMO_fail_123 : decode bMO_fail 123 = .ok (.goto (-73), 3) := by decide +kernel
theorem dMO_fail_126 : decode bMO_fail 126 = .ok (.aload_n 0, 1) := by decide +kernel
theorem dMO_fail_127 : decode bMO_fail 127 = .ok (.iconst 0, 1) := by decide +kernel
theorem dMO_fail_128 : decode bMO_fail 128 = .ok (.putfield 221, 3) := by decide +kernel
theorem dMO_fail_131 : decode bMO_fail 131 = .ok (.aload_n 0, 1) := by decide +kernel
theorem dMO_fail_132 : decode bMO_fail 132 = .ok (.invokevirtual 215, 3) := by decide +kernel
theorem dMO_fail_135 : decode bMO_fail 135 = .ok (.iconst 1, 1) := by decide +kernel
theorem dMO_fail_136 : decode bMO_fail 136 = .ok (.ireturn, 1) := by decide +kernel
theorem dMO_heal_0 : decode bMO_heal 0 = .ok (.aload_n 0, 1) := by decide +kernel
theorem dMO_heal_1 : decode bMO_heal 1 = .ok (.aload_n 0, 1) := by decide +kernel
theorem dMO_heal_2 : decode bMO_heal 2 = .ok (.iload_n 1, 1) := by decide +kernel
theorem dMO_heal_3 : decode bMO_heal 3 = .ok (.invokevirtual 150, 3) := by decide +kernel
theorem dMO_heal_6 : decode bMO_heal 6 = .ok (.aload_n 0, 1) := by decide +kernel
theorem dMO_heal_7 : decode bMO_heal 7 = .ok (.getfield 135, 3) := by decide +kernel
theorem dMO_heal_10 : decode bMO_heal 10 = .ok (.invokevirtual 146, 3) := by decide +kernel
theorem dMO_heal_13 : decode bMO_heal 13 = .ok (.ifCond .eq 12, 3) := by decide +kernel
theorem dMO_heal_16 : decode bMO_heal 16 = .ok (.aload_n 0, 1) := by decide +kernel
theorem dMO_heal_17 : decode bMO_heal 17 = .ok (.getfield 19, 3) := by decide +kernel
theorem dMO_heal_20 : decode bMO_heal 20 = .ok (.iload_n 1, 1) := by decide +kernel
theorem dMO_heal_21 : decode bMO_heal 21 = .ok (.baload, 1) := by decide +kernel
theorem dMO_heal_22 : decode bMO_heal 22 = .ok (.ifCond .ne 9, 3) := by decide +kernel
theorem dMO_heal_25 : decode bMO_heal 25 = .ok (.aload_n 0, 1) := by decide +kernel
theorem dMO_heal_26 : decode bMO_heal 26 = .ok (.invokevirtual 215, 3) := by decide +kernel
theorem dMO_heal_29 : decode bMO_heal 29 = .ok (.iconst 0, 1) := by decide +kernel
theorem dMO_heal_30 : decode bMO_heal 30 = .ok (.ireturn, 1) := by decide +kernel
theorem dMO_heal_31 : decode bMO_heal 31 = .ok (.aload_n 0, 1) := by decide +kernel
theorem dMO_heal_32 : decode bMO_heal 32 = .ok (.getfield 19, 3) := by decide +kernel
theorem dMO_heal_35 : decode bMO_heal 35 = .ok (.iload_n 1, 1) := by decide +kernel
theorem dMO_heal_36 : decode bMO_heal 36 = .ok (.iconst 0, 1) := by decide +kernel
theorem dMO_heal_37 : decode bMO_heal 37 = .ok (.bastore, 1) := by decide +kernel
theorem dMO_heal_38 : decode bMO_heal 38 = .ok (.aload_n 0, 1) := by decide +kernel
theorem dMO_heal_39 : decode bMO_heal 39 = .ok (.aload_n 0, 1) := by decide +kernel
theorem dMO_heal_40 : decode bMO_heal 40 = .ok (.getfield 7, 3) := by decide +kernel
theorem dMO_heal_43 : decode bMO_heal 43 = .ok (.iload_n 1, 1) := by decide +kernel
theorem dMO_heal_44 : decode bMO_heal 44 = .ok (.iaload, 1) := by decide +kernel
theorem dMO_heal_45 : decode bMO_heal 45 = .ok (.iload_n 1, 1) := by decide +kernel
theorem dMO_heal_46 : decode bMO_heal 46 = .ok (.iconst 1, 1) := by decide +kernel
theorem dMO_heal_47 : decode bMO_heal 47 = .ok (.invokevirtual 209, 3) := by decide +kernel
theorem dMO_heal_50 : decode bMO_heal 50 = .ok (.aload_n 0, 1) := by decide +kernel
theorem dMO_heal_51 : decode bMO_heal 51 = .ok (.aload_n 0, 1) := by decide +kernel
theorem dMO_heal_52 : decode bMO_heal 52 = .ok (.getfield 13, 3) := by decide +kernel
theorem dMO_heal_55 : decode bMO_heal 55 = .ok (.iload_n 1, 1) := by decide +kernel
theorem dMO_heal_56 : decode bMO_heal 56 = .ok (.iaload, 1) := by decide +kernel
theorem dMO_heal_57 : decode bMO_heal 57 = .ok (.iload_n 1, 1) := by decide +kernel
theorem dMO_heal_58 : decode bMO_heal 58 = .ok (.iconst 1, 1) := by decide +kernel
theorem dMO_heal_59 : decode bMO_heal 59 = .ok (.invokevirtual 209, 3) := by decide +kernel
theorem dMO_heal_62 : decode bMO_heal 62 = .ok (.aload_n 0, 1) := by decide +kernel
theorem dMO_heal_63 : decode bMO_heal 63 = .ok (.iconst 0, 1) := by decide +kernel
theorem dMO_heal_64 : decode bMO_heal 64 = .ok (.putfield 221, 3) := by decide +kernel
theorem dMO_heal_67 : decode bMO_heal 67 = .ok (.aload_n 0, 1) := by decide +kernel
theorem dMO_heal_68 : decode bMO_heal 68 = .ok (.invokevirtual 215, 3) := by decide +kernel
theorem dMO_heal_71 : decode bMO_heal 71 = .ok (.iconst 1, 1) := by decide +kernel
theorem dMO_heal_72 : decode bMO_heal 72 = .ok (.ireturn, 1) := by decide +kernel
theorem dMO_holds_0 : decode bMO_holds 0 = .ok (.aload_n 0, 1) := by decide +kernel
theorem dMO_holds_1 : decode bMO_holds 1 = .ok (.aload_n 0, 1) := by decide +kernel
theorem dMO_holds_2 : decode bMO_holds 2 = .ok (.iload_n 1, 1) := by decide +kernel
theorem dMO_holds_3 : decode bMO_holds 3 = .ok (.invokevirtual 139, 3) := by decide +kernel
theorem dMO_holds_6 : decode bMO_holds 6 = .ok (.ifCond .eq 24, 3) := by decide +kernel
theorem dMO_holds_9 : decode bMO_holds 9 = .ok (.aload_n 0, 1) := by decide +kernel
theorem dMO_holds_10 : decode bMO_holds 10 = .ok (.iload_n 2, 1) := by decide +kernel
theorem dMO_holds_11 : decode bMO_holds 11 = .ok (.invokevirtual 150, 3) := by decide +kernel
theorem dMO_holds_14 : decode bMO_holds 14 = .ok (.ifCond .eq 16, 3) := by decide +kernel
theorem dMO_holds_17 : decode bMO_holds 17 = .ok (.aload_n 0, 1) := by decide +kernel
theorem dMO_holds_18 : decode bMO_holds 18 = .ok (.iload_n 1, 1) := by decide +kernel
theorem dMO_holds_19 : decode bMO_holds 19 = .ok (.iload_n 2, 1) := by decide +kernel
theorem dMO_holds_20 : decode bMO_holds 20 = .ok (.invokevirtual 153, 3) := by decide +kernel
theorem dMO_holds_23 : decode bMO_holds 23 = .ok (.ifCond .eq 7, 3) := by decide +kernel
theorem dMO_holds_26 : decode bMO_holds 26 = .ok (.iconst 0, 1) := by decide +kernel
theorem dMO_holds_27 : decode bMO_holds 27 = .ok (.goto 4, 3) := by decide +kernel
theorem dMO_holds_30 : decode bMO_holds 30 = .ok (.iconst 1, 1) := by decide +kernel
theorem dMO_holds_31 : decode bMO_holds 31 = .ok (.putfield 125, 3) := by decide +kernel
theorem dMO_holds_34 : decode bMO_holds 34 = .ok (.aload_n 0, 1) := by decide +kernel
theorem dMO_holds_35 : decode bMO_holds 35 = .ok (.getfield 125, 3) := by decide +kernel
theorem dMO_holds_38 : decode bMO_holds 38 = .ok (.ifCond .le 7, 3) := by decide +kernel
theorem dMO_holds_41 : decode bMO_holds 41 = .ok (.iconst 0, 1) := by decide +kernel
theorem dMO_holds_42 : decode bMO_holds 42 = .ok (.goto 14, 3) := by decide +kernel
theorem dMO_holds_45 : decode bMO_holds 45 = .ok (.aload_n 0, 1) := by decide +kernel
theorem dMO_holds_46 : decode bMO_holds 46 = .ok (.getfield 29, 3) := by decide +kernel
theorem dMO_holds_49 : decode bMO_holds 49 = .ok (.aload_n 0, 1) := by decide +kernel
theorem dMO_holds_50 : decode bMO_holds 50 = .ok (.iload_n 1, 1) := by decide +kernel
theorem dMO_holds_51 : decode bMO_holds 51 = .ok (.iload_n 2, 1) := by decide +kernel
theorem dMO_holds_52 : decode bMO_holds 52 = .ok (.invokevirtual 189, 3) := by decide +kernel
theorem dMO_holds_55 : decode bMO_holds 55 = .ok (.iaload, 1) := by decide +kernel
theorem dMO_holds_56 : decode bMO_holds 56 = .ok (.ireturn, 1) := by decide +kernel
theorem dMO_host_0 : decode bMO_host 0 = .ok (.aload_n 0, 1) := by decide +kernel
theorem dMO_host_1 : decode bMO_host 1 = .ok (.iload_n 1, 1) := by decide +kernel
theorem dMO_host_2 : decode bMO_host 2 = .ok (.ifCond .lt 21, 3) := by decide +kernel
theorem dMO_host_5 : decode bMO_host 5 = .ok (.iload_n 1, 1) := by decide +kernel
theorem dMO_host_6 : decode bMO_host 6 = .ok (.bipush 64, 2) := by decide +kernel
theorem dMO_host_8 : decode bMO_host 8 = .ok (.if_icmp .ge 15, 3) := by decide +kernel
theorem dMO_host_11 : decode bMO_host 11 = .ok (.aload_n 0, 1) := by decide +kernel
theorem dMO_host_12 : decode bMO_host 12 = .ok (.iload_n 2, 1) := by decide +kernel
theorem dMO_host_13 : decode bMO_host 13 = .ok (.invokevirtual 139, 3) := by decide +kernel
theorem dMO_host_16 : decode bMO_host 16 = .ok (.ifCond .eq 7, 3) := by decide +kernel
theorem dMO_host_19 : decode bMO_host 19 = .ok (.iconst 1, 1) := by decide +kernel
theorem dMO_host_20 : decode bMO_host 20 = .ok (.goto 4, 3) := by decide +kernel
theorem dMO_host_23 : decode bMO_host 23 = .ok (.iconst 0, 1) := by decide +kernel
theorem dMO_host_24 : decode bMO_host 24 = .ok (.aload_n 0, 1) := by decide +kernel
theorem dMO_host_25 : decode bMO_host 25 = .ok (.getfield 135, 3) := by decide +kernel
theorem dMO_host_28 : decode bMO_host 28 = .ok (.invokevirtual 146, 3) := by decide +kernel
theorem dMO_host_31 : decode bMO_host 31 = .ok (.ifCond .ne 5, 3) := by decide +kernel
theorem dMO_host_34 : decode bMO_host 34 = .ok (.iconst 0, 1) := by decide +kernel
theorem dMO_host_35 : decode bMO_host 35 = .ok (.ireturn, 1) := by decide +kernel
theorem dMO_host_36 : decode bMO_host 36 = .ok (.aload_n 0, 1) := by decide +kernel
theorem dMO_host_37 : decode bMO_host 37 = .ok (.getfield 77, 3) := by decide +kernel
theorem dMO_host_40 : decode bMO_host 40 = .ok (.iload_n 1, 1) := by decide +kernel
theorem dMO_host_41 : decode bMO_host 41 = .ok (.iaload, 1) := by decide +kernel
theorem dMO_host_42 : decode bMO_host 42 = .ok (.istore_n 3, 1) := by decide +kernel
theorem dMO_host_43 : decode bMO_host 43 = .ok (.aload_n 0, 1) := by decide +kernel
theorem dMO_host_44 : decode bMO_host 44 = .ok (.getfield 77, 3) := by decide +kernel
theorem dMO_host_47 : decode bMO_host 47 = .ok (.iload_n 1, 1) := by decide +kernel
theorem dMO_host_48 : decode bMO_host 48 = .ok (.iload_n 2, 1) := by decide +kernel
theorem dMO_host_49 : decode bMO_host 49 = .ok (.iastore, 1) := by decide +kernel
theorem dMO_host_50 : decode bMO_host 50 = .ok (.iconst 0, 1) := by decide +kernel
theorem dMO_host_51 : decode bMO_host 51 = .ok (.istore 4, 2) := by decide +kernel
theorem dMO_host_53 : decode bMO_host 53 = .ok (.iload 4, 2) := by decide +kernel
theorem dMO_host_55 : decode bMO_host 55 = .ok (.aload_n 0, 1) := by decide +kernel
theorem dMO_host_56 : decode bMO_host 56 = .ok (.getfield 129, 3) := by decide +kernel
theorem dMO_host_59 : decode bMO_host 59 = .ok (.if_icmp .ge 44, 3) := by decide +kernel
theorem dMO_host_62 : decode bMO_host 62 = .ok (.iconst 0, 1) := by decide +kernel
theorem dMO_host_63 : decode bMO_host 63 = .ok (.istore 5, 2) := by decide +kernel
theorem dMO_host_65 : decode bMO_host 65 = .ok (.iload 5, 2) := by decide +kernel
theorem dMO_host_67 : decode bMO_host 67 = .ok (.iconst 4, 1) := by decide +kernel
theorem dMO_host_68 : decode bMO_host 68 = .ok (.if_icmp .ge 29, 3) := by decide +kernel
theorem dMO_host_71 : decode bMO_host 71 = .ok (.aload_n 0, 1) := by decide +kernel
theorem dMO_host_72 : decode bMO_host 72 = .ok (.getfield 71, 3) := by decide +kernel
theorem dMO_host_75 : decode bMO_host 75 = .ok (.sipush 256, 3) := by decide +kernel
theorem dMO_host_78 : decode bMO_host 78 = .ok (.iload 4, 2) := by decide +kernel
theorem dMO_host_80 : decode bMO_host 80 = .ok (.imul, 1) := by decide +kernel
theorem dMO_host_81 : decode bMO_host 81 = .ok (.bipush 64, 2) := by decide +kernel
theorem dMO_host_83 : decode bMO_host 83 = .ok (.iload 5, 2) := by decide +kernel
theorem dMO_host_85 : decode bMO_host 85 = .ok (.imul, 1) := by decide +kernel
theorem dMO_host_86 : decode bMO_host 86 = .ok (.iadd, 1) := by decide +kernel
theorem dMO_host_87 : decode bMO_host 87 = .ok (.iload_n 1, 1) := by decide +kernel
theorem dMO_host_88 : decode bMO_host 88 = .ok (.iadd, 1) := by decide +kernel
theorem dMO_host_89 : decode bMO_host 89 = .ok (.iconst (-1), 1) := by decide +kernel
theorem dMO_host_90 : decode bMO_host 90 = .ok (.iastore, 1) := by decide +kernel
theorem dMO_host_91 : decode bMO_host 91 = .ok (.iinc 5 1, 3) := by decide +kernel
theorem dMO_host_94 : decode bMO_host 94 = .ok (.goto (-29), 3) := by decide +kernel
theorem dMO_host_97 : decode bMO_host 97 = .ok (.iinc 4 1, 3) := by decide +kernel
theorem dMO_host_100 : decode bMO_host 100 = .ok (.goto (-47), 3) := by decide +kernel
theorem dMO_host_103 : decode bMO_host 103 = .ok (.iload_n 3, 1) := by decide +kernel
theorem dMO_host_104 : decode bMO_host 104 = .ok (.ireturn, 1) := by decide +kernel
theorem dMO_joined_0 : decode bMO_joined 0 = .ok (.aload_n 0, 1) := by decide +kernel
theorem dMO_joined_1 : decode bMO_joined 1 = .ok (.aload_n 0, 1) := by decide +kernel
theorem dMO_joined_2 : decode bMO_joined 2 = .ok (.iload_n 1, 1) := by decide +kernel
theorem dMO_joined_3 : decode bMO_joined 3 = .ok (.invokevirtual 139, 3) := by decide +kernel
theorem dMO_joined_6 : decode bMO_joined 6 = .ok (.ifCond .eq 15, 3) := by decide +kernel
theorem dMO_joined_9 : decode bMO_joined 9 = .ok (.aload_n 0, 1) := by decide +kernel
theorem dMO_joined_10 : decode bMO_joined 10 = .ok (.iload_n 2, 1) := by decide +kernel
theorem dMO_joined_11 : decode bMO_joined 11 = .ok (.invokevirtual 139, 3) := by decide +kernel
theorem dMO_joined_14 : decode bMO_joined 14 = .ok (.ifCond .eq 7, 3) := by decide +kernel
theorem dMO_joined_17 : decode bMO_joined 17 = .ok (.iconst 0, 1) := by decide +kernel
theorem dMO_joined_18 : decode bMO_joined 18 = .ok (.goto 4, 3) := by decide +kernel
theorem dMO_joined_21 : decode bMO_joined 21 = .ok (.iconst 1, 1) := by decide +kernel
theorem dMO_joined_22 : decode bMO_joined 22 = .ok (.putfield 125, 3) := by decide +kernel
theorem dMO_joined_25 : decode bMO_joined 25 = .ok (.aload_n 0, 1) := by decide +kernel
theorem dMO_joined_26 : decode bMO_joined 26 = .ok (.getfield 125, 3) := by decide +kernel
theorem dMO_joined_29 : decode bMO_joined 29 = .ok (.ifCond .le 5, 3) := by decide +kernel
theorem dMO_joined_32 : decode bMO_joined 32 = .ok (.iconst 0, 1) := by decide +kernel
theorem dMO_joined_33 : decode bMO_joined 33 = .ok (.ireturn, 1) := by decide +kernel
theorem dMO_joined_34 : decode bMO_joined 34 = .ok (.iconst 0, 1) := by decide +kernel
theorem dMO_joined_35 : decode bMO_joined 35 = .ok (.istore_n 3, 1) := by decide +kernel
theorem dMO_joined_36 : decode bMO_joined 36 = .ok (.iload_n 3, 1) := by decide +kernel
theorem dMO_joined_37 : decode bMO_joined 37 = .ok (.aload_n 0, 1) := by decide +kernel
theorem dMO_joined_38 : decode bMO_joined 38 = .ok (.getfield 129, 3) := by decide +kernel
theorem dMO_joined_41 : decode bMO_joined 41 = .ok (.if_icmp .ge 16, 3) := by decide +kernel
theorem dMO_joined_44 : decode bMO_joined 44 = .ok (.aload_n 0, 1) := by decide +kernel
theorem dMO_joined_45 : decode bMO_joined 45 = .ok (.getfield 110, 3) := by decide +kernel
theorem dMO_joined_48 : decode bMO_joined 48 = .ok (.iload_n 3, 1) := by decide +kernel
theorem dMO_joined_49 : decode bMO_joined 49 = .ok (.iload_n 3, 1) := by decide +kernel
theorem dMO_joined_50 : decode bMO_joined 50 = .ok (.iastore, 1) := by decide +kernel
theorem dMO_joined_51 : decode bMO_joined 51 = .ok (.iinc 3 1, 3) := by decide +kernel
theorem dMO_joined_54 : decode bMO_joined 54 = .ok (.goto (-18), 3) := by decide +kernel
theorem dMO_joined_57 : decode bMO_joined 57 = .ok (.iconst 0, 1) := by decide +kernel
theorem dMO_joined_58 : decode bMO_joined 58 = .ok (.istore_n 3, 1) := by decide +kernel
theorem dMO_joined_59 : decode bMO_joined 59 = .ok (.iload_n 3, 1) := by decide +kernel
theorem dMO_joined_60 : decode bMO_joined 60 = .ok (.aload_n 0, 1) := by decide +kernel
theorem dMO_joined_61 : decode bMO_joined 61 = .ok (.getfield 132, 3) := by decide +kernel
theorem dMO_joined_64 : decode bMO_joined 64 = .ok (.if_icmp .ge 43, 3) := by decide +kernel
theorem dMO_joined_67 : decode bMO_joined 67 = .ok (.aload_n 0, 1) := by decide +kernel
theorem dMO_joined_68 : decode bMO_joined 68 = .ok (.iload_n 3, 1) := by decide +kernel
theorem dMO_joined_69 : decode bMO_joined 69 = .ok (.invokevirtual 287, 3) := by decide +kernel
theorem dMO_joined_72 : decode bMO_joined 72 = .ok (.ifCond .eq 26, 3) := by decide +kernel
theorem dMO_joined_75 : decode bMO_joined 75 = .ok (.aload_n 0, 1) := by decide +kernel
theorem dMO_joined_76 : decode bMO_joined 76 = .ok (.aload_n 0, 1) := by decide +kernel
theorem dMO_joined_77 : decode bMO_joined 77 = .ok (.getfield 7, 3) := by decide +kernel
theorem dMO_joined_80 : decode bMO_joined 80 = .ok (.iload_n 3, 1) := by decide +kernel
theorem dMO_joined_81 : decode bMO_joined 81 = .ok (.iaload, 1) := by decide +kernel
theorem dMO_joined_82 : decode bMO_joined 82 = .ok (.aload_n 0, 1) := by decide +kernel
theorem dMO_joined_83 : decode bMO_joined 83 = .ok (.getfield 13, 3) := by decide +kernel
theorem dMO_joined_86 : decode bMO_joined 86 = .ok (.iload_n 3, 1) := by decide +kernel
theorem dMO_joined_87 : decode bMO_joined 87 = .ok (.iaload, 1) := by decide +kernel
theorem dMO_joined_88 : decode bMO_joined 88 = .ok (.invokevirtual 161, 3) := by decide +kernel
theorem dMO_joined_91 : decode bMO_joined 91 = .ok (.ifCond .eq 7, 3) := by decide +kernel
theorem dMO_joined_94 : decode bMO_joined 94 = .ok (.iconst 1, 1) := by decide +kernel
theorem dMO_joined_95 : decode bMO_joined 95 = .ok (.goto 4, 3) := by decide +kernel
theorem dMO_joined_98 : decode bMO_joined 98 = .ok (.iconst 0, 1) := by decide +kernel
theorem dMO_joined_99 : decode bMO_joined 99 = .ok (.istore 4, 2) := by decide +kernel
theorem dMO_joined_101 : decode bMO_joined 101 = .ok (.iinc 3 1, 3) := by decide +kernel
theorem dMO_joined_104 : decode bMO_joined 104 = .ok (.goto (-45), 3) := by decide +kernel
theorem dMO_joined_107 : decode bMO_joined 107 = .ok (.aload_n 0, 1) := by decide +kernel
theorem dMO_joined_108 : decode bMO_joined 108 = .ok (.getfield 110, 3) := by decide +kernel
theorem dMO_joined_111 : decode bMO_joined 111 = .ok (.iload_n 1, 1) := by decide +kernel
theorem dMO_joined_112 : decode bMO_joined 112 = .ok (.iaload, 1) := by decide +kernel
theorem dMO_joined_113 : decode bMO_joined 113 = .ok (.aload_n 0, 1) := by decide +kernel
theorem dMO_joined_114 : decode bMO_joined 114 = .ok (.getfield 110, 3) := by decide +kernel
theorem dMO_joined_117 : decode bMO_joined 117 = .ok (.iload_n 2, 1) := by decide +kernel
theorem dMO_joined_118 : decode bMO_joined 118 = .ok (.iaload, 1) := by decide +kernel
theorem dMO_joined_119 : decode bMO_joined 119 = .ok (.if_icmp .ne 7, 3) := by decide +kernel
theorem dMO_joined_122 : decode bMO_joined 122 = .ok (.iconst 1, 1) := by decide +kernel
theorem dMO_joined_123 : decode bMO_joined 123 = .ok (.goto 4, 3) := by decide +kernel
theorem dMO_joined_126 : decode bMO_joined 126 = .ok (.iconst 0, 1) := by decide +kernel
theorem dMO_joined_127 : decode bMO_joined 127 = .ok (.ireturn, 1) := by decide +kernel
theorem dMO_learned_0 : decode bMO_learned 0 = .ok (.aload_n 0, 1) := by decide +kernel
theorem dMO_learned_1 : decode bMO_learned 1 = .ok (.aload_n 0, 1) := by decide +kernel
theorem dMO_learned_2 : decode bMO_learned 2 = .ok (.iload_n 1, 1) := by decide +kernel
theorem dMO_learned_3 : decode bMO_learned 3 = .ok (.invokevirtual 139, 3) := by decide +kernel
theorem dMO_learned_6 : decode bMO_learned 6 = .ok (.ifCond .eq 26, 3) := by decide +kernel
theorem dMO_learned_9 : decode bMO_learned 9 = .ok (.iload_n 2, 1) := by decide +kernel
theorem dMO_learned_10 : decode bMO_learned 10 = .ok (.ifCond .lt 22, 3) := by decide +kernel
theorem dMO_learned_13 : decode bMO_learned 13 = .ok (.iload_n 2, 1) := by decide +kernel
theorem dMO_learned_14 : decode bMO_learned 14 = .ok (.iconst 4, 1) := by decide +kernel
theorem dMO_learned_15 : decode bMO_learned 15 = .ok (.if_icmp .ge 17, 3) := by decide +kernel
theorem dMO_learned_18 : decode bMO_learned 18 = .ok (.iload_n 3, 1) := by decide +kernel
theorem dMO_learned_19 : decode bMO_learned 19 = .ok (.ifCond .lt 13, 3) := by decide +kernel
theorem dMO_learned_22 : decode bMO_learned 22 = .ok (.iload_n 3, 1) := by decide +kernel
theorem dMO_learned_23 : decode bMO_learned 23 = .ok (.bipush 64, 2) := by decide +kernel
theorem dMO_learned_25 : decode bMO_learned 25 = .ok (.if_icmp .ge 7, 3) := by decide +kernel
theorem dMO_learned_28 : decode bMO_learned 28 = .ok (.iconst 0, 1) := by decide +kernel
theorem dMO_learned_29 : decode bMO_learned 29 = .ok (.goto 4, 3) := by decide +kernel
theorem dMO_learned_32 : decode bMO_learned 32 = .ok (.iconst 1, 1) := by decide +kernel
theorem dMO_learned_33 : decode bMO_learned 33 = .ok (.putfield 125, 3) := by decide +kernel
theorem dMO_learned_36 : decode bMO_learned 36 = .ok (.aload_n 0, 1) := by decide +kernel
theorem dMO_learned_37 : decode bMO_learned 37 = .ok (.getfield 125, 3) := by decide +kernel
theorem dMO_learned_40 : decode bMO_learned 40 = .ok (.ifCond .le 7, 3) := by decide +kernel
theorem dMO_learned_43 : decode bMO_learned 43 = .ok (.iconst (-1), 1) := by decide +kernel
theorem dMO_learned_44 : decode bMO_learned 44 = .ok (.goto 10, 3) := by decide +kernel
theorem dMO_learned_47 : decode bMO_learned 47 = .ok (.aload_n 0, 1) := by decide +kernel
theorem dMO_learned_48 : decode bMO_learned 48 = .ok (.iload_n 1, 1) := by decide +kernel
theorem dMO_learned_49 : decode bMO_learned 49 = .ok (.iload_n 2, 1) := by decide +kernel
theorem dMO_learned_50 : decode bMO_learned 50 = .ok (.iload_n 3, 1) := by decide +kernel
theorem dMO_learned_51 : decode bMO_learned 51 = .ok (.invokevirtual 296, 3) := by decide +kernel
theorem dMO_learned_54 : decode bMO_learned 54 = .ok (.ireturn, 1) := by decide +kernel
theorem dMO_link_0 : decode bMO_link 0 = .ok (.aload_n 0, 1) := by decide +kernel
theorem dMO_link_1 : decode bMO_link 1 = .ok (.aload_n 0, 1) := by decide +kernel
theorem dMO_link_2 : decode bMO_link 2 = .ok (.iload_n 1, 1) := by decide +kernel
theorem dMO_link_3 : decode bMO_link 3 = .ok (.invokevirtual 139, 3) := by decide +kernel
theorem dMO_link_6 : decode bMO_link 6 = .ok (.ifCond .eq 27, 3) := by decide +kernel
theorem dMO_link_9 : decode bMO_link 9 = .ok (.aload_n 0, 1) := by decide +kernel
theorem dMO_link_10 : decode bMO_link 10 = .ok (.iload_n 2, 1) := by decide +kernel
theorem dMO_link_11 : decode bMO_link 11 = .ok (.invokevirtual 139, 3) := by decide +kernel
theorem dMO_link_14 : decode bMO_link 14 = .ok (.ifCond .eq 19, 3) := by decide +kernel
theorem dMO_link_17 : decode bMO_link 17 = .ok (.iload_n 3, 1) := by decide +kernel
theorem dMO_link_18 : decode bMO_link 18 = .ok (.invokestatic 143, 3) := by decide +kernel
theorem dMO_link_21 : decode bMO_link 21 = .ok (.ifCond .eq 12, 3) := by decide +kernel
theorem dMO_link_24 : decode bMO_link 24 = .ok (.iload_n 1, 1) := by decide +kernel
theorem dMO_link_25 : decode bMO_link 25 = .ok (.iload_n 2, 1) := by decide +kernel
theorem dMO_link_26 : decode bMO_link 26 = .ok (.if_icmp .eq 7, 3) := by decide +kernel
theorem dMO_link_29 : decode bMO_link 29 = .ok (.iconst 1, 1) := by decide +kernel
theorem dMO_link_30 : decode bMO_link 30 = .ok (.goto 4, 3) := by decide +kernel
theorem dMO_link_33 : decode bMO_link 33 = .ok (.iconst 0, 1) := by decide +kernel
theorem dMO_link_34 : decode bMO_link 34 = .ok (.aload_n 0, 1) := by decide +kernel
theorem dMO_link_35 : decode bMO_link 35 = .ok (.getfield 135, 3) := by decide +kernel
theorem dMO_link_38 : decode bMO_link 38 = .ok (.ifCond .ne 16, 3) := by decide +kernel
theorem dMO_link_41 : decode bMO_link 41 = .ok (.aload_n 0, 1) := by decide +kernel
theorem dMO_link_42 : decode bMO_link 42 = .ok (.getfield 132, 3) := by decide +kernel
theorem dMO_link_45 : decode bMO_link 45 = .ok (.bipush 60, 2) := by decide +kernel
theorem dMO_link_47 : decode bMO_link 47 = .ok (.if_icmp .ge 7, 3) := by decide +kernel
theorem dMO_link_50 : decode bMO_link 50 = .ok (.iconst 1, 1) := by decide +kernel
theorem dMO_link_51 : decode bMO_link 51 = .ok (.goto 4, 3) := by decide +kernel
theorem dMO_link_54 : decode bMO_link 54 = .ok (.iconst 0, 1) := by decide +kernel
theorem dMO_link_55 : decode bMO_link 55 = .ok (.invokevirtual 146, 3) := by decide +kernel
theorem dMO_link_58 : decode bMO_link 58 = .ok (.ifCond .ne 5, 3) := by decide +kernel
theorem dMO_link_61 : decode bMO_link 61 = .ok (.iconst 0, 1) := by decide +kernel
theorem dMO_link_62 : decode bMO_link 62 = .ok (.ireturn, 1) := by decide +kernel
theorem dMO_link_63 : decode bMO_link 63 = .ok (.aload_n 0, 1) := by decide +kernel
theorem dMO_link_64 : decode bMO_link 64 = .ok (.getfield 7, 3) := by decide +kernel
theorem dMO_link_67 : decode bMO_link 67 = .ok (.aload_n 0, 1) := by decide +kernel
theorem dMO_link_68 : decode bMO_link 68 = .ok (.getfield 132, 3) := by decide +kernel
theorem dMO_link_71 : decode bMO_link 71 = .ok (.iload_n 1, 1) := by decide +kernel
theorem dMO_link_72 : decode bMO_link 72 = .ok (.iastore, 1) := by decide +kernel
theorem dMO_link_73 : decode bMO_link 73 = .ok (.aload_n 0, 1) := by decide +kernel
theorem dMO_link_74 : decode bMO_link 74 = .ok (.getfield 13, 3) := by decide +kernel
theorem dMO_link_77 : decode bMO_link 77 = .ok (.aload_n 0, 1) := by decide +kernel
theorem dMO_link_78 : decode bMO_link 78 = .ok (.getfield 132, 3) := by decide +kernel
theorem dMO_link_81 : decode bMO_link 81 = .ok (.iload_n 2, 1) := by decide +kernel
theorem dMO_link_82 : decode bMO_link 82 = .ok (.iastore, 1) := by decide +kernel
theorem dMO_link_83 : decode bMO_link 83 = .ok (.aload_n 0, 1) := by decide +kernel
theorem dMO_link_84 : decode bMO_link 84 = .ok (.getfield 16, 3) := by decide +kernel
theorem dMO_link_87 : decode bMO_link 87 = .ok (.aload_n 0, 1) := by decide +kernel
theorem dMO_link_88 : decode bMO_link 88 = .ok (.getfield 132, 3) := by decide +kernel
theorem dMO_link_91 : decode bMO_link 91 = .ok (.iload_n 3, 1) := by decide +kernel
theorem dMO_link_92 : decode bMO_link 92 = .ok (.iastore, 1) := by decide +kernel
theorem dMO_link_93 : decode bMO_link 93 = .ok (.aload_n 0, 1) := by decide +kernel
theorem dMO_link_94 : decode bMO_link 94 = .ok (.dup, 1) := by decide +kernel
theorem dMO_link_95 : decode bMO_link 95 = .ok (.getfield 132, 3) := by decide +kernel
theorem dMO_link_98 : decode bMO_link 98 = .ok (.iconst 1, 1) := by decide +kernel
theorem dMO_link_99 : decode bMO_link 99 = .ok (.iadd, 1) := by decide +kernel
theorem dMO_link_100 : decode bMO_link 100 = .ok (.putfield 132, 3) := by decide +kernel
theorem dMO_link_103 : decode bMO_link 103 = .ok (.aload_n 0, 1) := by decide +kernel
theorem dMO_link_104 : decode bMO_link 104 = .ok (.getfield 132, 3) := by decide +kernel
theorem dMO_link_107 : decode bMO_link 107 = .ok (.iconst 1, 1) := by decide +kernel
theorem dMO_link_108 : decode bMO_link 108 = .ok (.isub, 1) := by decide +kernel
theorem dMO_link_109 : decode bMO_link 109 = .ok (.ireturn, 1) := by decide +kernel
theorem dMO_lose_0 : decode bMO_lose 0 = .ok (.aload_n 0, 1) := by decide +kernel
theorem dMO_lose_1 : decode bMO_lose 1 = .ok (.aload_n 0, 1) := by decide +kernel
theorem dMO_lose_2 : decode bMO_lose 2 = .ok (.iload_n 1, 1) := by decide +kernel
theorem dMO_lose_3 : decode bMO_lose 3 = .ok (.invokevirtual 150, 3) := by decide +kernel
theorem dMO_lose_6 : decode bMO_lose 6 = .ok (.ifCond .eq 18, 3) := by decide +kernel
theorem dMO_lose_9 : decode bMO_lose 9 = .ok (.iload_n 2, 1) := by decide +kernel
theorem dMO_lose_10 : decode bMO_lose 10 = .ok (.ifCond .lt 14, 3) := by decide +kernel
theorem dMO_lose_13 : decode bMO_lose 13 = .ok (.iload_n 2, 1) := by decide +kernel
theorem dMO_lose_14 : decode bMO_lose 14 = .ok (.sipush 1000, 3) := by decide +kernel
theorem dMO_lose_17 : decode bMO_lose 17 = .ok (.if_icmp .gt 7, 3) := by decide +kernel
theorem dMO_lose_20 : decode bMO_lose 20 = .ok (.iconst 1, 1) := by decide +kernel
theorem dMO_lose_21 : decode bMO_lose 21 = .ok (.goto 4, 3) := by decide +kernel
theorem dMO_lose_24 : decode bMO_lose 24 = .ok (.iconst 0, 1) := by decide +kernel
theorem dMO_lose_25 : decode bMO_lose 25 = .ok (.aload_n 0, 1) := by decide +kernel
theorem dMO_lose_26 : decode bMO_lose 26 = .ok (.getfield 135, 3) := by decide +kernel
theorem dMO_lose_29 : decode bMO_lose 29 = .ok (.invokevirtual 146, 3) := by decide +kernel
theorem dMO_lose_32 : decode bMO_lose 32 = .ok (.ifCond .ne 5, 3) := by decide +kernel
theorem dMO_lose_35 : decode bMO_lose 35 = .ok (.iconst 0, 1) := by decide +kernel
theorem dMO_lose_36 : decode bMO_lose 36 = .ok (.ireturn, 1) := by decide +kernel
theorem dMO_lose_37 : decode bMO_lose 37 = .ok (.aload_n 0, 1) := by decide +kernel
theorem dMO_lose_38 : decode bMO_lose 38 = .ok (.getfield 26, 3) := by decide +kernel
theorem dMO_lose_41 : decode bMO_lose 41 = .ok (.iload_n 1, 1) := by decide +kernel
theorem dMO_lose_42 : decode bMO_lose 42 = .ok (.iaload, 1) := by decide +kernel
theorem dMO_lose_43 : decode bMO_lose 43 = .ok (.istore_n 3, 1) := by decide +kernel
theorem dMO_lose_44 : decode bMO_lose 44 = .ok (.aload_n 0, 1) := by decide +kernel
theorem dMO_lose_45 : decode bMO_lose 45 = .ok (.getfield 26, 3) := by decide +kernel
theorem dMO_lose_48 : decode bMO_lose 48 = .ok (.iload_n 1, 1) := by decide +kernel
theorem dMO_lose_49 : decode bMO_lose 49 = .ok (.iload_n 2, 1) := by decide +kernel
theorem dMO_lose_50 : decode bMO_lose 50 = .ok (.iastore, 1) := by decide +kernel
theorem dMO_lose_51 : decode bMO_lose 51 = .ok (.iload_n 3, 1) := by decide +kernel
theorem dMO_lose_52 : decode bMO_lose 52 = .ok (.ireturn, 1) := by decide +kernel
theorem dMO_lost_0 : decode bMO_lost 0 = .ok (.aload_n 0, 1) := by decide +kernel
theorem dMO_lost_1 : decode bMO_lost 1 = .ok (.iconst 0, 1) := by decide +kernel
theorem dMO_lost_2 : decode bMO_lost 2 = .ok (.putfield 125, 3) := by decide +kernel
theorem dMO_lost_5 : decode bMO_lost 5 = .ok (.aload_n 0, 1) := by decide +kernel
theorem dMO_lost_6 : decode bMO_lost 6 = .ok (.getfield 239, 3) := by decide +kernel
theorem dMO_lost_9 : decode bMO_lost 9 = .ok (.ireturn, 1) := by decide +kernel
theorem dMO_order_0 : decode bMO_order 0 = .ok (.aload_n 0, 1) := by decide +kernel
theorem dMO_order_1 : decode bMO_order 1 = .ok (.aload_n 0, 1) := by decide +kernel
theorem dMO_order_2 : decode bMO_order 2 = .ok (.iload_n 1, 1) := by decide +kernel
theorem dMO_order_3 : decode bMO_order 3 = .ok (.invokevirtual 139, 3) := by decide +kernel
theorem dMO_order_6 : decode bMO_order 6 = .ok (.ifCond .eq 24, 3) := by decide +kernel
theorem dMO_order_9 : decode bMO_order 9 = .ok (.aload_n 0, 1) := by decide +kernel
theorem dMO_order_10 : decode bMO_order 10 = .ok (.iload_n 2, 1) := by decide +kernel
theorem dMO_order_11 : decode bMO_order 11 = .ok (.invokevirtual 150, 3) := by decide +kernel
theorem dMO_order_14 : decode bMO_order 14 = .ok (.ifCond .eq 16, 3) := by decide +kernel
theorem dMO_order_17 : decode bMO_order 17 = .ok (.aload_n 0, 1) := by decide +kernel
theorem dMO_order_18 : decode bMO_order 18 = .ok (.iload_n 1, 1) := by decide +kernel
theorem dMO_order_19 : decode bMO_order 19 = .ok (.iload_n 2, 1) := by decide +kernel
theorem dMO_order_20 : decode bMO_order 20 = .ok (.invokevirtual 153, 3) := by decide +kernel
theorem dMO_order_23 : decode bMO_order 23 = .ok (.ifCond .eq 7, 3) := by decide +kernel
theorem dMO_order_26 : decode bMO_order 26 = .ok (.iconst 1, 1) := by decide +kernel
theorem dMO_order_27 : decode bMO_order 27 = .ok (.goto 4, 3) := by decide +kernel
theorem dMO_order_30 : decode bMO_order 30 = .ok (.iconst 0, 1) := by decide +kernel
theorem dMO_order_31 : decode bMO_order 31 = .ok (.aload_n 0, 1) := by decide +kernel
theorem dMO_order_32 : decode bMO_order 32 = .ok (.getfield 135, 3) := by decide +kernel
theorem dMO_order_35 : decode bMO_order 35 = .ok (.invokevirtual 146, 3) := by decide +kernel
theorem dMO_order_38 : decode bMO_order 38 = .ok (.ifCond .ne 5, 3) := by decide +kernel
theorem dMO_order_41 : decode bMO_order 41 = .ok (.iconst 0, 1) := by decide +kernel
theorem dMO_order_42 : decode bMO_order 42 = .ok (.ireturn, 1) := by decide +kernel
theorem dMO_order_43 : decode bMO_order 43 = .ok (.iload_n 1, 1) := by decide +kernel
theorem dMO_order_44 : decode bMO_order 44 = .ok (.aload_n 0, 1) := by decide +kernel
theorem dMO_order_45 : decode bMO_order 45 = .ok (.getfield 16, 3) := by decide +kernel
theorem dMO_order_48 : decode bMO_order 48 = .ok (.iload_n 2, 1) := by decide +kernel
theorem dMO_order_49 : decode bMO_order 49 = .ok (.iaload, 1) := by decide +kernel
theorem dMO_order_50 : decode bMO_order 50 = .ok (.invokestatic 192, 3) := by decide +kernel
theorem dMO_order_53 : decode bMO_order 53 = .ok (.istore 4, 2) := by decide +kernel
theorem dMO_order_55 : decode bMO_order 55 = .ok (.iload_n 3, 1) := by decide +kernel
theorem dMO_order_56 : decode bMO_order 56 = .ok (.ifCond .eq 7, 3) := by decide +kernel
theorem dMO_order_59 : decode bMO_order 59 = .ok (.iconst 2, 1) := by decide +kernel
theorem dMO_order_60 : decode bMO_order 60 = .ok (.goto 4, 3) := by decide +kernel
theorem dMO_order_63 : decode bMO_order 63 = .ok (.iconst 4, 1) := by decide +kernel
theorem dMO_order_64 : decode bMO_order 64 = .ok (.istore 5, 2) := by decide +kernel
theorem dMO_order_66 : decode bMO_order 66 = .ok (.aload_n 0, 1) := by decide +kernel
theorem dMO_order_67 : decode bMO_order 67 = .ok (.getfield 56, 3) := by decide +kernel
theorem dMO_order_70 : decode bMO_order 70 = .ok (.iload 4, 2) := by decide +kernel
theorem dMO_order_72 : decode bMO_order 72 = .ok (.iaload, 1) := by decide +kernel
theorem dMO_order_73 : decode bMO_order 73 = .ok (.iload 5, 2) := by decide +kernel
theorem dMO_order_75 : decode bMO_order 75 = .ok (.if_icmp .ne 14, 3) := by decide +kernel
theorem dMO_order_78 : decode bMO_order 78 = .ok (.aload_n 0, 1) := by decide +kernel
theorem dMO_order_79 : decode bMO_order 79 = .ok (.getfield 59, 3) := by decide +kernel
theorem dMO_order_82 : decode bMO_order 82 = .ok (.iload 4, 2) := by decide +kernel
theorem dMO_order_84 : decode bMO_order 84 = .ok (.iaload, 1) := by decide +kernel
theorem dMO_order_85 : decode bMO_order 85 = .ok (.iload_n 2, 1) := by decide +kernel
theorem dMO_order_86 : decode bMO_order 86 = .ok (.if_icmp .eq 7, 3) := by decide +kernel
theorem dMO_order_89 : decode bMO_order 89 = .ok (.iconst 1, 1) := by decide +kernel
theorem dMO_order_90 : decode bMO_order 90 = .ok (.goto 4, 3) := by decide +kernel
theorem dMO_order_93 : decode bMO_order 93 = .ok (.iconst 0, 1) := by decide +kernel
theorem dMO_order_94 : decode bMO_order 94 = .ok (.istore 6, 2) := by decide +kernel
theorem dMO_order_96 : decode bMO_order 96 = .ok (.iload 6, 2) := by decide +kernel
theorem dMO_order_98 : decode bMO_order 98 = .ok (.ifCond .eq 77, 3) := by decide +kernel
theorem dMO_order_101 : decode bMO_order 101 = .ok (.aload_n 0, 1) := by decide +kernel
theorem dMO_order_102 : decode bMO_order 102 = .ok (.iload_n 1, 1) := by decide +kernel
theorem dMO_order_103 : decode bMO_order 103 = .ok (.aload_n 0, 1) := by decide +kernel
theorem dMO_order_104 : decode bMO_order 104 = .ok (.getfield 16, 3) := by decide +kernel
theorem dMO_order_107 : decode bMO_order 107 = .ok (.iload_n 2, 1) := by decide +kernel
theorem dMO_order_108 : decode bMO_order 108 = .ok (.iaload, 1) := by decide +kernel
theorem dMO_order_109 : decode bMO_order 109 = .ok (.invokevirtual 224, 3) := by decide +kernel
theorem dMO_order_112 : decode bMO_order 112 = .ok (.istore 7, 2) := by decide +kernel
theorem dMO_order_114 : decode bMO_order 114 = .ok (.aload_n 0, 1) := by decide +kernel
theorem dMO_order_115 : decode bMO_order 115 = .ok (.getfield 56, 3) := by decide +kernel
theorem dMO_order_118 : decode bMO_order 118 = .ok (.iload 4, 2) := by decide +kernel
theorem dMO_order_120 : decode bMO_order 120 = .ok (.iload 5, 2) := by decide +kernel
theorem dMO_order_122 : decode bMO_order 122 = .ok (.iastore, 1) := by decide +kernel
theorem dMO_order_123 : decode bMO_order 123 = .ok (.aload_n 0, 1) := by decide +kernel
theorem dMO_order_124 : decode bMO_order 124 = .ok (.getfield 59, 3) := by decide +kernel
theorem dMO_order_127 : decode bMO_order 127 = .ok (.iload 4, 2) := by decide +kernel
theorem dMO_order_129 : decode bMO_order 129 = .ok (.iload_n 2, 1) := by decide +kernel
theorem dMO_order_130 : decode bMO_order 130 = .ok (.iastore, 1) := by decide +kernel
theorem dMO_order_131 : decode bMO_order 131 = .ok (.aload_n 0, 1) := by decide +kernel
theorem dMO_order_132 : decode bMO_order 132 = .ok (.iload_n 1, 1) := by decide +kernel
theorem dMO_order_133 : decode bMO_order 133 = .ok (.iload_n 2, 1) := by decide +kernel
theorem dMO_order_134 : decode bMO_order 134 = .ok (.iload 5, 2) := by decide +kernel
theorem dMO_order_136 : decode bMO_order 136 = .ok (.invokevirtual 218, 3) := by decide +kernel
theorem dMO_order_139 : decode bMO_order 139 = .ok (.aload_n 0, 1) := by decide +kernel
theorem dMO_order_140 : decode bMO_order 140 = .ok (.getfield 62, 3) := by decide +kernel
theorem dMO_order_143 : decode bMO_order 143 = .ok (.iload_n 1, 1) := by decide +kernel
theorem dMO_order_144 : decode bMO_order 144 = .ok (.dup2, 1) := by decide +kernel
theorem dMO_order_145 : decode bMO_order 145 = .ok (.iaload, 1) := by decide +kernel
theorem dMO_order_146 : decode bMO_order 146 = .ok (.iconst 1, 1) := by decide +kernel
theorem dMO_order_147 : decode bMO_order 147 = .ok (.iadd, 1) := by decide +kernel
theorem dMO_order_148 : decode bMO_order 148 = .ok (.iastore, 1) := by decide +kernel
theorem dMO_order_149 : decode bMO_order 149 = .ok (.aload_n 0, 1) := by decide +kernel
theorem dMO_order_150 : decode bMO_order 150 = .ok (.iload_n 1, 1) := by decide +kernel
theorem dMO_order_151 : decode bMO_order 151 = .ok (.bipush 60, 2) := by decide +kernel
theorem dMO_order_153 : decode bMO_order 153 = .ok (.iload_n 1, 1) := by decide +kernel
theorem dMO_order_154 : decode bMO_order 154 = .ok (.iadd, 1) := by decide +kernel
theorem dMO_order_155 : decode bMO_order 155 = .ok (.aload_n 0, 1) := by decide +kernel
theorem dMO_order_156 : decode bMO_order 156 = .ok (.getfield 62, 3) := by decide +kernel
theorem dMO_order_159 : decode bMO_order 159 = .ok (.iload_n 1, 1) := by decide +kernel
theorem dMO_order_160 : decode bMO_order 160 = .ok (.iaload, 1) := by decide +kernel
theorem dMO_order_161 : decode bMO_order 161 = .ok (.aload_n 0, 1) := by decide +kernel
theorem dMO_order_162 : decode bMO_order 162 = .ok (.getfield 16, 3) := by decide +kernel
theorem dMO_order_165 : decode bMO_order 165 = .ok (.iload_n 2, 1) := by decide +kernel
theorem dMO_order_166 : decode bMO_order 166 = .ok (.iaload, 1) := by decide +kernel
theorem dMO_order_167 : decode bMO_order 167 = .ok (.invokevirtual 205, 3) := by decide +kernel
theorem dMO_order_170 : decode bMO_order 170 = .ok (.aload_n 0, 1) := by decide +kernel
theorem dMO_order_171 : decode bMO_order 171 = .ok (.iconst 0, 1) := by decide +kernel
theorem dMO_order_172 : decode bMO_order 172 = .ok (.putfield 221, 3) := by decide +kernel
theorem dMO_order_175 : decode bMO_order 175 = .ok (.aload_n 0, 1) := by decide +kernel
theorem dMO_order_176 : decode bMO_order 176 = .ok (.invokevirtual 215, 3) := by decide +kernel
theorem dMO_order_179 : decode bMO_order 179 = .ok (.iload 6, 2) := by decide +kernel
theorem dMO_order_181 : decode bMO_order 181 = .ok (.ireturn, 1) := by decide +kernel
theorem dMO_owner_0 : decode bMO_owner 0 = .ok (.aload_n 0, 1) := by decide +kernel
theorem dMO_owner_1 : decode bMO_owner 1 = .ok (.iload_n 1, 1) := by decide +kernel
theorem dMO_owner_2 : decode bMO_owner 2 = .ok (.invokestatic 143, 3) := by decide +kernel
theorem dMO_owner_5 : decode bMO_owner 5 = .ok (.ifCond .eq 23, 3) := by decide +kernel
theorem dMO_owner_8 : decode bMO_owner 8 = .ok (.aload_n 0, 1) := by decide +kernel
theorem dMO_owner_9 : decode bMO_owner 9 = .ok (.iload_n 2, 1) := by decide +kernel
theorem dMO_owner_10 : decode bMO_owner 10 = .ok (.invokevirtual 139, 3) := by decide +kernel
theorem dMO_owner_13 : decode bMO_owner 13 = .ok (.ifCond .eq 15, 3) := by decide +kernel
theorem dMO_owner_16 : decode bMO_owner 16 = .ok (.aload_n 0, 1) := by decide +kernel
theorem dMO_owner_17 : decode bMO_owner 17 = .ok (.iload_n 3, 1) := by decide +kernel
theorem dMO_owner_18 : decode bMO_owner 18 = .ok (.invokevirtual 150, 3) := by decide +kernel
theorem dMO_owner_21 : decode bMO_owner 21 = .ok (.ifCond .eq 7, 3) := by decide +kernel
theorem dMO_owner_24 : decode bMO_owner 24 = .ok (.iconst 1, 1) := by decide +kernel
theorem dMO_owner_25 : decode bMO_owner 25 = .ok (.goto 4, 3) := by decide +kernel
theorem dMO_owner_28 : decode bMO_owner 28 = .ok (.iconst 0, 1) := by decide +kernel
theorem dMO_owner_29 : decode bMO_owner 29 = .ok (.aload_n 0, 1) := by decide +kernel
theorem dMO_owner_30 : decode bMO_owner 30 = .ok (.getfield 135, 3) := by decide +kernel
theorem dMO_owner_33 : decode bMO_owner 33 = .ok (.ifCond .ne 7, 3) := by decide +kernel
theorem dMO_owner_36 : decode bMO_owner 36 = .ok (.iconst 1, 1) := by decide +kernel
theorem dMO_owner_37 : decode bMO_owner 37 = .ok (.goto 4, 3) := by decide +kernel
theorem dMO_owner_40 : decode bMO_owner 40 = .ok (.iconst 0, 1) := by decide +kernel
theorem dMO_owner_41 : decode bMO_owner 41 = .ok (.invokevirtual 146, 3) := by decide +kernel
theorem dMO_owner_44 : decode bMO_owner 44 = .ok (.ifCond .eq 17, 3) := by decide +kernel
theorem dMO_owner_47 : decode bMO_owner 47 = .ok (.aload_n 0, 1) := by decide +kernel
theorem dMO_owner_48 : decode bMO_owner 48 = .ok (.getfield 32, 3) := by decide +kernel
theorem dMO_owner_51 : decode bMO_owner 51 = .ok (.iload_n 1, 1) := by decide +kernel
theorem dMO_owner_52 : decode bMO_owner 52 = .ok (.iload_n 2, 1) := by decide +kernel
theorem dMO_owner_53 : decode bMO_owner 53 = .ok (.iastore, 1) := by decide +kernel
theorem dMO_owner_54 : decode bMO_owner 54 = .ok (.aload_n 0, 1) := by decide +kernel
theorem dMO_owner_55 : decode bMO_owner 55 = .ok (.getfield 35, 3) := by decide +kernel
theorem dMO_owner_58 : decode bMO_owner 58 = .ok (.iload_n 1, 1) := by decide +kernel
theorem dMO_owner_59 : decode bMO_owner 59 = .ok (.iload_n 3, 1) := by decide +kernel
theorem dMO_owner_60 : decode bMO_owner 60 = .ok (.iastore, 1) := by decide +kernel
theorem dMO_owner_61 : decode bMO_owner 61 = .ok (.return_, 1) := by decide +kernel
theorem dMO_send_0 : decode bMO_send 0 = .ok (.iload_n 1, 1) := by decide +kernel
theorem dMO_send_1 : decode bMO_send 1 = .ok (.ifCond .lt 37, 3) := by decide +kernel
theorem dMO_send_4 : decode bMO_send 4 = .ok (.iload_n 1, 1) := by decide +kernel
theorem dMO_send_5 : decode bMO_send 5 = .ok (.bipush 64, 2) := by decide +kernel
theorem dMO_send_7 : decode bMO_send 7 = .ok (.if_icmp .ge 31, 3) := by decide +kernel
theorem dMO_send_10 : decode bMO_send 10 = .ok (.iload_n 2, 1) := by decide +kernel
theorem dMO_send_11 : decode bMO_send 11 = .ok (.ifCond .lt 27, 3) := by decide +kernel
theorem dMO_send_14 : decode bMO_send 14 = .ok (.iload_n 2, 1) := by decide +kernel
theorem dMO_send_15 : decode bMO_send 15 = .ok (.bipush 64, 2) := by decide +kernel
theorem dMO_send_17 : decode bMO_send 17 = .ok (.if_icmp .ge 21, 3) := by decide +kernel
theorem dMO_send_20 : decode bMO_send 20 = .ok (.iload_n 3, 1) := by decide +kernel
theorem dMO_send_21 : decode bMO_send 21 = .ok (.ifCond .lt 17, 3) := by decide +kernel
theorem dMO_send_24 : decode bMO_send 24 = .ok (.iload_n 3, 1) := by decide +kernel
theorem dMO_send_25 : decode bMO_send 25 = .ok (.iconst 4, 1) := by decide +kernel
theorem dMO_send_26 : decode bMO_send 26 = .ok (.if_icmp .ge 12, 3) := by decide +kernel
theorem dMO_send_29 : decode bMO_send 29 = .ok (.iload_n 1, 1) := by decide +kernel
theorem dMO_send_30 : decode bMO_send 30 = .ok (.iload_n 2, 1) := by decide +kernel
theorem dMO_send_31 : decode bMO_send 31 = .ok (.if_icmp .eq 7, 3) := by decide +kernel
theorem dMO_send_34 : decode bMO_send 34 = .ok (.iconst 1, 1) := by decide +kernel
theorem dMO_send_35 : decode bMO_send 35 = .ok (.goto 4, 3) := by decide +kernel
theorem dMO_send_38 : decode bMO_send 38 = .ok (.iconst 0, 1) := by decide +kernel
theorem dMO_send_39 : decode bMO_send 39 = .ok (.istore 4, 2) := by decide +kernel
theorem dMO_send_41 : decode bMO_send 41 = .ok (.aload_n 0, 1) := by decide +kernel
theorem dMO_send_42 : decode bMO_send 42 = .ok (.iload 4, 2) := by decide +kernel
theorem dMO_send_44 : decode bMO_send 44 = .ok (.ifCond .eq 27, 3) := by decide +kernel
theorem dMO_send_47 : decode bMO_send 47 = .ok (.aload_n 0, 1) := by decide +kernel
theorem dMO_send_48 : decode bMO_send 48 = .ok (.getfield 77, 3) := by decide +kernel
theorem dMO_send_51 : decode bMO_send 51 = .ok (.iload_n 1, 1) := by decide +kernel
theorem dMO_send_52 : decode bMO_send 52 = .ok (.iaload, 1) := by decide +kernel
theorem dMO_send_53 : decode bMO_send 53 = .ok (.iconst (-1), 1) := by decide +kernel
theorem dMO_send_54 : decode bMO_send 54 = .ok (.if_icmp .eq 17, 3) := by decide +kernel
theorem dMO_send_57 : decode bMO_send 57 = .ok (.aload_n 0, 1) := by decide +kernel
theorem dMO_send_58 : decode bMO_send 58 = .ok (.getfield 77, 3) := by decide +kernel
theorem dMO_send_61 : decode bMO_send 61 = .ok (.iload_n 2, 1) := by decide +kernel
theorem dMO_send_62 : decode bMO_send 62 = .ok (.iaload, 1) := by decide +kernel
theorem dMO_send_63 : decode bMO_send 63 = .ok (.iconst (-1), 1) := by decide +kernel
theorem dMO_send_64 : decode bMO_send 64 = .ok (.if_icmp .eq 7, 3) := by decide +kernel
theorem dMO_send_67 : decode bMO_send 67 = .ok (.iconst 1, 1) := by decide +kernel
theorem dMO_send_68 : decode bMO_send 68 = .ok (.goto 4, 3) := by decide +kernel
theorem dMO_send_71 : decode bMO_send 71 = .ok (.iconst 0, 1) := by decide +kernel
theorem dMO_send_72 : decode bMO_send 72 = .ok (.aload_n 0, 1) := by decide +kernel
theorem dMO_send_73 : decode bMO_send 73 = .ok (.getfield 135, 3) := by decide +kernel
theorem dMO_send_76 : decode bMO_send 76 = .ok (.invokevirtual 146, 3) := by decide +kernel
theorem dMO_send_79 : decode bMO_send 79 = .ok (.ifCond .ne 5, 3) := by decide +kernel
theorem dMO_send_82 : decode bMO_send 82 = .ok (.iconst 0, 1) := by decide +kernel
theorem dMO_send_83 : decode bMO_send 83 = .ok (.ireturn, 1) := by decide +kernel
theorem dMO_send_84 : decode bMO_send 84 = .ok (.aload_n 0, 1) := by decide +kernel
theorem dMO_send_85 : decode bMO_send 85 = .ok (.iconst 0, 1) := by decide +kernel
theorem dMO_send_86 : decode bMO_send 86 = .ok (.putfield 293, 3) := by decide +kernel
theorem dMO_send_89 : decode bMO_send 89 = .ok (.iconst 0, 1) := by decide +kernel
theorem dMO_send_90 : decode bMO_send 90 = .ok (.istore 5, 2) := by decide +kernel
theorem dMO_send_92 : decode bMO_send 92 = .ok (.iload 5, 2) := by decide +kernel
theorem dMO_send_94 : decode bMO_send 94 = .ok (.bipush 120, 2) := by decide +kernel
theorem dMO_send_96 : decode bMO_send 96 = .ok (.if_icmp .ge 17, 3) := by decide +kernel
theorem dMO_send_99 : decode bMO_send 99 = .ok (.aload_n 0, 1) := by decide +kernel
theorem dMO_send_100 : decode bMO_send 100 = .ok (.getfield 122, 3) := by decide +kernel
theorem dMO_send_103 : decode bMO_send 103 = .ok (.iload 5, 2) := by decide +kernel
theorem dMO_send_105 : decode bMO_send 105 = .ok (.iconst 0, 1) := by decide +kernel
theorem dMO_send_106 : decode bMO_send 106 = .ok (.iastore, 1) := by decide +kernel
theorem dMO_send_107 : decode bMO_send 107 = .ok (.iinc 5 1, 3) := by decide +kernel
theorem dMO_send_110 : decode bMO_send 110 = .ok (.goto (-18), 3) := by decide +kernel
theorem dMO_send_113 : decode bMO_send 113 = .ok (.iconst 0, 1) := by decide +kernel
theorem dMO_send_114 : decode bMO_send 114 = .ok (.istore 5, 2) := by decide +kernel
theorem dMO_send_116 : decode bMO_send 116 = .ok (.aload_n 0, 1) := by decide +kernel
theorem dMO_send_117 : decode bMO_send 117 = .ok (.getfield 116, 3) := by decide +kernel
theorem dMO_send_120 : decode bMO_send 120 = .ok (.iconst 0, 1) := by decide +kernel
theorem dMO_send_121 : decode bMO_send 121 = .ok (.aload_n 0, 1) := by decide +kernel
theorem dMO_send_122 : decode bMO_send 122 = .ok (.getfield 77, 3) := by decide +kernel
theorem dMO_send_125 : decode bMO_send 125 = .ok (.iload_n 1, 1) := by decide +kernel
theorem dMO_send_126 : decode bMO_send 126 = .ok (.iaload, 1) := by decide +kernel
theorem dMO_send_127 : decode bMO_send 127 = .ok (.iastore, 1) := by decide +kernel
theorem dMO_send_128 : decode bMO_send 128 = .ok (.aload_n 0, 1) := by decide +kernel
theorem dMO_send_129 : decode bMO_send 129 = .ok (.getfield 119, 3) := by decide +kernel
theorem dMO_send_132 : decode bMO_send 132 = .ok (.iconst 0, 1) := by decide +kernel
theorem dMO_send_133 : decode bMO_send 133 = .ok (.iconst (-1), 1) := by decide +kernel
theorem dMO_send_134 : decode bMO_send 134 = .ok (.iastore, 1) := by decide +kernel
theorem dMO_send_135 : decode bMO_send 135 = .ok (.iconst 1, 1) := by decide +kernel
theorem dMO_send_136 : decode bMO_send 136 = .ok (.istore 6, 2) := by decide +kernel
theorem dMO_send_138 : decode bMO_send 138 = .ok (.iconst 0, 1) := by decide +kernel
theorem dMO_send_139 : decode bMO_send 139 = .ok (.istore 7, 2) := by decide +kernel
theorem dMO_send_141 : decode bMO_send 141 = .ok (.iload 7, 2) := by decide +kernel
theorem dMO_send_143 : decode bMO_send 143 = .ok (.iload 6, 2) := by decide +kernel
theorem dMO_send_145 : decode bMO_send 145 = .ok (.if_icmp .ge 289, 3) := by decide +kernel
theorem dMO_send_148 : decode bMO_send 148 = .ok (.aload_n 0, 1) := by decide +kernel
theorem dMO_send_149 : decode bMO_send 149 = .ok (.getfield 116, 3) := by decide +kernel
theorem dMO_send_152 : decode bMO_send 152 = .ok (.iload 7, 2) := by decide +kernel
theorem dMO_send_154 : decode bMO_send 154 = .ok (.iaload, 1) := by decide +kernel
theorem dMO_send_155 : decode bMO_send 155 = .ok (.istore 8, 2) := by decide +kernel
theorem dMO_send_157 : decode bMO_send 157 = .ok (.aload_n 0, 1) := by decide +kernel
theorem dMO_send_158 : decode bMO_send 158 = .ok (.getfield 119, 3) := by decide +kernel
theorem dMO_send_161 : decode bMO_send 161 = .ok (.iload 7, 2) := by decide +kernel
theorem dMO_send_163 : decode bMO_send 163 = .ok (.iaload, 1) := by decide +kernel
theorem dMO_send_164 : decode bMO_send 164 = .ok (.iconst (-1), 1) := by decide +kernel
theorem dMO_send_165 : decode bMO_send 165 = .ok (.if_icmp .eq 50, 3) := by decide +kernel
theorem dMO_send_168 : decode bMO_send 168 = .ok (.aload_n 0, 1) := by decide +kernel
theorem dMO_send_169 : decode bMO_send 169 = .ok (.getfield 71, 3) := by decide +kernel
theorem dMO_send_172 : decode bMO_send 172 = .ok (.sipush 256, 3) := by decide +kernel
theorem dMO_send_175 : decode bMO_send 175 = .ok (.iload 8, 2) := by decide +kernel
theorem dMO_send_177 : decode bMO_send 177 = .ok (.imul, 1) := by decide +kernel
theorem dMO_send_178 : decode bMO_send 178 = .ok (.bipush 64, 2) := by decide +kernel
theorem dMO_send_180 : decode bMO_send 180 = .ok (.iload_n 3, 1) := by decide +kernel
theorem dMO_send_181 : decode bMO_send 181 = .ok (.imul, 1) := by decide +kernel
theorem dMO_send_182 : decode bMO_send 182 = .ok (.iadd, 1) := by decide +kernel
theorem dMO_send_183 : decode bMO_send 183 = .ok (.iload_n 1, 1) := by decide +kernel
theorem dMO_send_184 : decode bMO_send 184 = .ok (.iadd, 1) := by decide +kernel
theorem dMO_send_185 : decode bMO_send 185 = .ok (.aload_n 0, 1) := by decide +kernel
theorem dMO_send_186 : decode bMO_send 186 = .ok (.getfield 119, 3) := by decide +kernel
theorem dMO_send_189 : decode bMO_send 189 = .ok (.iload 7, 2) := by decide +kernel
theorem dMO_send_191 : decode bMO_send 191 = .ok (.iaload, 1) := by decide +kernel
theorem dMO_send_192 : decode bMO_send 192 = .ok (.iastore, 1) := by decide +kernel
theorem dMO_send_193 : decode bMO_send 193 = .ok (.aload_n 0, 1) := by decide +kernel
theorem dMO_send_194 : decode bMO_send 194 = .ok (.getfield 74, 3) := by decide +kernel
theorem dMO_send_197 : decode bMO_send 197 = .ok (.sipush 256, 3) := by decide +kernel
theorem dMO_send_200 : decode bMO_send 200 = .ok (.iload 8, 2) := by decide +kernel
theorem dMO_send_202 : decode bMO_send 202 = .ok (.imul, 1) := by decide +kernel
theorem dMO_send_203 : decode bMO_send 203 = .ok (.bipush 64, 2) := by decide +kernel
theorem dMO_send_205 : decode bMO_send 205 = .ok (.iload_n 3, 1) := by decide +kernel
theorem dMO_send_206 : decode bMO_send 206 = .ok (.imul, 1) := by decide +kernel
theorem dMO_send_207 : decode bMO_send 207 = .ok (.iadd, 1) := by decide +kernel
theorem dMO_send_208 : decode bMO_send 208 = .ok (.iload_n 1, 1) := by decide +kernel
theorem dMO_send_209 : decode bMO_send 209 = .ok (.iadd, 1) := by decide +kernel
theorem dMO_send_210 : decode bMO_send 210 = .ok (.aload_n 0, 1) := by decide +kernel
theorem dMO_send_211 : decode bMO_send 211 = .ok (.getfield 262, 3) := by decide +kernel
theorem dMO_send_214 : decode bMO_send 214 = .ok (.iastore, 1) := by decide +kernel
theorem dMO_send_215 : decode bMO_send 215 = .ok (.aload_n 0, 1) := by decide +kernel
theorem dMO_send_216 : decode bMO_send 216 = .ok (.iload 8, 2) := by decide +kernel
theorem dMO_send_218 : decode bMO_send 218 = .ok (.iload_n 3, 1) := by decide +kernel
theorem dMO_send_219 : decode bMO_send 219 = .ok (.iload_n 2, 1) := by decide +kernel
theorem dMO_send_220 : decode bMO_send 220 = .ok (.invokevirtual 296, 3) := by decide +kernel
theorem dMO_send_223 : decode bMO_send 223 = .ok (.istore 9, 2) := by decide +kernel
theorem dMO_send_225 : decode bMO_send 225 = .ok (.iload 5, 2) := by decide +kernel
theorem dMO_send_227 : decode bMO_send 227 = .ok (.aload_n 0, 1) := by decide +kernel
theorem dMO_send_228 : decode bMO_send 228 = .ok (.getfield 77, 3) := by decide +kernel
theorem dMO_send_231 : decode bMO_send 231 = .ok (.iload_n 2, 1) := by decide +kernel
theorem dMO_send_232 : decode bMO_send 232 = .ok (.iaload, 1) := by decide +kernel
theorem dMO_send_233 : decode bMO_send 233 = .ok (.iload 8, 2) := by decide +kernel
theorem dMO_send_235 : decode bMO_send 235 = .ok (.if_icmp .ne 7, 3) := by decide +kernel
theorem dMO_send_238 : decode bMO_send 238 = .ok (.iconst 1, 1) := by decide +kernel
theorem dMO_send_239 : decode bMO_send 239 = .ok (.goto 4, 3) := by decide +kernel
theorem dMO_send_242 : decode bMO_send 242 = .ok (.iconst 0, 1) := by decide +kernel
theorem dMO_send_243 : decode bMO_send 243 = .ok (.iadd, 1) := by decide +kernel
theorem dMO_send_244 : decode bMO_send 244 = .ok (.istore 5, 2) := by decide +kernel
theorem dMO_send_246 : decode bMO_send 246 = .ok (.iconst 0, 1) := by decide +kernel
theorem dMO_send_247 : decode bMO_send 247 = .ok (.istore 10, 2) := by decide +kernel
theorem dMO_send_249 : decode bMO_send 249 = .ok (.iload 10, 2) := by decide +kernel
theorem dMO_send_251 : decode bMO_send 251 = .ok (.aload_n 0, 1) := by decide +kernel
theorem dMO_send_252 : decode bMO_send 252 = .ok (.getfield 132, 3) := by decide +kernel
theorem dMO_send_255 : decode bMO_send 255 = .ok (.if_icmp .ge 173, 3) := by decide +kernel
theorem dMO_send_258 : decode bMO_send 258 = .ok (.aload_n 0, 1) := by decide +kernel
theorem dMO_send_259 : decode bMO_send 259 = .ok (.getfield 77, 3) := by decide +kernel
theorem dMO_send_262 : decode bMO_send 262 = .ok (.iload_n 2, 1) := by decide +kernel
theorem dMO_send_263 : decode bMO_send 263 = .ok (.iaload, 1) := by decide +kernel
theorem dMO_send_264 : decode bMO_send 264 = .ok (.iload 8, 2) := by decide +kernel
theorem dMO_send_266 : decode bMO_send 266 = .ok (.if_icmp .eq 162, 3) := by decide +kernel
theorem dMO_send_269 : decode bMO_send 269 = .ok (.iload 10, 2) := by decide +kernel
theorem dMO_send_271 : decode bMO_send 271 = .ok (.aload_n 0, 1) := by decide +kernel
theorem dMO_send_272 : decode bMO_send 272 = .ok (.getfield 119, 3) := by decide +kernel
theorem dMO_send_275 : decode bMO_send 275 = .ok (.iload 7, 2) := by decide +kernel
theorem dMO_send_277 : decode bMO_send 277 = .ok (.iaload, 1) := by decide +kernel
theorem dMO_send_278 : decode bMO_send 278 = .ok (.if_icmp .eq 20, 3) := by decide +kernel
theorem dMO_send_281 : decode bMO_send 281 = .ok (.iload 9, 2) := by decide +kernel
theorem dMO_send_283 : decode bMO_send 283 = .ok (.iconst (-1), 1) := by decide +kernel
theorem dMO_send_284 : decode bMO_send 284 = .ok (.if_icmp .eq 10, 3) := by decide +kernel
theorem dMO_send_287 : decode bMO_send 287 = .ok (.iload 10, 2) := by decide +kernel
theorem dMO_send_289 : decode bMO_send 289 = .ok (.iload 9, 2) := by decide +kernel
theorem dMO_send_291 : decode bMO_send 291 = .ok (.if_icmp .ne 7, 3) := by decide +kernel
theorem dMO_send_294 : decode bMO_send 294 = .ok (.iconst 1, 1) := by decide +kernel
theorem dMO_send_295 : decode bMO_send 295 = .ok (.goto 4, 3) := by decide +kernel
theorem dMO_send_298 : decode bMO_send 298 = .ok (.iconst 0, 1) := by decide +kernel
theorem dMO_send_299 : decode bMO_send 299 = .ok (.istore 11, 2) := by decide +kernel
theorem dMO_send_301 : decode bMO_send 301 = .ok (.iload 11, 2) := by decide +kernel
theorem dMO_send_303 : decode bMO_send 303 = .ok (.ifCond .eq 119, 3) := by decide +kernel
theorem dMO_send_306 : decode bMO_send 306 = .ok (.aload_n 0, 1) := by decide +kernel
theorem dMO_send_307 : decode bMO_send 307 = .ok (.iload 8, 2) := by decide +kernel
theorem dMO_send_309 : decode bMO_send 309 = .ok (.iload 10, 2) := by decide +kernel
theorem dMO_send_311 : decode bMO_send 311 = .ok (.invokevirtual 153, 3) := by decide +kernel
theorem dMO_send_314 : decode bMO_send 314 = .ok (.ifCond .eq 108, 3) := by decide +kernel
theorem dMO_send_317 : decode bMO_send 317 = .ok (.aload_n 0, 1) := by decide +kernel
theorem dMO_send_318 : decode bMO_send 318 = .ok (.iload 10, 2) := by decide +kernel
theorem dMO_send_320 : decode bMO_send 320 = .ok (.invokevirtual 287, 3) := by decide +kernel
theorem dMO_send_323 : decode bMO_send 323 = .ok (.ifCond .eq 99, 3) := by decide +kernel
theorem dMO_send_326 : decode bMO_send 326 = .ok (.iload 6, 2) := by decide +kernel
theorem dMO_send_328 : decode bMO_send 328 = .ok (.sipush 4096, 3) := by decide +kernel
theorem dMO_send_331 : decode bMO_send 331 = .ok (.if_icmp .ge 91, 3) := by decide +kernel
theorem dMO_send_334 : decode bMO_send 334 = .ok (.aload_n 0, 1) := by decide +kernel
theorem dMO_send_335 : decode bMO_send 335 = .ok (.getfield 116, 3) := by decide +kernel
theorem dMO_send_338 : decode bMO_send 338 = .ok (.iload 6, 2) := by decide +kernel
theorem dMO_send_340 : decode bMO_send 340 = .ok (.aload_n 0, 1) := by decide +kernel
theorem dMO_send_341 : decode bMO_send 341 = .ok (.iload 8, 2) := by decide +kernel
theorem dMO_send_343 : decode bMO_send 343 = .ok (.iload 10, 2) := by decide +kernel
theorem dMO_send_345 : decode bMO_send 345 = .ok (.invokevirtual 300, 3) := by decide +kernel
theorem dMO_send_348 : decode bMO_send 348 = .ok (.iastore, 1) := by decide +kernel
theorem dMO_send_349 : decode bMO_send 349 = .ok (.aload_n 0, 1) := by decide +kernel
theorem dMO_send_350 : decode bMO_send 350 = .ok (.getfield 119, 3) := by decide +kernel
theorem dMO_send_353 : decode bMO_send 353 = .ok (.iload 6, 2) := by decide +kernel
theorem dMO_send_355 : decode bMO_send 355 = .ok (.iload 10, 2) := by decide +kernel
theorem dMO_send_357 : decode bMO_send 357 = .ok (.iastore, 1) := by decide +kernel
theorem dMO_send_358 : decode bMO_send 358 = .ok (.iinc 6 1, 3) := by decide +kernel
theorem dMO_send_361 : decode bMO_send 361 = .ok (.aload_n 0, 1) := by decide +kernel
theorem dMO_send_362 : decode bMO_send 362 = .ok (.getfield 122, 3) := by decide +kernel
theorem dMO_send_365 : decode bMO_send 365 = .ok (.aload_n 0, 1) := by decide +kernel
theorem dMO_send_366 : decode bMO_send 366 = .ok (.iload 8, 2) := by decide +kernel
theorem dMO_send_368 : decode bMO_send 368 = .ok (.iload 10, 2) := by decide +kernel
theorem dMO_send_370 : decode bMO_send 370 = .ok (.invokevirtual 189, 3) := by decide +kernel
theorem dMO_send_373 : decode bMO_send 373 = .ok (.dup2, 1) := by decide +kernel
theorem dMO_send_374 : decode bMO_send 374 = .ok (.iaload, 1) := by decide +kernel
theorem dMO_send_375 : decode bMO_send 375 = .ok (.iconst 1, 1) := by decide +kernel
theorem dMO_send_376 : decode bMO_send 376 = .ok (.iadd, 1) := by decide +kernel
theorem dMO_send_377 : decode bMO_send 377 = .ok (.iastore, 1) := by decide +kernel
theorem dMO_send_378 : decode bMO_send 378 = .ok (.aload_n 0, 1) := by decide +kernel
theorem dMO_send_379 : decode bMO_send 379 = .ok (.aload_n 0, 1) := by decide +kernel
theorem dMO_send_380 : decode bMO_send 380 = .ok (.getfield 122, 3) := by decide +kernel
theorem dMO_send_383 : decode bMO_send 383 = .ok (.aload_n 0, 1) := by decide +kernel
theorem dMO_send_384 : decode bMO_send 384 = .ok (.iload 8, 2) := by decide +kernel
theorem dMO_send_386 : decode bMO_send 386 = .ok (.iload 10, 2) := by decide +kernel
theorem dMO_send_388 : decode bMO_send 388 = .ok (.invokevirtual 189, 3) := by decide +kernel
theorem dMO_send_391 : decode bMO_send 391 = .ok (.iaload, 1) := by decide +kernel
theorem dMO_send_392 : decode bMO_send 392 = .ok (.aload_n 0, 1) := by decide +kernel
theorem dMO_send_393 : decode bMO_send 393 = .ok (.getfield 293, 3) := by decide +kernel
theorem dMO_send_396 : decode bMO_send 396 = .ok (.if_icmp .le 19, 3) := by decide +kernel
theorem dMO_send_399 : decode bMO_send 399 = .ok (.aload_n 0, 1) := by decide +kernel
theorem dMO_send_400 : decode bMO_send 400 = .ok (.getfield 122, 3) := by decide +kernel
theorem dMO_send_403 : decode bMO_send 403 = .ok (.aload_n 0, 1) := by decide +kernel
theorem dMO_send_404 : decode bMO_send 404 = .ok (.iload 8, 2) := by decide +kernel
theorem dMO_send_406 : decode bMO_send 406 = .ok (.iload 10, 2) := by decide +kernel
theorem dMO_send_408 : decode bMO_send 408 = .ok (.invokevirtual 189, 3) := by decide +kernel
theorem dMO_send_411 : decode bMO_send 411 = .ok (.iaload, 1) := by decide +kernel
theorem dMO_send_412 : decode bMO_send 412 = .ok (.goto 7, 3) := by decide +kernel
theorem dMO_send_415 : decode bMO_send 415 = .ok (.aload_n 0, 1) := by decide +kernel
theorem dMO_send_416 : decode bMO_send 416 = .ok (.getfield 293, 3) := by decide +kernel
theorem dMO_send_419 : decode bMO_send 419 = .ok (.putfield 293, 3) := by decide +kernel
theorem dMO_send_422 : decode bMO_send 422 = .ok (.iinc 10 1, 3) := by decide +kernel
theorem dMO_send_425 : decode bMO_send 425 = .ok (.goto (-176), 3) := by decide +kernel
theorem dMO_send_428 : decode bMO_send 428 = .ok (.iinc 7 1, 3) := by decide +kernel
theorem dMO_send_431 : decode bMO_send 431 = .ok (.goto (-290), 3) := by decide +kernel
theorem dMO_send_434 : decode bMO_send 434 = .ok (.iload 5, 2) := by decide +kernel
theorem dMO_send_436 : decode bMO_send 436 = .ok (.ireturn, 1) := by decide +kernel
theorem dMO_thrown_0 : decode bMO_thrown 0 = .ok (.aload_n 0, 1) := by decide +kernel
theorem dMO_thrown_1 : decode bMO_thrown 1 = .ok (.getfield 125, 3) := by decide +kernel
theorem dMO_thrown_4 : decode bMO_thrown 4 = .ok (.ireturn, 1) := by decide +kernel
theorem dMO_ticks_0 : decode bMO_ticks 0 = .ok (.aload_n 0, 1) := by decide +kernel
theorem dMO_ticks_1 : decode bMO_ticks 1 = .ok (.iload_n 1, 1) := by decide +kernel
theorem dMO_ticks_2 : decode bMO_ticks 2 = .ok (.iconst 1, 1) := by decide +kernel
theorem dMO_ticks_3 : decode bMO_ticks 3 = .ok (.if_icmp .lt 14, 3) := by decide +kernel
theorem dMO_ticks_6 : decode bMO_ticks 6 = .ok (.iload_n 1, 1) := by decide +kernel
theorem dMO_ticks_7 : decode bMO_ticks 7 = .ok (.sipush 200, 3) := by decide +kernel
theorem dMO_ticks_10 : decode bMO_ticks 10 = .ok (.if_icmp .gt 7, 3) := by decide +kernel
theorem dMO_ticks_13 : decode bMO_ticks 13 = .ok (.iconst 1, 1) := by decide +kernel
theorem dMO_ticks_14 : decode bMO_ticks 14 = .ok (.goto 4, 3) := by decide +kernel
theorem dMO_ticks_17 : decode bMO_ticks 17 = .ok (.iconst 0, 1) := by decide +kernel
theorem dMO_ticks_18 : decode bMO_ticks 18 = .ok (.aload_n 0, 1) := by decide +kernel
theorem dMO_ticks_19 : decode bMO_ticks 19 = .ok (.getfield 135, 3) := by decide +kernel
theorem dMO_ticks_22 : decode bMO_ticks 22 = .ok (.ifCond .eq 19, 3) := by decide +kernel
theorem dMO_ticks_25 : decode bMO_ticks 25 = .ok (.aload_n 0, 1) := by decide +kernel
theorem dMO_ticks_26 : decode bMO_ticks 26 = .ok (.getfield 262, 3) := by decide +kernel
theorem dMO_ticks_29 : decode bMO_ticks 29 = .ok (.iload_n 1, 1) := by decide +kernel
theorem dMO_ticks_30 : decode bMO_ticks 30 = .ok (.iadd, 1) := by decide +kernel
theorem dMO_ticks_31 : decode bMO_ticks 31 = .ok (.sipush 20000, 3) := by decide +kernel
theorem dMO_ticks_34 : decode bMO_ticks 34 = .ok (.if_icmp .gt 7, 3) := by decide +kernel
theorem dMO_ticks_37 : decode bMO_ticks 37 = .ok (.iconst 1, 1) := by decide +kernel
theorem dMO_ticks_38 : decode bMO_ticks 38 = .ok (.goto 4, 3) := by decide +kernel
theorem dMO_ticks_41 : decode bMO_ticks 41 = .ok (.iconst 0, 1) := by decide +kernel
theorem dMO_ticks_42 : decode bMO_ticks 42 = .ok (.invokevirtual 146, 3) := by decide +kernel
theorem dMO_ticks_45 : decode bMO_ticks 45 = .ok (.ifCond .ne 5, 3) := by decide +kernel
theorem dMO_ticks_48 : decode bMO_ticks 48 = .ok (.iconst 0, 1) := by decide +kernel
theorem dMO_ticks_49 : decode bMO_ticks 49 = .ok (.ireturn, 1) := by decide +kernel
theorem dMO_ticks_50 : decode bMO_ticks 50 = .ok (.iconst 0, 1) := by decide +kernel
theorem dMO_ticks_51 : decode bMO_ticks 51 = .ok (.istore_n 2, 1) := by decide +kernel
theorem dMO_ticks_52 : decode bMO_ticks 52 = .ok (.iload_n 2, 1) := by decide +kernel
theorem dMO_ticks_53 : decode bMO_ticks 53 = .ok (.iload_n 1, 1) := by decide +kernel
theorem dMO_ticks_54 : decode bMO_ticks 54 = .ok (.if_icmp .ge 13, 3) := by decide +kernel
theorem dMO_ticks_57 : decode bMO_ticks 57 = .ok (.aload_n 0, 1) := by decide +kernel
theorem dMO_ticks_58 : decode bMO_ticks 58 = .ok (.invokevirtual 284, 3) := by decide +kernel
theorem dMO_ticks_61 : decode bMO_ticks 61 = .ok (.iinc 2 1, 3) := by decide +kernel
theorem dMO_ticks_64 : decode bMO_ticks 64 = .ok (.goto (-12), 3) := by decide +kernel
theorem dMO_ticks_67 : decode bMO_ticks 67 = .ok (.aload_n 0, 1) := by decide +kernel
theorem dMO_ticks_68 : decode bMO_ticks 68 = .ok (.getfield 262, 3) := by decide +kernel
theorem dMO_ticks_71 : decode bMO_ticks 71 = .ok (.ireturn, 1) := by decide +kernel
theorem dMO_told_0 : decode bMO_told 0 = .ok (.aload_n 0, 1) := by decide +kernel
theorem dMO_told_1 : decode bMO_told 1 = .ok (.aload_n 0, 1) := by decide +kernel
theorem dMO_told_2 : decode bMO_told 2 = .ok (.iload_n 1, 1) := by decide +kernel
theorem dMO_told_3 : decode bMO_told 3 = .ok (.invokevirtual 139, 3) := by decide +kernel
theorem dMO_told_6 : decode bMO_told 6 = .ok (.ifCond .eq 23, 3) := by decide +kernel
theorem dMO_told_9 : decode bMO_told 9 = .ok (.iload_n 2, 1) := by decide +kernel
theorem dMO_told_10 : decode bMO_told 10 = .ok (.invokestatic 143, 3) := by decide +kernel
theorem dMO_told_13 : decode bMO_told 13 = .ok (.ifCond .eq 16, 3) := by decide +kernel
theorem dMO_told_16 : decode bMO_told 16 = .ok (.iload_n 3, 1) := by decide +kernel
theorem dMO_told_17 : decode bMO_told 17 = .ok (.ifCond .lt 12, 3) := by decide +kernel
theorem dMO_told_20 : decode bMO_told 20 = .ok (.iload_n 3, 1) := by decide +kernel
theorem dMO_told_21 : decode bMO_told 21 = .ok (.iconst 2, 1) := by decide +kernel
theorem dMO_told_22 : decode bMO_told 22 = .ok (.if_icmp .gt 7, 3) := by decide +kernel
theorem dMO_told_25 : decode bMO_told 25 = .ok (.iconst 0, 1) := by decide +kernel
theorem dMO_told_26 : decode bMO_told 26 = .ok (.goto 4, 3) := by decide +kernel
theorem dMO_told_29 : decode bMO_told 29 = .ok (.iconst 1, 1) := by decide +kernel
theorem dMO_told_30 : decode bMO_told 30 = .ok (.putfield 125, 3) := by decide +kernel
theorem dMO_told_33 : decode bMO_told 33 = .ok (.aload_n 0, 1) := by decide +kernel
theorem dMO_told_34 : decode bMO_told 34 = .ok (.getfield 125, 3) := by decide +kernel
theorem dMO_told_37 : decode bMO_told 37 = .ok (.ifCond .le 5, 3) := by decide +kernel
theorem dMO_told_40 : decode bMO_told 40 = .ok (.iconst 0, 1) := by decide +kernel
theorem dMO_told_41 : decode bMO_told 41 = .ok (.ireturn, 1) := by decide +kernel
theorem dMO_told_42 : decode bMO_told 42 = .ok (.iload_n 3, 1) := by decide +kernel
theorem dMO_told_43 : decode bMO_told 43 = .ok (.ifCond .ne 12, 3) := by decide +kernel
theorem dMO_told_46 : decode bMO_told 46 = .ok (.aload_n 0, 1) := by decide +kernel
theorem dMO_told_47 : decode bMO_told 47 = .ok (.getfield 65, 3) := by decide +kernel
theorem dMO_told_50 : decode bMO_told 50 = .ok (.iload_n 1, 1) := by decide +kernel
theorem dMO_told_51 : decode bMO_told 51 = .ok (.iaload, 1) := by decide +kernel
theorem dMO_told_52 : decode bMO_told 52 = .ok (.goto 40, 3) := by decide +kernel
theorem dMO_told_55 : decode bMO_told 55 = .ok (.iload_n 3, 1) := by decide +kernel
theorem dMO_told_56 : decode bMO_told 56 = .ok (.iconst 1, 1) := by decide +kernel
theorem dMO_told_57 : decode bMO_told 57 = .ok (.if_icmp .ne 16, 3) := by decide +kernel
theorem dMO_told_60 : decode bMO_told 60 = .ok (.aload_n 0, 1) := by decide +kernel
theorem dMO_told_61 : decode bMO_told 61 = .ok (.getfield 50, 3) := by decide +kernel
theorem dMO_told_64 : decode bMO_told 64 = .ok (.iload_n 1, 1) := by decide +kernel
theorem dMO_told_65 : decode bMO_told 65 = .ok (.iload_n 2, 1) := by decide +kernel
theorem dMO_told_66 : decode bMO_told 66 = .ok (.invokestatic 192, 3) := by decide +kernel
theorem dMO_told_69 : decode bMO_told 69 = .ok (.iaload, 1) := by decide +kernel
theorem dMO_told_70 : decode bMO_told 70 = .ok (.goto 22, 3) := by decide +kernel
theorem dMO_told_73 : decode bMO_told 73 = .ok (.aload_n 0, 1) := by decide +kernel
theorem dMO_told_74 : decode bMO_told 74 = .ok (.iload_n 1, 1) := by decide +kernel
theorem dMO_told_75 : decode bMO_told 75 = .ok (.iload_n 2, 1) := by decide +kernel
theorem dMO_told_76 : decode bMO_told 76 = .ok (.invokevirtual 199, 3) := by decide +kernel
theorem dMO_told_79 : decode bMO_told 79 = .ok (.ifCond .eq 12, 3) := by decide +kernel
theorem dMO_told_82 : decode bMO_told 82 = .ok (.aload_n 0, 1) := by decide +kernel
theorem dMO_told_83 : decode bMO_told 83 = .ok (.getfield 41, 3) := by decide +kernel
theorem dMO_told_86 : decode bMO_told 86 = .ok (.iload_n 2, 1) := by decide +kernel
theorem dMO_told_87 : decode bMO_told 87 = .ok (.iaload, 1) := by decide +kernel
theorem dMO_told_88 : decode bMO_told 88 = .ok (.goto 4, 3) := by decide +kernel
theorem dMO_told_91 : decode bMO_told 91 = .ok (.iconst 0, 1) := by decide +kernel
theorem dMO_told_92 : decode bMO_told 92 = .ok (.ireturn, 1) := by decide +kernel
theorem dMO_visits_0 : decode bMO_visits 0 = .ok (.aload_n 0, 1) := by decide +kernel
theorem dMO_visits_1 : decode bMO_visits 1 = .ok (.iconst 0, 1) := by decide +kernel
theorem dMO_visits_2 : decode bMO_visits 2 = .ok (.putfield 125, 3) := by decide +kernel
theorem dMO_visits_5 : decode bMO_visits 5 = .ok (.aload_n 0, 1) := by decide +kernel
theorem dMO_visits_6 : decode bMO_visits 6 = .ok (.getfield 293, 3) := by decide +kernel
theorem dMO_visits_9 : decode bMO_visits 9 = .ok (.ireturn, 1) := by decide +kernel
noncomputable def fMO_ticks_52 (P : ZS) (rc52 : ZS → Int32 → Int32 → (ZS × Int32)) (S_52 : ZS) (x52_1 : Int32) (x52_2 : Int32) : ZS × Int32 := (if x52_1 ≤ x52_2 then zl (S_52.I 4) (fun k1 => (S_52, k1)) else zl (fMO_tick P S_52) (fun S3 => zl (x52_2 + 1) (fun k5 => rc52 S3 x52_1 k5)))
noncomputable def fMO_ticks_42 (P : ZS) (S_42 : ZS) (x42_1 : Int32) (y42_0 : Int32) (y42_1 : Int32) : ZS × Int32 := zl2 (fMO_goes P S_42 y42_1 y42_0) (fun S8 k7 => (if k7 = 0 then (S8, 0) else zfix (fun S9 _ _ => (S9, 0)) (fMO_ticks_52 P) 257 S8 x42_1 0))
noncomputable def fMO_ticks_41 (P : ZS) (S_41 : ZS) (x41_1 : Int32) (y41_0 : Int32) : ZS × Int32 := fMO_ticks_42 P S_41 x41_1 0 y41_0
noncomputable def fMO_ticks_18 (P : ZS) (S_18 : ZS) (x18_1 : Int32) (y18_0 : Int32) : ZS × Int32 := zl (P.I 0) (fun k10 => (if k10 = 0 then fMO_ticks_41 P S_18 x18_1 y18_0 else zl (S_18.I 4) (fun k11 => zl (k11 + x18_1) (fun k12 => (if 20000 < k12 then fMO_ticks_41 P S_18 x18_1 y18_0 else fMO_ticks_42 P S_18 x18_1 1 y18_0)))))
noncomputable def fMO_ticks_17 (P : ZS) (S_17 : ZS) (x17_1 : Int32) : ZS × Int32 := fMO_ticks_18 P S_17 x17_1 0
noncomputable def fMO_ticks (P S : ZS) (x0 : Int32) : ZS × Int32 := (if x0 < 1 then fMO_ticks_17 P S x0 else (if 200 < x0 then fMO_ticks_17 P S x0 else fMO_ticks_18 P S x0 1))
set_option maxHeartbeats 4000000 in
set_option maxRecDepth 100000 in
theorem tMO_ticks (l : Launch) (dC : Nat → ClassId) (dI : Nat → Nat → Nat) (cI cZ cJ cA : ClassId) (a0 : Array Value) (s0 : State) (o b : Nat → Nat) (P S : ZS) (sz : Nat) (x0 : Int32) (gP : mok P) (gS : mok S) (gM : zM P) : Met l yMO_ticks [Cond.code yMO_ticks bMO_ticks 3 (some .int)] ({ frames := 7, cells := 0, slots := 0, locals := 169 } : Room) (zP zCl dC dI (zTZ cI cZ cJ cA) a0 s0 [.ref (o 0), .int x0] sz (MW cI cZ cA o b P S)) (zQH zCl dC dI (fun (r : Int32) (x9 : ZS) => (x9, r) = fMO_ticks P S x0 ∧ mok x9 ∧ True) (fun x9 : ZS => (MW cI cZ cA o b P x9)) (va_A (MW cI cZ cA o b P S) sz)) 0 0 (va_A (MW cI cZ cA o b P S) sz) := by
  refine Met.ofW (cc := bMO_ticks) (maxL := 3) (ret := (some .int)) (by decide) rfl ?_
  intro p e s m args below meth c s₁ B hml hv
  obtain ⟨rfl, hsz, hP, hK, hD0, hB⟩ := hv
  have hx := B.exec
  have hb := B.bytes
  have hr := B.returns
  have hown : s.vm.findClass "RingGuardModel" = some m.cls := findClass_of_methodNamed B.named
  have hlocks := B.notSynchronized
  subst hsz
  have hD := hD0.self (sz := s.heap.size)
  have hA0 := zA0 hD0 hB
  generalize hAe : va_A (MW cI cZ cA o b P S) s.heap.size = A at hD hA0 ⊢
  have hAD := hA0
  have hA : ∀ q : Nat, s.heap.size ≤ q → A q := fun q h => by rw [← hAe]; exact Or.inr h
  have hS : va_S A s.heap s.heap [] := va_S.rf
  have hl := lv_entry ([.ref (o 0), .int x0]) (n := 3) (Nat.le_of_ble_eq_true rfl)
  rw [lg_entry_eq]
  generalize (lg_sl ([.ref (o 0), .int x0]) ++ List.replicate (3 - (lg_sl ([.ref (o 0), .int x0])).length) Slot.unset).toArray = ls at hl ⊢
  have hl : lv_has ls 3 [(0, .ref (o 0)), (1, .int x0)] := hl
  refine zgenQ (fun Q hQe => ?_)
  obtain ⟨tg, etg⟩ : ∃ z, z = fMO_ticks P S x0 := ⟨_, rfl⟩
  have E := etg
  unfold fMO_ticks at E
  have hJ18 : ∀ (H : Heap) (locs : List Loc) (ls : Array Slot) (S_18 : ZS) (x18_1 : Int32) (y18_0 : Int32), zr 0 1 y18_0 → mok S_18 → (y18_0 = 0 ∨ zr 1 200 (x18_1)) → tg = fMO_ticks_18 P S_18 x18_1 y18_0 → va_P (dC, dI) zCl (MW cI cZ cA o b P S_18) H → va_D A (MW cI cZ cA o b P S_18) → va_S A s.heap H locs → lv_has ls 3 [(0, .ref (o 0)), (1, .int x18_1)] → W p l e ({ frames := 7, cells := 0, slots := 0, locals := 169 } : Room) s m ([.ref (o 0), .int x0] : List Value).toArray below meth c H locs 0 0 Q (F0 m 18 ls [.int y18_0, .ref (o 0)]) := by
    intro H locs ls S_18 x18_1 y18_0 r_y18_0 gS_18 cd18_0 E hP hD hS hl
    unfold fMO_ticks_18 at E
    have hJ42 : ∀ (H : Heap) (locs : List Loc) (ls : Array Slot) (S_42 : ZS) (x42_1 : Int32) (y42_0 : Int32) (y42_1 : Int32), zr 0 1 y42_0 → zr 0 1 y42_1 → mok S_42 → (y42_1 = 0 ∨ zr 1 200 (x42_1)) → tg = fMO_ticks_42 P S_42 x42_1 y42_0 y42_1 → va_P (dC, dI) zCl (MW cI cZ cA o b P S_42) H → va_D A (MW cI cZ cA o b P S_42) → va_S A s.heap H locs → lv_has ls 3 [(0, .ref (o 0)), (1, .int x42_1)] → W p l e ({ frames := 7, cells := 0, slots := 0, locals := 169 } : Room) s m ([.ref (o 0), .int x0] : List Value).toArray below meth c H locs 0 0 Q (F0 m 42 ls [.int y42_0, .int y42_1, .ref (o 0)]) := by
      intro H locs ls S_42 x42_1 y42_0 y42_1 r_y42_0 r_y42_1 gS_42 cd42_0 E hP hD hS hl
      unfold fMO_ticks_42 at E
      have hL52 : ∀ (n52 : Nat) (H : Heap) (locs : List Loc) (ls : Array Slot) (S_52 : ZS) (x52_1 : Int32) (x52_2 : Int32), zr 1 200 x52_1 → zr 0 256 x52_2 → mok S_52 → 256 + 1 - x52_2.toInt ≤ (n52 : Int) → tg = zfix (fun S9 _ _ => (S9, 0)) (fMO_ticks_52 P) n52 S_52 x52_1 x52_2 → va_P (dC, dI) zCl (MW cI cZ cA o b P S_52) H → va_D A (MW cI cZ cA o b P S_52) → va_S A s.heap H locs → lv_has ls 3 [(0, .ref (o 0)), (1, .int x52_1), (2, .int x52_2)] → W p l e ({ frames := 7, cells := 0, slots := 0, locals := 169 } : Room) s m ([.ref (o 0), .int x0] : List Value).toArray below meth c H locs 0 0 Q (F0 m 52 ls []) := by
        intro n52
        induction n52 with
        | zero => intro H locs ls S_52 x52_1 x52_2 r_x52_1 r_x52_2 gS_52 hm52 E hP hD hS hl; exact absurd hm52 (zfuel0U r_x52_2)
        | succ n52 ih52 =>
          intro H locs ls S_52 x52_1 x52_2 r_x52_1 r_x52_2 gS_52 hm52 E hP hD hS hl
          rw [zfix_s] at E
          generalize zfix (fun S9 _ _ => (S9, 0)) (fMO_ticks_52 P) n52 = rc52 at ih52 E
          unfold fMO_ticks_52 at E
          refine lv_iload_n hx hb dMO_ticks_52 rfl (lv_at hl 2 rfl) ?_
          refine lv_iload_n hx hb dMO_ticks_53 rfl (lv_at hl 1 rfl) ?_
          refine z_icmp_ge (tgt := 67) hx hb dMO_ticks_54 (by decide) E (fun c_54 E => ?_) (fun c_54 E => ?_)
          · have r_x52_2 : zr 1 256 x52_2 := zle_y r_x52_1 r_x52_2 c_54 (by decide)
            refine lv_aload_n hx hb dMO_ticks_67 rfl (lv_at hl 0 rfl) ?_
            refine m_get_4 hx hb (hB.words zU_MO) hown hK hP (hB.word (zm4 k4_151) rfl) dMO_ticks_68 E (fun k1 ek1 E => ?_)
            rw [hQe]
            exact W.iret (v := k1) hx hb hr (fun t ht hW => ⟨⟨k1, S_52, rfl, ⟨E.symm.trans etg, gS_52, trivial⟩, by rw [ht]; exact hP, hD⟩, hS.F ht⟩) hS.2.2 dMO_ticks_71
          · have r_x52_2 : zr 0 199 x52_2 := zlt_x r_x52_2 r_x52_1 (znle c_54) (by decide)
            refine lv_aload_n hx hb dMO_ticks_57 rfl (lv_at hl 0 rfl) ?_
            refine zcV (va_runV (As := []) (rest := []) ⟨hx, hb, hml, hown, zno⟩ (tMO_tick l dC dI cI cZ cJ cA a0 s0 o b P S_52 H.size gP gS_52 gM) (zcw 0 (hB.word (zm5 k5_191) rfl) (hB.word (zm1 k1_9) rfl) (hB.word (zm5 k5_188) rfl) (hB.word (zm5 k5_190) rfl) (k2_selects_private (by decide) (hB.word (zm4 k4_109) rfl) (hB.word (zm5 k5_189) rfl) (hB.word (zm5 k5_190) rfl)) rfl rfl (by decide +kernel) ⟨Nat.le_of_ble_eq_true rfl, Nat.le_of_ble_eq_true rfl⟩) ⟨zP_blind, va_recv hK hP (ci := 7) (q0 := 0) rfl rfl, zP_pre hP hK hD hAD (zB_on hB hA0 hS)⟩ rfl rfl hl.1 rfl (lv_room (Nat.le_of_ble_eq_true rfl)) dMO_ticks_58 ⟨Nat.le_of_ble_eq_true rfl, Nat.le_of_ble_eq_true rfl⟩) hD hS hA (fun S3 H2 locs h4 hP hD hS => ?_)
            have E := zl_s E h4.1
            have gS3 := h4.2
            refine z_iinc (lv' := fun v9 => [(2, .int v9), (0, .ref (o 0)), (1, .int x52_1)]) (cst := 1) hx hb dMO_ticks_61 hl (k := 2) rfl (by decide) (by decide) (fun _ => rfl) E (fun k5 ls ek5 E hl => ?_)
            have r_k5 : zr 1 200 k5 := zr_add r_x52_2 (show zr 1 1 1 from by decide) ek5 (by decide)
            refine lv_goto (tgt := 52) hx hb dMO_ticks_64 (by decide) ?_
            exact ih52 H2 locs ls S3 x52_1 k5 r_x52_1 (zr_mono r_k5 (by decide)) gS3 (zstepU ek5 r_x52_2 (by decide) hm52) E hP hD hS (lv_sub hl [1, 2, 0] rfl)
      refine zcI (va_runV (As := [.int y42_1, .int y42_0]) (rest := []) ⟨hx, hb, hml, hown, zno⟩ (tMO_goes l dC dI cI cZ cJ cA a0 s0 o b P S_42 H.size y42_1 y42_0 gP gS_42 r_y42_1 r_y42_0) (zcw 2 (hB.word (zm5 k5_56) rfl) (hB.word (zm1 k1_9) rfl) (hB.word (zm5 k5_53) rfl) (hB.word (zm5 k5_55) rfl) (k2_selects_private (by decide) (hB.word (zm4 k4_109) rfl) (hB.word (zm5 k5_54) rfl) (hB.word (zm5 k5_55) rfl)) rfl rfl (by decide +kernel) ⟨Nat.le_of_ble_eq_true rfl, Nat.le_of_ble_eq_true rfl⟩) ⟨zP_blind, va_recv hK hP (ci := 7) (q0 := 0) rfl rfl, zP_pre hP hK hD hAD (zB_on hB hA0 hS)⟩ rfl rfl hl.1 rfl (lv_room (Nat.le_of_ble_eq_true rfl)) dMO_ticks_42 ⟨Nat.le_of_ble_eq_true rfl, Nat.le_of_ble_eq_true rfl⟩) hD hS hA (fun k7 S8 H6 locs h9 hP hD hS => ?_)
      have E := zl2_s E h9.1
      have gS8 := h9.2.1
      obtain ⟨v_S8, eS8⟩ := zgoes_S h9.1
      refine z_if_ne (tgt := 50) hx hb dMO_ticks_45 (by decide) E (fun c_45 E => ?_) (fun c_45 E => ?_)
      · have r_k7 : zr 1 1 k7 := zne_lo h9.2.2 c_45 (by decide)
        have r_x42_1 : zr 1 200 x42_1 := ((zor (zgoes_0 h9.1) cd42_0)).resolve_left (zrne r_k7 (by decide))
        refine lv_iconst (v := 0) hx hb dMO_ticks_50 (by decide) ?_
        refine lv_istore_n (lv' := [(2, .int 0), (0, .ref (o 0)), (1, .int x42_1)]) hx hb dMO_ticks_51 rfl hl (by decide) rfl (fun ls hl => ?_)
        exact hL52 257 H6 locs ls S8 x42_1 0 r_x42_1 (show zr 0 256 0 from by decide) gS8 (by have h9 := (show zr 0 0 0 from by decide); exact zfuelU h9 (by decide)) E hP hD hS (lv_sub hl [1, 2, 0] rfl)
      · have r_k7 : zr 0 0 k7 := zeq_x (show zr 0 0 0 from by decide) c_45
        refine lv_iconst (v := 0) hx hb dMO_ticks_48 (by decide) ?_
        rw [hQe]
        exact W.iret (v := 0) hx hb hr (fun t ht hW => ⟨⟨0, S8, rfl, ⟨E.symm.trans etg, gS8, trivial⟩, by rw [ht]; exact hP, hD⟩, hS.F ht⟩) hS.2.2 dMO_ticks_49
    have hJ41 : ∀ (H : Heap) (locs : List Loc) (ls : Array Slot) (S_41 : ZS) (x41_1 : Int32) (y41_0 : Int32), zr 0 1 y41_0 → mok S_41 → (y41_0 = 0 ∨ zr 1 200 (x41_1)) → tg = fMO_ticks_41 P S_41 x41_1 y41_0 → va_P (dC, dI) zCl (MW cI cZ cA o b P S_41) H → va_D A (MW cI cZ cA o b P S_41) → va_S A s.heap H locs → lv_has ls 3 [(0, .ref (o 0)), (1, .int x41_1)] → W p l e ({ frames := 7, cells := 0, slots := 0, locals := 169 } : Room) s m ([.ref (o 0), .int x0] : List Value).toArray below meth c H locs 0 0 Q (F0 m 41 ls [.int y41_0, .ref (o 0)]) := by
      intro H locs ls S_41 x41_1 y41_0 r_y41_0 gS_41 cd41_0 E hP hD hS hl
      unfold fMO_ticks_41 at E
      refine lv_iconst (v := 0) hx hb dMO_ticks_41 (by decide) ?_
      exact hJ42 H locs ls S_41 x41_1 0 y41_0 (show zr 0 1 0 from by decide) r_y41_0 gS_41 (zorm cd41_0 (by decide)) E hP hD hS (lv_sub hl [0, 1] rfl)
    refine lv_aload_n hx hb dMO_ticks_18 rfl (lv_at hl 0 rfl) ?_
    refine m_get_0 hx hb (hB.words zU_MO) hown hK hP (hB.word (zm4 k4_115) rfl) dMO_ticks_19 E (fun k10 ek10 E => ?_)
    have r_k10 : zr 0 1 k10 := by rw [ek10]; exact gP.2.1 0
    refine z_if_eq (tgt := 41) hx hb dMO_ticks_22 (by decide) E (fun c_22 E => ?_) (fun c_22 E => ?_)
    · have r_k10 : zr 0 0 k10 := zeq_x (show zr 0 0 0 from by decide) c_22
      exact hJ41 H locs ls S_18 x18_1 y18_0 r_y18_0 gS_18 (zorm cd18_0 (by decide)) E hP hD hS (lv_sub hl [0, 1] rfl)
    · have r_k10 : zr 1 1 k10 := zne_lo r_k10 c_22 (by decide)
      refine lv_aload_n hx hb dMO_ticks_25 rfl (lv_at hl 0 rfl) ?_
      refine m_get_4 hx hb (hB.words zU_MO) hown hK hP (hB.word (zm4 k4_151) rfl) dMO_ticks_26 E (fun k11 ek11 E => ?_)
      refine lv_iload_n hx hb dMO_ticks_29 rfl (lv_at hl 1 rfl) ?_
      refine z_iadd hx hb dMO_ticks_30 E (fun k12 ek12 E => ?_)
      refine lv_sipush (v := 20000) hx hb dMO_ticks_31 (by decide) ?_
      refine z_icmp_gt (tgt := 41) hx hb dMO_ticks_34 (by decide) E (fun c_34 E => ?_) (fun c_34 E => ?_)
      · have r_k12 : zr 20001 2147483647 k12 := zlt_y (show zr 20000 20000 20000 from by decide) (zr_any k12) c_34 (by decide)
        exact hJ41 H locs ls S_18 x18_1 y18_0 r_y18_0 gS_18 (zorm cd18_0 (by decide)) E hP hD hS (lv_sub hl [0, 1] rfl)
      · have r_k12 : zr (-2147483648) 20000 k12 := zle_x (zr_any k12) (show zr 20000 20000 20000 from by decide) (znlt c_34) (by decide)
        refine lv_iconst (v := 1) hx hb dMO_ticks_37 (by decide) ?_
        refine lv_goto (tgt := 42) hx hb dMO_ticks_38 (by decide) ?_
        exact hJ42 H locs ls S_18 x18_1 1 y18_0 (show zr 0 1 1 from by decide) r_y18_0 gS_18 (zorm cd18_0 (by decide)) E hP hD hS (lv_sub hl [0, 1] rfl)
  have hJ17 : ∀ (H : Heap) (locs : List Loc) (ls : Array Slot) (S_17 : ZS) (x17_1 : Int32), mok S_17 → tg = fMO_ticks_17 P S_17 x17_1 → va_P (dC, dI) zCl (MW cI cZ cA o b P S_17) H → va_D A (MW cI cZ cA o b P S_17) → va_S A s.heap H locs → lv_has ls 3 [(0, .ref (o 0)), (1, .int x17_1)] → W p l e ({ frames := 7, cells := 0, slots := 0, locals := 169 } : Room) s m ([.ref (o 0), .int x0] : List Value).toArray below meth c H locs 0 0 Q (F0 m 17 ls [.ref (o 0)]) := by
    intro H locs ls S_17 x17_1 gS_17 E hP hD hS hl
    unfold fMO_ticks_17 at E
    refine lv_iconst (v := 0) hx hb dMO_ticks_17 (by decide) ?_
    exact hJ18 H locs ls S_17 x17_1 0 (show zr 0 1 0 from by decide) gS_17 (Or.inl rfl) E hP hD hS (lv_sub hl [0, 1] rfl)
  refine lv_aload_n hx hb dMO_ticks_0 rfl (lv_at hl 0 rfl) ?_
  refine lv_iload_n hx hb dMO_ticks_1 rfl (lv_at hl 1 rfl) ?_
  refine lv_iconst (v := 1) hx hb dMO_ticks_2 (by decide) ?_
  refine z_icmp_lt (tgt := 17) hx hb dMO_ticks_3 (by decide) E (fun c_3 E => ?_) (fun c_3 E => ?_)
  · have r_x0 : zr (-2147483648) 0 x0 := zlt_x (zr_any x0) (show zr 1 1 1 from by decide) c_3 (by decide)
    exact hJ17 s.heap [] ls S x0 gS E hP hD hS (lv_sub hl [0, 1] rfl)
  · have r_x0 : zr 1 2147483647 x0 := zle_y (show zr 1 1 1 from by decide) (zr_any x0) (znlt c_3) (by decide)
    refine lv_iload_n hx hb dMO_ticks_6 rfl (lv_at hl 1 rfl) ?_
    refine lv_sipush (v := 200) hx hb dMO_ticks_7 (by decide) ?_
    refine z_icmp_gt (tgt := 17) hx hb dMO_ticks_10 (by decide) E (fun c_10 E => ?_) (fun c_10 E => ?_)
    · have r_x0 : zr 201 2147483647 x0 := zlt_y (show zr 200 200 200 from by decide) r_x0 c_10 (by decide)
      exact hJ17 s.heap [] ls S x0 gS E hP hD hS (lv_sub hl [0, 1] rfl)
    · have r_x0 : zr 1 200 x0 := zle_x r_x0 (show zr 200 200 200 from by decide) (znlt c_10) (by decide)
      refine lv_iconst (v := 1) hx hb dMO_ticks_13 (by decide) ?_
      refine lv_goto (tgt := 18) hx hb dMO_ticks_14 (by decide) ?_
      exact hJ18 s.heap [] ls S x0 1 (show zr 0 1 1 from by decide) gS (Or.inr r_x0) E hP hD hS (lv_sub hl [0, 1] rfl)
noncomputable def fMO_send_428 (P : ZS) (rc141 : ZS → Int32 → Int32 → Int32 → Int32 → Int32 → Int32 → (ZS × Int32)) (S_428 : ZS) (x428_1 : Int32) (x428_2 : Int32) (x428_3 : Int32) (x428_5 : Int32) (x428_6 : Int32) (x428_7 : Int32) : ZS × Int32 := zl (x428_7 + 1) (fun k1 => rc141 S_428 x428_1 x428_2 x428_3 x428_5 x428_6 k1)
noncomputable def fMO_send_422 (P : ZS) (rc141 : ZS → Int32 → Int32 → Int32 → Int32 → Int32 → Int32 → (ZS × Int32)) (rc249 : ZS → Int32 → Int32 → Int32 → Int32 → Int32 → Int32 → Int32 → Int32 → Int32 → (ZS × Int32)) (S_422 : ZS) (x422_1 : Int32) (x422_2 : Int32) (x422_3 : Int32) (x422_5 : Int32) (x422_6 : Int32) (x422_7 : Int32) (x422_8 : Int32) (x422_9 : Int32) (x422_10 : Int32) : ZS × Int32 := zl (x422_10 + 1) (fun k2 => rc249 S_422 x422_1 x422_2 x422_3 x422_5 x422_6 x422_7 x422_8 x422_9 k2)
noncomputable def fMO_send_419 (P : ZS) (rc141 : ZS → Int32 → Int32 → Int32 → Int32 → Int32 → Int32 → (ZS × Int32)) (rc249 : ZS → Int32 → Int32 → Int32 → Int32 → Int32 → Int32 → Int32 → Int32 → Int32 → (ZS × Int32)) (S_419 : ZS) (x419_1 : Int32) (x419_2 : Int32) (x419_3 : Int32) (x419_5 : Int32) (x419_6 : Int32) (x419_7 : Int32) (x419_8 : Int32) (x419_9 : Int32) (x419_10 : Int32) (y419_0 : Int32) : ZS × Int32 := zl (S_419.setI 6 y419_0) (fun S3 => fMO_send_422 P rc141 rc249 S3 x419_1 x419_2 x419_3 x419_5 x419_6 x419_7 x419_8 x419_9 x419_10)
noncomputable def fMO_send_299 (P : ZS) (rc141 : ZS → Int32 → Int32 → Int32 → Int32 → Int32 → Int32 → (ZS × Int32)) (rc249 : ZS → Int32 → Int32 → Int32 → Int32 → Int32 → Int32 → Int32 → Int32 → Int32 → (ZS × Int32)) (S_299 : ZS) (x299_1 : Int32) (x299_2 : Int32) (x299_3 : Int32) (x299_5 : Int32) (x299_6 : Int32) (x299_7 : Int32) (x299_8 : Int32) (x299_9 : Int32) (x299_10 : Int32) (y299_0 : Int32) : ZS × Int32 := (if y299_0 = 0 then fMO_send_422 P rc141 rc249 S_299 x299_1 x299_2 x299_3 x299_5 x299_6 x299_7 x299_8 x299_9 x299_10 else zl (fMO_isEnd P S_299 x299_8 x299_10) (fun k8 => (if k8 = 0 then fMO_send_422 P rc141 rc249 S_299 x299_1 x299_2 x299_3 x299_5 x299_6 x299_7 x299_8 x299_9 x299_10 else zl (fMO_isOpen P S_299 x299_10) (fun k10 => (if k10 = 0 then fMO_send_422 P rc141 rc249 S_299 x299_1 x299_2 x299_3 x299_5 x299_6 x299_7 x299_8 x299_9 x299_10 else (if 4096 ≤ x299_6 then fMO_send_422 P rc141 rc249 S_299 x299_1 x299_2 x299_3 x299_5 x299_6 x299_7 x299_8 x299_9 x299_10 else zl (fMO_other P S_299 x299_8 x299_10) (fun k12 => zl (S_299.setF 35 (x299_6 : Int32).toNatClampNeg k12) (fun S13 => zl (S13.setF 36 (x299_6 : Int32).toNatClampNeg x299_10) (fun S15 => zl (x299_6 + 1) (fun k17 => zl (fMO_end P S15 x299_8 x299_10) (fun k19 => zl (S15.F 37 (k19 : Int32).toNatClampNeg) (fun k20 => zl (k20 + 1) (fun k21 => zl (S15.setF 37 (k19 : Int32).toNatClampNeg k21) (fun S22 => zl (fMO_end P S22 x299_8 x299_10) (fun k25 => zl (S22.F 37 (k25 : Int32).toNatClampNeg) (fun k26 => zl (S22.I 6) (fun k27 => (if k26 ≤ k27 then zl (S22.I 6) (fun k28 => fMO_send_419 P rc141 rc249 S22 x299_1 x299_2 x299_3 x299_5 k17 x299_7 x299_8 x299_9 x299_10 k27) else zl (fMO_end P S22 x299_8 x299_10) (fun k30 => zl (S22.F 37 (k30 : Int32).toNatClampNeg) (fun k31 => fMO_send_419 P rc141 rc249 S22 x299_1 x299_2 x299_3 x299_5 k17 x299_7 x299_8 x299_9 x299_10 k31))))))))))))))))))))
noncomputable def fMO_send_298 (P : ZS) (rc141 : ZS → Int32 → Int32 → Int32 → Int32 → Int32 → Int32 → (ZS × Int32)) (rc249 : ZS → Int32 → Int32 → Int32 → Int32 → Int32 → Int32 → Int32 → Int32 → Int32 → (ZS × Int32)) (S_298 : ZS) (x298_1 : Int32) (x298_2 : Int32) (x298_3 : Int32) (x298_5 : Int32) (x298_6 : Int32) (x298_7 : Int32) (x298_8 : Int32) (x298_9 : Int32) (x298_10 : Int32) : ZS × Int32 := fMO_send_299 P rc141 rc249 S_298 x298_1 x298_2 x298_3 x298_5 x298_6 x298_7 x298_8 x298_9 x298_10 0
noncomputable def fMO_send_294 (P : ZS) (rc141 : ZS → Int32 → Int32 → Int32 → Int32 → Int32 → Int32 → (ZS × Int32)) (rc249 : ZS → Int32 → Int32 → Int32 → Int32 → Int32 → Int32 → Int32 → Int32 → Int32 → (ZS × Int32)) (S_294 : ZS) (x294_1 : Int32) (x294_2 : Int32) (x294_3 : Int32) (x294_5 : Int32) (x294_6 : Int32) (x294_7 : Int32) (x294_8 : Int32) (x294_9 : Int32) (x294_10 : Int32) : ZS × Int32 := fMO_send_299 P rc141 rc249 S_294 x294_1 x294_2 x294_3 x294_5 x294_6 x294_7 x294_8 x294_9 x294_10 1
noncomputable def fMO_send_249 (P : ZS) (rc141 : ZS → Int32 → Int32 → Int32 → Int32 → Int32 → Int32 → (ZS × Int32)) (rc249 : ZS → Int32 → Int32 → Int32 → Int32 → Int32 → Int32 → Int32 → Int32 → Int32 → (ZS × Int32)) (S_249 : ZS) (x249_1 : Int32) (x249_2 : Int32) (x249_3 : Int32) (x249_5 : Int32) (x249_6 : Int32) (x249_7 : Int32) (x249_8 : Int32) (x249_9 : Int32) (x249_10 : Int32) : ZS × Int32 := zl (P.I 2) (fun k32 => (if k32 ≤ x249_10 then fMO_send_428 P rc141 S_249 x249_1 x249_2 x249_3 x249_5 x249_6 x249_7 else zl (S_249.F 22 (x249_2 : Int32).toNatClampNeg) (fun k33 => (if k33 = x249_8 then fMO_send_428 P rc141 S_249 x249_1 x249_2 x249_3 x249_5 x249_6 x249_7 else zl (S_249.F 36 (x249_7 : Int32).toNatClampNeg) (fun k34 => (if x249_10 = k34 then fMO_send_298 P rc141 rc249 S_249 x249_1 x249_2 x249_3 x249_5 x249_6 x249_7 x249_8 x249_9 x249_10 else (if x249_9 = (-1) then fMO_send_294 P rc141 rc249 S_249 x249_1 x249_2 x249_3 x249_5 x249_6 x249_7 x249_8 x249_9 x249_10 else (if x249_10 = x249_9 then fMO_send_294 P rc141 rc249 S_249 x249_1 x249_2 x249_3 x249_5 x249_6 x249_7 x249_8 x249_9 x249_10 else fMO_send_298 P rc141 rc249 S_249 x249_1 x249_2 x249_3 x249_5 x249_6 x249_7 x249_8 x249_9 x249_10))))))))
noncomputable def fMO_send_243 (P : ZS) (rc141 : ZS → Int32 → Int32 → Int32 → Int32 → Int32 → Int32 → (ZS × Int32)) (S_243 : ZS) (x243_1 : Int32) (x243_2 : Int32) (x243_3 : Int32) (x243_6 : Int32) (x243_7 : Int32) (x243_8 : Int32) (x243_9 : Int32) (y243_0 : Int32) (y243_1 : Int32) : ZS × Int32 := zl (y243_1 + y243_0) (fun k35 => zfix (fun S9 _ _ _ _ _ _ _ _ _ => (S9, 0)) (fMO_send_249 P rc141) 61 S_243 x243_1 x243_2 x243_3 k35 x243_6 x243_7 x243_8 x243_9 0)
noncomputable def fMO_send_215 (P : ZS) (rc141 : ZS → Int32 → Int32 → Int32 → Int32 → Int32 → Int32 → (ZS × Int32)) (S_215 : ZS) (x215_1 : Int32) (x215_2 : Int32) (x215_3 : Int32) (x215_5 : Int32) (x215_6 : Int32) (x215_7 : Int32) (x215_8 : Int32) : ZS × Int32 := zl (fMO_known P S_215 x215_8 x215_3 x215_2) (fun k37 => zl (S_215.F 22 (x215_2 : Int32).toNatClampNeg) (fun k38 => (if k38 = x215_8 then fMO_send_243 P rc141 S_215 x215_1 x215_2 x215_3 x215_6 x215_7 x215_8 k37 1 x215_5 else fMO_send_243 P rc141 S_215 x215_1 x215_2 x215_3 x215_6 x215_7 x215_8 k37 0 x215_5)))
noncomputable def fMO_send_141 (P : ZS) (rc141 : ZS → Int32 → Int32 → Int32 → Int32 → Int32 → Int32 → (ZS × Int32)) (S_141 : ZS) (x141_1 : Int32) (x141_2 : Int32) (x141_3 : Int32) (x141_5 : Int32) (x141_6 : Int32) (x141_7 : Int32) : ZS × Int32 := (if x141_6 ≤ x141_7 then (S_141, x141_5) else zl (S_141.F 35 (x141_7 : Int32).toNatClampNeg) (fun k39 => zl (S_141.F 36 (x141_7 : Int32).toNatClampNeg) (fun k40 => (if k40 = (-1) then fMO_send_215 P rc141 S_141 x141_1 x141_2 x141_3 x141_5 x141_6 x141_7 k39 else zl (256 * k39) (fun k41 => zl (64 * x141_3) (fun k42 => zl (k41 + k42) (fun k43 => zl (k43 + x141_1) (fun k44 => zl (S_141.F 36 (x141_7 : Int32).toNatClampNeg) (fun k45 => zl (S_141.setF 20 (k44 : Int32).toNatClampNeg k40) (fun S46 => zl (256 * k39) (fun k48 => zl (64 * x141_3) (fun k49 => zl (k48 + k49) (fun k50 => zl (k50 + x141_1) (fun k51 => zl (S46.I 4) (fun k52 => zl (S46.setF 21 (k51 : Int32).toNatClampNeg k52) (fun S53 => fMO_send_215 P rc141 S53 x141_1 x141_2 x141_3 x141_5 x141_6 x141_7 k39))))))))))))))))
noncomputable def fMO_send_92 (P : ZS) (rc92 : ZS → Int32 → Int32 → Int32 → Int32 → (ZS × Int32)) (S_92 : ZS) (x92_1 : Int32) (x92_2 : Int32) (x92_3 : Int32) (x92_5 : Int32) : ZS × Int32 := (if 120 ≤ x92_5 then zl (S_92.F 22 (x92_1 : Int32).toNatClampNeg) (fun k55 => zl (S_92.setF 35 (0 : Int32).toNatClampNeg k55) (fun S56 => zl (S56.setF 36 (0 : Int32).toNatClampNeg (-1)) (fun S58 => zfix (fun S9 _ _ _ _ _ _ => (S9, 0)) (fMO_send_141 P) 4097 S58 x92_1 x92_2 x92_3 0 1 0))) else zl (S_92.setF 37 (x92_5 : Int32).toNatClampNeg 0) (fun S60 => zl (x92_5 + 1) (fun k62 => rc92 S60 x92_1 x92_2 x92_3 k62)))
noncomputable def fMO_send_72 (P : ZS) (S_72 : ZS) (x72_1 : Int32) (x72_2 : Int32) (x72_3 : Int32) (y72_0 : Int32) : ZS × Int32 := zl (P.I 0) (fun k63 => zl2 (fMO_goes P S_72 y72_0 k63) (fun S66 k65 => (if k65 = 0 then (S66, 0) else zl (S66.setI 6 0) (fun S70 => zfix (fun S9 _ _ _ _ => (S9, 0)) (fMO_send_92 P) 121 S70 x72_1 x72_2 x72_3 0))))
noncomputable def fMO_send_71 (P : ZS) (S_71 : ZS) (x71_1 : Int32) (x71_2 : Int32) (x71_3 : Int32) : ZS × Int32 := fMO_send_72 P S_71 x71_1 x71_2 x71_3 0
noncomputable def fMO_send_39 (P : ZS) (S_39 : ZS) (x39_1 : Int32) (x39_2 : Int32) (x39_3 : Int32) (y39_0 : Int32) : ZS × Int32 := (if y39_0 = 0 then fMO_send_71 P S_39 x39_1 x39_2 x39_3 else zl (S_39.F 22 (x39_1 : Int32).toNatClampNeg) (fun k72 => (if k72 = (-1) then fMO_send_71 P S_39 x39_1 x39_2 x39_3 else zl (S_39.F 22 (x39_2 : Int32).toNatClampNeg) (fun k73 => (if k73 = (-1) then fMO_send_71 P S_39 x39_1 x39_2 x39_3 else fMO_send_72 P S_39 x39_1 x39_2 x39_3 1)))))
noncomputable def fMO_send_38 (P : ZS) (S_38 : ZS) (x38_1 : Int32) (x38_2 : Int32) (x38_3 : Int32) : ZS × Int32 := fMO_send_39 P S_38 x38_1 x38_2 x38_3 0
noncomputable def fMO_send (P S : ZS) (x0 : Int32) (x1 : Int32) (x2 : Int32) : ZS × Int32 := (if x0 < 0 then fMO_send_38 P S x0 x1 x2 else (if 64 ≤ x0 then fMO_send_38 P S x0 x1 x2 else (if x1 < 0 then fMO_send_38 P S x0 x1 x2 else (if 64 ≤ x1 then fMO_send_38 P S x0 x1 x2 else (if x2 < 0 then fMO_send_38 P S x0 x1 x2 else (if 4 ≤ x2 then fMO_send_38 P S x0 x1 x2 else (if x0 = x1 then fMO_send_38 P S x0 x1 x2 else fMO_send_39 P S x0 x1 x2 1)))))))
set_option maxHeartbeats 4000000 in
set_option maxRecDepth 100000 in
theorem tMO_send (l : Launch) (dC : Nat → ClassId) (dI : Nat → Nat → Nat) (cI cZ cJ cA : ClassId) (a0 : Array Value) (s0 : State) (o b : Nat → Nat) (P S : ZS) (sz : Nat) (x0 : Int32) (x1 : Int32) (x2 : Int32) (gP : mok P) (gS : mok S) : Met l yMO_send [Cond.code yMO_send bMO_send 12 (some .int)] ({ frames := 1, cells := 0, slots := 0, locals := 24 } : Room) (zP zCl dC dI (zTZ cI cZ cJ cA) a0 s0 [.ref (o 0), .int x0, .int x1, .int x2] sz (MW cI cZ cA o b P S)) (zQH zCl dC dI (fun (r : Int32) (x9 : ZS) => (x9, r) = fMO_send P S x0 x1 x2 ∧ mok x9 ∧ True) (fun x9 : ZS => (MW cI cZ cA o b P x9)) (va_A (MW cI cZ cA o b P S) sz)) 0 0 (va_A (MW cI cZ cA o b P S) sz) := by
  refine Met.ofW (cc := bMO_send) (maxL := 12) (ret := (some .int)) (by decide) rfl ?_
  intro p e s m args below meth c s₁ B hml hv
  obtain ⟨rfl, hsz, hP, hK, hD0, hB⟩ := hv
  have hx := B.exec
  have hb := B.bytes
  have hr := B.returns
  have hown : s.vm.findClass "RingGuardModel" = some m.cls := findClass_of_methodNamed B.named
  have hlocks := B.notSynchronized
  subst hsz
  have hD := hD0.self (sz := s.heap.size)
  have hA0 := zA0 hD0 hB
  generalize hAe : va_A (MW cI cZ cA o b P S) s.heap.size = A at hD hA0 ⊢
  have hAD := hA0
  have hA : ∀ q : Nat, s.heap.size ≤ q → A q := fun q h => by rw [← hAe]; exact Or.inr h
  have hS : va_S A s.heap s.heap [] := va_S.rf
  have hl := lv_entry ([.ref (o 0), .int x0, .int x1, .int x2]) (n := 12) (Nat.le_of_ble_eq_true rfl)
  rw [lg_entry_eq]
  generalize (lg_sl ([.ref (o 0), .int x0, .int x1, .int x2]) ++ List.replicate (12 - (lg_sl ([.ref (o 0), .int x0, .int x1, .int x2])).length) Slot.unset).toArray = ls at hl ⊢
  have hl : lv_has ls 12 [(0, .ref (o 0)), (1, .int x0), (2, .int x1), (3, .int x2)] := hl
  refine zgenQ (fun Q hQe => ?_)
  obtain ⟨tg, etg⟩ : ∃ z, z = fMO_send P S x0 x1 x2 := ⟨_, rfl⟩
  have E := etg
  unfold fMO_send at E
  have hJ39 : ∀ (H : Heap) (locs : List Loc) (ls : Array Slot) (S_39 : ZS) (x39_1 : Int32) (x39_2 : Int32) (x39_3 : Int32) (y39_0 : Int32), zr 0 1 y39_0 → mok S_39 → (y39_0 = 0 ∨ zr 0 63 (x39_1)) → (y39_0 = 0 ∨ zr 0 63 (x39_2)) → (y39_0 = 0 ∨ zr 0 3 (x39_3)) → tg = fMO_send_39 P S_39 x39_1 x39_2 x39_3 y39_0 → va_P (dC, dI) zCl (MW cI cZ cA o b P S_39) H → va_D A (MW cI cZ cA o b P S_39) → va_S A s.heap H locs → lv_has ls 12 [(0, .ref (o 0)), (1, .int x39_1), (2, .int x39_2), (3, .int x39_3)] → W p l e ({ frames := 1, cells := 0, slots := 0, locals := 24 } : Room) s m ([.ref (o 0), .int x0, .int x1, .int x2] : List Value).toArray below meth c H locs 0 0 Q (F0 m 39 ls [.int y39_0]) := by
    intro H locs ls S_39 x39_1 x39_2 x39_3 y39_0 r_y39_0 gS_39 cd39_0 cd39_1 cd39_2 E hP hD hS hl
    unfold fMO_send_39 at E
    have hJ72 : ∀ (H : Heap) (locs : List Loc) (ls : Array Slot) (S_72 : ZS) (x72_1 : Int32) (x72_2 : Int32) (x72_3 : Int32) (y72_0 : Int32), zr 0 1 y72_0 → mok S_72 → (y72_0 = 0 ∨ zr 0 63 (x72_1)) → (y72_0 = 0 ∨ zr 0 63 (x72_2)) → (y72_0 = 0 ∨ zr 0 3 (x72_3)) → (y72_0 = 0 ∨ zr 0 47 (S_72.F 22 (x72_1 : Int32).toNatClampNeg)) → tg = fMO_send_72 P S_72 x72_1 x72_2 x72_3 y72_0 → va_P (dC, dI) zCl (MW cI cZ cA o b P S_72) H → va_D A (MW cI cZ cA o b P S_72) → va_S A s.heap H locs → lv_has ls 12 [(0, .ref (o 0)), (1, .int x72_1), (2, .int x72_2), (3, .int x72_3)] → W p l e ({ frames := 1, cells := 0, slots := 0, locals := 24 } : Room) s m ([.ref (o 0), .int x0, .int x1, .int x2] : List Value).toArray below meth c H locs 0 0 Q (F0 m 72 ls [.int y72_0, .ref (o 0)]) := by
      intro H locs ls S_72 x72_1 x72_2 x72_3 y72_0 r_y72_0 gS_72 cd72_0 cd72_1 cd72_2 cd72_3 E hP hD hS hl
      unfold fMO_send_72 at E
      have hL92 : ∀ (n92 : Nat) (H : Heap) (locs : List Loc) (ls : Array Slot) (S_92 : ZS) (x92_1 : Int32) (x92_2 : Int32) (x92_3 : Int32) (x92_5 : Int32), zr 0 63 x92_1 → zr 0 63 x92_2 → zr 0 3 x92_3 → zr 0 120 x92_5 → mok S_92 → zr 0 47 (S_92.F 22 (x92_1 : Int32).toNatClampNeg) → 120 + 1 - x92_5.toInt ≤ (n92 : Int) → tg = zfix (fun S9 _ _ _ _ => (S9, 0)) (fMO_send_92 P) n92 S_92 x92_1 x92_2 x92_3 x92_5 → va_P (dC, dI) zCl (MW cI cZ cA o b P S_92) H → va_D A (MW cI cZ cA o b P S_92) → va_S A s.heap H locs → lv_has ls 12 [(0, .ref (o 0)), (1, .int x92_1), (2, .int x92_2), (3, .int x92_3), (5, .int x92_5)] → W p l e ({ frames := 1, cells := 0, slots := 0, locals := 24 } : Room) s m ([.ref (o 0), .int x0, .int x1, .int x2] : List Value).toArray below meth c H locs 0 0 Q (F0 m 92 ls []) := by
        intro n92
        induction n92 with
        | zero => intro H locs ls S_92 x92_1 x92_2 x92_3 x92_5 r_x92_1 r_x92_2 r_x92_3 r_x92_5 gS_92 wf92_0 hm92 E hP hD hS hl; exact absurd hm92 (zfuel0U r_x92_5)
        | succ n92 ih92 =>
          intro H locs ls S_92 x92_1 x92_2 x92_3 x92_5 r_x92_1 r_x92_2 r_x92_3 r_x92_5 gS_92 wf92_0 hm92 E hP hD hS hl
          rw [zfix_s] at E
          generalize zfix (fun S9 _ _ _ _ => (S9, 0)) (fMO_send_92 P) n92 = rc92 at ih92 E
          unfold fMO_send_92 at E
          have hL141 : ∀ (n141 : Nat) (H : Heap) (locs : List Loc) (ls : Array Slot) (S_141 : ZS) (x141_1 : Int32) (x141_2 : Int32) (x141_3 : Int32) (x141_5 : Int32) (x141_6 : Int32) (x141_7 : Int32), zr 0 63 x141_1 → zr 0 63 x141_2 → zr 0 3 x141_3 → zr 1 4096 x141_6 → zr 0 4096 x141_7 → mok S_141 → zr 0 47 (S_141.F 22 (x141_1 : Int32).toNatClampNeg) → 4096 + 1 - x141_7.toInt ≤ (n141 : Int) → tg = zfix (fun S9 _ _ _ _ _ _ => (S9, 0)) (fMO_send_141 P) n141 S_141 x141_1 x141_2 x141_3 x141_5 x141_6 x141_7 → va_P (dC, dI) zCl (MW cI cZ cA o b P S_141) H → va_D A (MW cI cZ cA o b P S_141) → va_S A s.heap H locs → lv_has ls 12 [(0, .ref (o 0)), (1, .int x141_1), (2, .int x141_2), (3, .int x141_3), (5, .int x141_5), (6, .int x141_6), (7, .int x141_7)] → W p l e ({ frames := 1, cells := 0, slots := 0, locals := 24 } : Room) s m ([.ref (o 0), .int x0, .int x1, .int x2] : List Value).toArray below meth c H locs 0 0 Q (F0 m 141 ls []) := by
            intro n141
            induction n141 with
            | zero => intro H locs ls S_141 x141_1 x141_2 x141_3 x141_5 x141_6 x141_7 r_x141_1 r_x141_2 r_x141_3 r_x141_6 r_x141_7 gS_141 wf141_0 hm141 E hP hD hS hl; exact absurd hm141 (zfuel0U r_x141_7)
            | succ n141 ih141 =>
              intro H locs ls S_141 x141_1 x141_2 x141_3 x141_5 x141_6 x141_7 r_x141_1 r_x141_2 r_x141_3 r_x141_6 r_x141_7 gS_141 wf141_0 hm141 E hP hD hS hl
              rw [zfix_s] at E
              generalize zfix (fun S9 _ _ _ _ _ _ => (S9, 0)) (fMO_send_141 P) n141 = rc141 at ih141 E
              unfold fMO_send_141 at E
              have hJ215 : ∀ (H : Heap) (locs : List Loc) (ls : Array Slot) (S_215 : ZS) (x215_1 : Int32) (x215_2 : Int32) (x215_3 : Int32) (x215_5 : Int32) (x215_6 : Int32) (x215_7 : Int32) (x215_8 : Int32), zr 0 63 x215_1 → zr 0 63 x215_2 → zr 0 3 x215_3 → zr 1 4096 x215_6 → zr 0 4095 x215_7 → zr 0 47 x215_8 → mok S_215 → 4096 + 1 - x215_7.toInt ≤ ((n141 + 1 : Nat) : Int) → zr 0 47 (S_215.F 22 (x215_1 : Int32).toNatClampNeg) → tg = fMO_send_215 P rc141 S_215 x215_1 x215_2 x215_3 x215_5 x215_6 x215_7 x215_8 → va_P (dC, dI) zCl (MW cI cZ cA o b P S_215) H → va_D A (MW cI cZ cA o b P S_215) → va_S A s.heap H locs → lv_has ls 12 [(0, .ref (o 0)), (1, .int x215_1), (2, .int x215_2), (3, .int x215_3), (5, .int x215_5), (6, .int x215_6), (7, .int x215_7), (8, .int x215_8)] → W p l e ({ frames := 1, cells := 0, slots := 0, locals := 24 } : Room) s m ([.ref (o 0), .int x0, .int x1, .int x2] : List Value).toArray below meth c H locs 0 0 Q (F0 m 215 ls []) := by
                intro H locs ls S_215 x215_1 x215_2 x215_3 x215_5 x215_6 x215_7 x215_8 r_x215_1 r_x215_2 r_x215_3 r_x215_6 r_x215_7 r_x215_8 gS_215 hm141_215 wf215_0 E hP hD hS hl
                unfold fMO_send_215 at E
                have hJ243 : ∀ (H : Heap) (locs : List Loc) (ls : Array Slot) (S_243 : ZS) (x243_1 : Int32) (x243_2 : Int32) (x243_3 : Int32) (x243_6 : Int32) (x243_7 : Int32) (x243_8 : Int32) (x243_9 : Int32) (y243_0 : Int32) (y243_1 : Int32), zr 0 63 x243_1 → zr 0 63 x243_2 → zr 0 3 x243_3 → zr 1 4096 x243_6 → zr 0 4095 x243_7 → zr 0 47 x243_8 → zr 0 1 y243_0 → mok S_243 → 4096 + 1 - x243_7.toInt ≤ ((n141 + 1 : Nat) : Int) → (y243_0 = 0 ∨ zr 0 47 (S_243.F 22 (x243_1 : Int32).toNatClampNeg)) → (y243_0 = 1 ∨ zr 0 47 (S_243.F 22 (x243_1 : Int32).toNatClampNeg)) → zr 0 47 (S_243.F 22 (x243_1 : Int32).toNatClampNeg) → tg = fMO_send_243 P rc141 S_243 x243_1 x243_2 x243_3 x243_6 x243_7 x243_8 x243_9 y243_0 y243_1 → va_P (dC, dI) zCl (MW cI cZ cA o b P S_243) H → va_D A (MW cI cZ cA o b P S_243) → va_S A s.heap H locs → lv_has ls 12 [(0, .ref (o 0)), (1, .int x243_1), (2, .int x243_2), (3, .int x243_3), (6, .int x243_6), (7, .int x243_7), (8, .int x243_8), (9, .int x243_9)] → W p l e ({ frames := 1, cells := 0, slots := 0, locals := 24 } : Room) s m ([.ref (o 0), .int x0, .int x1, .int x2] : List Value).toArray below meth c H locs 0 0 Q (F0 m 243 ls [.int y243_0, .int y243_1]) := by
                  intro H locs ls S_243 x243_1 x243_2 x243_3 x243_6 x243_7 x243_8 x243_9 y243_0 y243_1 r_x243_1 r_x243_2 r_x243_3 r_x243_6 r_x243_7 r_x243_8 r_y243_0 gS_243 hm141_243 cd243_0 cd243_1 wf243_0 E hP hD hS hl
                  unfold fMO_send_243 at E
                  have hL249 : ∀ (n249 : Nat) (H : Heap) (locs : List Loc) (ls : Array Slot) (S_249 : ZS) (x249_1 : Int32) (x249_2 : Int32) (x249_3 : Int32) (x249_5 : Int32) (x249_6 : Int32) (x249_7 : Int32) (x249_8 : Int32) (x249_9 : Int32) (x249_10 : Int32), zr 0 63 x249_1 → zr 0 63 x249_2 → zr 0 3 x249_3 → zr 1 4096 x249_6 → zr 0 4095 x249_7 → zr 0 47 x249_8 → zr 0 60 x249_10 → mok S_249 → 4096 + 1 - x249_7.toInt ≤ ((n141 + 1 : Nat) : Int) → zr 0 47 (S_249.F 22 (x249_1 : Int32).toNatClampNeg) → 60 + 1 - x249_10.toInt ≤ (n249 : Int) → tg = zfix (fun S9 _ _ _ _ _ _ _ _ _ => (S9, 0)) (fMO_send_249 P rc141) n249 S_249 x249_1 x249_2 x249_3 x249_5 x249_6 x249_7 x249_8 x249_9 x249_10 → va_P (dC, dI) zCl (MW cI cZ cA o b P S_249) H → va_D A (MW cI cZ cA o b P S_249) → va_S A s.heap H locs → lv_has ls 12 [(0, .ref (o 0)), (1, .int x249_1), (2, .int x249_2), (3, .int x249_3), (5, .int x249_5), (6, .int x249_6), (7, .int x249_7), (8, .int x249_8), (9, .int x249_9), (10, .int x249_10)] → W p l e ({ frames := 1, cells := 0, slots := 0, locals := 24 } : Room) s m ([.ref (o 0), .int x0, .int x1, .int x2] : List Value).toArray below meth c H locs 0 0 Q (F0 m 249 ls []) := by
                    intro n249
                    induction n249 with
                    | zero => intro H locs ls S_249 x249_1 x249_2 x249_3 x249_5 x249_6 x249_7 x249_8 x249_9 x249_10 r_x249_1 r_x249_2 r_x249_3 r_x249_6 r_x249_7 r_x249_8 r_x249_10 gS_249 hm141_249 wf249_0 hm249 E hP hD hS hl; exact absurd hm249 (zfuel0U r_x249_10)
                    | succ n249 ih249 =>
                      intro H locs ls S_249 x249_1 x249_2 x249_3 x249_5 x249_6 x249_7 x249_8 x249_9 x249_10 r_x249_1 r_x249_2 r_x249_3 r_x249_6 r_x249_7 r_x249_8 r_x249_10 gS_249 hm141_249 wf249_0 hm249 E hP hD hS hl
                      rw [zfix_s] at E
                      generalize zfix (fun S9 _ _ _ _ _ _ _ _ _ => (S9, 0)) (fMO_send_249 P rc141) n249 = rc249 at ih249 E
                      unfold fMO_send_249 at E
                      have hJ428 : ∀ (H : Heap) (locs : List Loc) (ls : Array Slot) (S_428 : ZS) (x428_1 : Int32) (x428_2 : Int32) (x428_3 : Int32) (x428_5 : Int32) (x428_6 : Int32) (x428_7 : Int32), zr 0 63 x428_1 → zr 0 63 x428_2 → zr 0 3 x428_3 → zr 1 4096 x428_6 → zr 0 4095 x428_7 → mok S_428 → 4096 + 1 - x428_7.toInt ≤ ((n141 + 1 : Nat) : Int) → zr 0 47 (S_428.F 22 (x428_1 : Int32).toNatClampNeg) → tg = fMO_send_428 P rc141 S_428 x428_1 x428_2 x428_3 x428_5 x428_6 x428_7 → va_P (dC, dI) zCl (MW cI cZ cA o b P S_428) H → va_D A (MW cI cZ cA o b P S_428) → va_S A s.heap H locs → lv_has ls 12 [(0, .ref (o 0)), (1, .int x428_1), (2, .int x428_2), (3, .int x428_3), (5, .int x428_5), (6, .int x428_6), (7, .int x428_7)] → W p l e ({ frames := 1, cells := 0, slots := 0, locals := 24 } : Room) s m ([.ref (o 0), .int x0, .int x1, .int x2] : List Value).toArray below meth c H locs 0 0 Q (F0 m 428 ls []) := by
                        intro H locs ls S_428 x428_1 x428_2 x428_3 x428_5 x428_6 x428_7 r_x428_1 r_x428_2 r_x428_3 r_x428_6 r_x428_7 gS_428 hm141_428 wf428_0 E hP hD hS hl
                        unfold fMO_send_428 at E
                        refine z_iinc (lv' := fun v9 => [(7, .int v9), (0, .ref (o 0)), (1, .int x428_1), (2, .int x428_2), (3, .int x428_3), (5, .int x428_5), (6, .int x428_6)]) (cst := 1) hx hb dMO_send_428 hl (k := 6) rfl (by decide) (by decide) (fun _ => rfl) E (fun k1 ls ek1 E hl => ?_)
                        have r_k1 : zr 1 4096 k1 := zr_add r_x428_7 (show zr 1 1 1 from by decide) ek1 (by decide)
                        refine lv_goto (tgt := 141) hx hb dMO_send_431 (by decide) ?_
                        exact ih141 H locs ls S_428 x428_1 x428_2 x428_3 x428_5 x428_6 k1 r_x428_1 r_x428_2 r_x428_3 r_x428_6 (zr_mono r_k1 (by decide)) gS_428 (wf428_0) (zstepU ek1 r_x428_7 (by decide) hm141_428) E hP hD hS (lv_sub hl [1, 2, 3, 4, 5, 6, 0] rfl)
                      have hJ299 : ∀ (H : Heap) (locs : List Loc) (ls : Array Slot) (S_299 : ZS) (x299_1 : Int32) (x299_2 : Int32) (x299_3 : Int32) (x299_5 : Int32) (x299_6 : Int32) (x299_7 : Int32) (x299_8 : Int32) (x299_9 : Int32) (x299_10 : Int32) (y299_0 : Int32), zr 0 63 x299_1 → zr 0 63 x299_2 → zr 0 3 x299_3 → zr 1 4096 x299_6 → zr 0 4095 x299_7 → zr 0 47 x299_8 → zr 0 59 x299_10 → zr 0 1 y299_0 → mok S_299 → 4096 + 1 - x299_7.toInt ≤ ((n141 + 1 : Nat) : Int) → 60 + 1 - x299_10.toInt ≤ ((n249 + 1 : Nat) : Int) → (y299_0 = 0 ∨ zr (-1) 59 (x299_9)) → (y299_0 = 0 ∨ zr 0 47 (S_299.F 22 (x299_1 : Int32).toNatClampNeg)) → (y299_0 = 1 ∨ zr 0 47 (S_299.F 22 (x299_1 : Int32).toNatClampNeg)) → zr 0 47 (S_299.F 22 (x299_1 : Int32).toNatClampNeg) → tg = fMO_send_299 P rc141 rc249 S_299 x299_1 x299_2 x299_3 x299_5 x299_6 x299_7 x299_8 x299_9 x299_10 y299_0 → va_P (dC, dI) zCl (MW cI cZ cA o b P S_299) H → va_D A (MW cI cZ cA o b P S_299) → va_S A s.heap H locs → lv_has ls 12 [(0, .ref (o 0)), (1, .int x299_1), (2, .int x299_2), (3, .int x299_3), (5, .int x299_5), (6, .int x299_6), (7, .int x299_7), (8, .int x299_8), (9, .int x299_9), (10, .int x299_10)] → W p l e ({ frames := 1, cells := 0, slots := 0, locals := 24 } : Room) s m ([.ref (o 0), .int x0, .int x1, .int x2] : List Value).toArray below meth c H locs 0 0 Q (F0 m 299 ls [.int y299_0]) := by
                        intro H locs ls S_299 x299_1 x299_2 x299_3 x299_5 x299_6 x299_7 x299_8 x299_9 x299_10 y299_0 r_x299_1 r_x299_2 r_x299_3 r_x299_6 r_x299_7 r_x299_8 r_x299_10 r_y299_0 gS_299 hm141_299 hm249_299 cd299_0 cd299_1 cd299_2 wf299_0 E hP hD hS hl
                        unfold fMO_send_299 at E
                        have hJ422 : ∀ (H : Heap) (locs : List Loc) (ls : Array Slot) (S_422 : ZS) (x422_1 : Int32) (x422_2 : Int32) (x422_3 : Int32) (x422_5 : Int32) (x422_6 : Int32) (x422_7 : Int32) (x422_8 : Int32) (x422_9 : Int32) (x422_10 : Int32), zr 0 63 x422_1 → zr 0 63 x422_2 → zr 0 3 x422_3 → zr 1 4096 x422_6 → zr 0 4095 x422_7 → zr 0 47 x422_8 → zr 0 59 x422_10 → mok S_422 → 4096 + 1 - x422_7.toInt ≤ ((n141 + 1 : Nat) : Int) → 60 + 1 - x422_10.toInt ≤ ((n249 + 1 : Nat) : Int) → zr 0 47 (S_422.F 22 (x422_1 : Int32).toNatClampNeg) → tg = fMO_send_422 P rc141 rc249 S_422 x422_1 x422_2 x422_3 x422_5 x422_6 x422_7 x422_8 x422_9 x422_10 → va_P (dC, dI) zCl (MW cI cZ cA o b P S_422) H → va_D A (MW cI cZ cA o b P S_422) → va_S A s.heap H locs → lv_has ls 12 [(0, .ref (o 0)), (1, .int x422_1), (2, .int x422_2), (3, .int x422_3), (5, .int x422_5), (6, .int x422_6), (7, .int x422_7), (8, .int x422_8), (9, .int x422_9), (10, .int x422_10)] → W p l e ({ frames := 1, cells := 0, slots := 0, locals := 24 } : Room) s m ([.ref (o 0), .int x0, .int x1, .int x2] : List Value).toArray below meth c H locs 0 0 Q (F0 m 422 ls []) := by
                          intro H locs ls S_422 x422_1 x422_2 x422_3 x422_5 x422_6 x422_7 x422_8 x422_9 x422_10 r_x422_1 r_x422_2 r_x422_3 r_x422_6 r_x422_7 r_x422_8 r_x422_10 gS_422 hm141_422 hm249_422 wf422_0 E hP hD hS hl
                          unfold fMO_send_422 at E
                          refine z_iinc (lv' := fun v9 => [(10, .int v9), (0, .ref (o 0)), (1, .int x422_1), (2, .int x422_2), (3, .int x422_3), (5, .int x422_5), (6, .int x422_6), (7, .int x422_7), (8, .int x422_8), (9, .int x422_9)]) (cst := 1) hx hb dMO_send_422 hl (k := 9) rfl (by decide) (by decide) (fun _ => rfl) E (fun k2 ls ek2 E hl => ?_)
                          have r_k2 : zr 1 60 k2 := zr_add r_x422_10 (show zr 1 1 1 from by decide) ek2 (by decide)
                          refine lv_goto (tgt := 249) hx hb dMO_send_425 (by decide) ?_
                          exact ih249 H locs ls S_422 x422_1 x422_2 x422_3 x422_5 x422_6 x422_7 x422_8 x422_9 k2 r_x422_1 r_x422_2 r_x422_3 r_x422_6 r_x422_7 r_x422_8 (zr_mono r_k2 (by decide)) gS_422 hm141_422 (wf422_0) (zstepU ek2 r_x422_10 (by decide) hm249_422) E hP hD hS (lv_sub hl [1, 2, 3, 4, 5, 6, 7, 8, 9, 0] rfl)
                        have hJ419 : ∀ (H : Heap) (locs : List Loc) (ls : Array Slot) (S_419 : ZS) (x419_1 : Int32) (x419_2 : Int32) (x419_3 : Int32) (x419_5 : Int32) (x419_6 : Int32) (x419_7 : Int32) (x419_8 : Int32) (x419_9 : Int32) (x419_10 : Int32) (y419_0 : Int32), zr 0 63 x419_1 → zr 0 63 x419_2 → zr 0 3 x419_3 → zr 2 4096 x419_6 → zr 0 4095 x419_7 → zr 0 47 x419_8 → zr (-1) 59 x419_9 → zr 0 59 x419_10 → mok S_419 → 4096 + 1 - x419_7.toInt ≤ ((n141 + 1 : Nat) : Int) → 60 + 1 - x419_10.toInt ≤ ((n249 + 1 : Nat) : Int) → zr 0 47 (S_419.F 22 (x419_1 : Int32).toNatClampNeg) → tg = fMO_send_419 P rc141 rc249 S_419 x419_1 x419_2 x419_3 x419_5 x419_6 x419_7 x419_8 x419_9 x419_10 y419_0 → va_P (dC, dI) zCl (MW cI cZ cA o b P S_419) H → va_D A (MW cI cZ cA o b P S_419) → va_S A s.heap H locs → lv_has ls 12 [(0, .ref (o 0)), (1, .int x419_1), (2, .int x419_2), (3, .int x419_3), (5, .int x419_5), (6, .int x419_6), (7, .int x419_7), (8, .int x419_8), (9, .int x419_9), (10, .int x419_10)] → W p l e ({ frames := 1, cells := 0, slots := 0, locals := 24 } : Room) s m ([.ref (o 0), .int x0, .int x1, .int x2] : List Value).toArray below meth c H locs 0 0 Q (F0 m 419 ls [.int y419_0, .ref (o 0)]) := by
                          intro H locs ls S_419 x419_1 x419_2 x419_3 x419_5 x419_6 x419_7 x419_8 x419_9 x419_10 y419_0 r_x419_1 r_x419_2 r_x419_3 r_x419_6 r_x419_7 r_x419_8 r_x419_9 r_x419_10 gS_419 hm141_419 hm249_419 wf419_0 E hP hD hS hl
                          unfold fMO_send_419 at E
                          refine m_put_6 hx hb (hB.words zU_MO) hown hK hP hD hS (hB.word (zm4 k4_153) rfl) dMO_send_419 E (fun S3 H4 locs eS3 E hP hD hS => ?_)
                          have gS3 : mok S3 := by rw [eS3]; exact gS_419.setI (t := 6) (zr_any y419_0)
                          exact hJ422 H4 locs ls S3 x419_1 x419_2 x419_3 x419_5 x419_6 x419_7 x419_8 x419_9 x419_10 r_x419_1 r_x419_2 r_x419_3 (zr_mono r_x419_6 (by decide)) r_x419_7 r_x419_8 r_x419_10 gS3 hm141_419 hm249_419 ((by rw [eS3]; exact wf419_0)) E hP hD hS (lv_sub hl [0, 1, 2, 3, 4, 5, 6, 7, 8, 9] rfl)
                        refine lv_istore (lv' := [(11, .int y299_0), (0, .ref (o 0)), (1, .int x299_1), (2, .int x299_2), (3, .int x299_3), (5, .int x299_5), (6, .int x299_6), (7, .int x299_7), (8, .int x299_8), (9, .int x299_9), (10, .int x299_10)]) hx hb dMO_send_299 hl (by decide) rfl (fun ls hl => ?_)
                        refine lv_iload hx hb dMO_send_301 (lv_at hl 0 rfl) ?_
                        refine z_if_eq (tgt := 422) hx hb dMO_send_303 (by decide) E (fun c_303 E => ?_) (fun c_303 E => ?_)
                        · have r_y299_0 : zr 0 0 y299_0 := zeq_x (show zr 0 0 0 from by decide) c_303
                          have f5 : zr 0 47 (S_299.F 22 (x299_1 : Int32).toNatClampNeg) := (cd299_2).resolve_left (zrne r_y299_0 (by decide))
                          exact hJ422 H locs ls S_299 x299_1 x299_2 x299_3 x299_5 x299_6 x299_7 x299_8 x299_9 x299_10 r_x299_1 r_x299_2 r_x299_3 r_x299_6 r_x299_7 r_x299_8 r_x299_10 gS_299 hm141_299 hm249_299 (f5) E hP hD hS (lv_sub hl [1, 2, 3, 4, 5, 6, 7, 8, 9, 10] rfl)
                        · have r_y299_0 : zr 1 1 y299_0 := zne_lo r_y299_0 c_303 (by decide)
                          have r_x299_9 : zr (-1) 59 x299_9 := (cd299_0).resolve_left (zrne r_y299_0 (by decide))
                          have f6 : zr 0 47 (S_299.F 22 (x299_1 : Int32).toNatClampNeg) := (cd299_1).resolve_left (zrne r_y299_0 (by decide))
                          refine lv_aload_n hx hb dMO_send_306 rfl (lv_at hl 1 rfl) ?_
                          refine lv_iload hx hb dMO_send_307 (lv_at hl 8 rfl) ?_
                          refine lv_iload hx hb dMO_send_309 (lv_at hl 10 rfl) ?_
                          refine zcallp (va_runV (As := [.int x299_8, .int x299_10]) (rest := []) ⟨hx, hb, hml, hown, zno⟩ (tMO_isEnd l dC dI cI cZ cJ cA a0 s0 o b P S_299 H.size x299_8 x299_10 gP gS_299 r_x299_10) (zcw 2 (hB.word (zm5 k5_80) rfl) (hB.word (zm1 k1_9) rfl) (hB.word (zm5 k5_77) rfl) (hB.word (zm5 k5_79) rfl) (k2_selects_private (by decide) (hB.word (zm4 k4_109) rfl) (hB.word (zm5 k5_78) rfl) (hB.word (zm5 k5_79) rfl)) rfl rfl (by decide +kernel) ⟨Nat.le_of_ble_eq_true rfl, Nat.le_of_ble_eq_true rfl⟩) ⟨zP_blind, va_recv hK hP (ci := 7) (q0 := 0) rfl rfl, zP_pre hP hK hD hAD (zB_on hB hA0 hS)⟩ rfl rfl hl.1 rfl (lv_room (Nat.le_of_ble_eq_true rfl)) dMO_send_311 ⟨Nat.le_of_ble_eq_true rfl, Nat.le_of_ble_eq_true rfl⟩) hS hA (fun k8 H7 locs hk8 hz1 hk1 hS => ?_)
                          have hP := zKeep hP hk1
                          have E := zl_s E hk8.1
                          refine z_if_eq (tgt := 422) hx hb dMO_send_314 (by decide) E (fun c_314 E => ?_) (fun c_314 E => ?_)
                          · have r_k8 : zr 0 0 k8 := zeq_x (show zr 0 0 0 from by decide) c_314
                            exact hJ422 H7 locs ls S_299 x299_1 x299_2 x299_3 x299_5 x299_6 x299_7 x299_8 x299_9 x299_10 r_x299_1 r_x299_2 r_x299_3 r_x299_6 r_x299_7 r_x299_8 r_x299_10 gS_299 hm141_299 hm249_299 (f6) E hP hD hS (lv_sub hl [1, 2, 3, 4, 5, 6, 7, 8, 9, 10] rfl)
                          · have r_k8 : zr 1 1 k8 := zne_lo hk8.2 c_314 (by decide)
                            refine lv_aload_n hx hb dMO_send_317 rfl (lv_at hl 1 rfl) ?_
                            refine lv_iload hx hb dMO_send_318 (lv_at hl 10 rfl) ?_
                            refine zcallp (va_runV (As := [.int x299_10]) (rest := []) ⟨hx, hb, hml, hown, zno⟩ (tMO_isOpen l dC dI cI cZ cJ cA a0 s0 o b P S_299 H7.size x299_10 gP gS_299 r_x299_10) (zcw 1 (hB.word (zm5 k5_147) rfl) (hB.word (zm1 k1_9) rfl) (hB.word (zm5 k5_144) rfl) (hB.word (zm5 k5_146) rfl) (k2_selects_private (by decide) (hB.word (zm4 k4_109) rfl) (hB.word (zm5 k5_145) rfl) (hB.word (zm5 k5_146) rfl)) rfl rfl (by decide +kernel) ⟨Nat.le_of_ble_eq_true rfl, Nat.le_of_ble_eq_true rfl⟩) ⟨zP_blind, va_recv hK hP (ci := 7) (q0 := 0) rfl rfl, zP_pre hP hK hD hAD (zB_on hB hA0 hS)⟩ rfl rfl hl.1 rfl (lv_room (Nat.le_of_ble_eq_true rfl)) dMO_send_320 ⟨Nat.le_of_ble_eq_true rfl, Nat.le_of_ble_eq_true rfl⟩) hS hA (fun k10 H9 locs hk10 hz1 hk1 hS => ?_)
                            have hP := zKeep hP hk1
                            have E := zl_s E hk10.1
                            refine z_if_eq (tgt := 422) hx hb dMO_send_323 (by decide) E (fun c_323 E => ?_) (fun c_323 E => ?_)
                            · have r_k10 : zr 0 0 k10 := zeq_x (show zr 0 0 0 from by decide) c_323
                              exact hJ422 H9 locs ls S_299 x299_1 x299_2 x299_3 x299_5 x299_6 x299_7 x299_8 x299_9 x299_10 r_x299_1 r_x299_2 r_x299_3 r_x299_6 r_x299_7 r_x299_8 r_x299_10 gS_299 hm141_299 hm249_299 (f6) E hP hD hS (lv_sub hl [1, 2, 3, 4, 5, 6, 7, 8, 9, 10] rfl)
                            · have r_k10 : zr 1 1 k10 := zne_lo hk10.2 c_323 (by decide)
                              refine lv_iload hx hb dMO_send_326 (lv_at hl 6 rfl) ?_
                              refine lv_sipush (v := 4096) hx hb dMO_send_328 (by decide) ?_
                              refine z_icmp_ge (tgt := 422) hx hb dMO_send_331 (by decide) E (fun c_331 E => ?_) (fun c_331 E => ?_)
                              · have r_x299_6 : zr 4096 4096 x299_6 := zle_y (show zr 4096 4096 4096 from by decide) r_x299_6 c_331 (by decide)
                                exact hJ422 H9 locs ls S_299 x299_1 x299_2 x299_3 x299_5 x299_6 x299_7 x299_8 x299_9 x299_10 r_x299_1 r_x299_2 r_x299_3 (zr_mono r_x299_6 (by decide)) r_x299_7 r_x299_8 r_x299_10 gS_299 hm141_299 hm249_299 (f6) E hP hD hS (lv_sub hl [1, 2, 3, 4, 5, 6, 7, 8, 9, 10] rfl)
                              · have r_x299_6 : zr 1 4095 x299_6 := zlt_x r_x299_6 (show zr 4096 4096 4096 from by decide) (znle c_331) (by decide)
                                refine lv_aload_n hx hb dMO_send_334 rfl (lv_at hl 1 rfl) ?_
                                refine m_getA_35 hx hb (hB.words zU_MO) hown hK hP (hB.word (zm4 k4_160) rfl) dMO_send_335 ?_
                                refine lv_iload hx hb dMO_send_338 (lv_at hl 6 rfl) ?_
                                refine lv_aload_n hx hb dMO_send_340 rfl (lv_at hl 1 rfl) ?_
                                refine lv_iload hx hb dMO_send_341 (lv_at hl 8 rfl) ?_
                                refine lv_iload hx hb dMO_send_343 (lv_at hl 10 rfl) ?_
                                refine zcallp (va_runV (As := [.int x299_8, .int x299_10]) (rest := [.int x299_6, .ref (b 35)]) ⟨hx, hb, hml, hown, zno⟩ (tMO_other l dC dI cI cZ cJ cA a0 s0 o b P S_299 H9.size x299_8 x299_10 gP gS_299 r_x299_10) (zcw 2 (hB.word (zm5 k5_239) rfl) (hB.word (zm1 k1_9) rfl) (hB.word (zm5 k5_236) rfl) (hB.word (zm5 k5_238) rfl) (k2_selects_private (by decide) (hB.word (zm4 k4_109) rfl) (hB.word (zm5 k5_237) rfl) (hB.word (zm5 k5_238) rfl)) rfl rfl (by decide +kernel) ⟨Nat.le_of_ble_eq_true rfl, Nat.le_of_ble_eq_true rfl⟩) ⟨zP_blind, va_recv hK hP (ci := 7) (q0 := 0) rfl rfl, zP_pre hP hK hD hAD (zB_on hB hA0 hS)⟩ rfl rfl hl.1 rfl (lv_room (Nat.le_of_ble_eq_true rfl)) dMO_send_345 ⟨Nat.le_of_ble_eq_true rfl, Nat.le_of_ble_eq_true rfl⟩) hS hA (fun k12 H11 locs hk12 hz1 hk1 hS => ?_)
                                have hP := zKeep hP hk1
                                have E := zl_s E hk12.1
                                refine m_astS hx hb hK hP hD hS 35 (by decide) rfl r_x299_6 (by decide) dMO_send_348 E (fun S13 H14 locs eS13 E hP hD hS => ?_)
                                have gS13 : mok S13 := by rw [eS13]; exact gS_299.setF (k := 35) hk12.2 (Or.inl (by decide))
                                refine lv_aload_n hx hb dMO_send_349 rfl (lv_at hl 1 rfl) ?_
                                refine m_getA_36 hx hb (hB.words zU_MO) hown hK hP (hB.word (zm4 k4_161) rfl) dMO_send_350 ?_
                                refine lv_iload hx hb dMO_send_353 (lv_at hl 6 rfl) ?_
                                refine lv_iload hx hb dMO_send_355 (lv_at hl 10 rfl) ?_
                                refine m_astS hx hb hK hP hD hS 36 (by decide) rfl r_x299_6 (by decide) dMO_send_357 E (fun S15 H16 locs eS15 E hP hD hS => ?_)
                                have gS15 : mok S15 := by rw [eS15]; exact gS13.setF (k := 36) (zr_mono r_x299_10 (by decide)) (Or.inl (by decide))
                                refine z_iinc (lv' := fun v9 => [(6, .int v9), (11, .int y299_0), (0, .ref (o 0)), (1, .int x299_1), (2, .int x299_2), (3, .int x299_3), (5, .int x299_5), (7, .int x299_7), (8, .int x299_8), (9, .int x299_9), (10, .int x299_10)]) (cst := 1) hx hb dMO_send_358 hl (k := 6) rfl (by decide) (by decide) (fun _ => rfl) E (fun k17 ls ek17 E hl => ?_)
                                have r_k17 : zr 2 4096 k17 := zr_add r_x299_6 (show zr 1 1 1 from by decide) ek17 (by decide)
                                refine lv_aload_n hx hb dMO_send_361 rfl (lv_at hl 2 rfl) ?_
                                refine m_getA_37 hx hb (hB.words zU_MO) hown hK hP (hB.word (zm4 k4_166) rfl) dMO_send_362 ?_
                                refine lv_aload_n hx hb dMO_send_365 rfl (lv_at hl 2 rfl) ?_
                                refine lv_iload hx hb dMO_send_366 (lv_at hl 8 rfl) ?_
                                refine lv_iload hx hb dMO_send_368 (lv_at hl 10 rfl) ?_
                                refine zcallp (va_runV (As := [.int x299_8, .int x299_10]) (rest := [.ref (b 37)]) ⟨hx, hb, hml, hown, zno⟩ (tMO_end l dC dI cI cZ cJ cA a0 s0 o b P S15 H16.size x299_8 x299_10 gP gS15 r_x299_10) (zcw 2 (hB.word (zm5 k5_112) rfl) (hB.word (zm1 k1_9) rfl) (hB.word (zm5 k5_109) rfl) (hB.word (zm5 k5_111) rfl) (k2_selects_private (by decide) (hB.word (zm4 k4_109) rfl) (hB.word (zm5 k5_110) rfl) (hB.word (zm5 k5_111) rfl)) rfl rfl (by decide +kernel) ⟨Nat.le_of_ble_eq_true rfl, Nat.le_of_ble_eq_true rfl⟩) ⟨zP_blind, va_recv hK hP (ci := 7) (q0 := 0) rfl rfl, zP_pre hP hK hD hAD (zB_on hB hA0 hS)⟩ rfl rfl hl.1 rfl (lv_room (Nat.le_of_ble_eq_true rfl)) dMO_send_370 ⟨Nat.le_of_ble_eq_true rfl, Nat.le_of_ble_eq_true rfl⟩) hS hA (fun k19 H18 locs hk19 hz1 hk1 hS => ?_)
                                have hP := zKeep hP hk1
                                have E := zl_s E hk19.1
                                refine lv_dup2_11 hx hb dMO_send_373 rfl rfl ?_
                                refine m_aldS hx hb hK hP 37 (by decide) rfl hk19.2 (by decide) dMO_send_374 E (fun k20 ek20 E => ?_)
                                refine lv_iconst (v := 1) hx hb dMO_send_375 (by decide) ?_
                                refine z_iadd hx hb dMO_send_376 E (fun k21 ek21 E => ?_)
                                refine m_astS hx hb hK hP hD hS 37 (by decide) rfl hk19.2 (by decide) dMO_send_377 E (fun S22 H23 locs eS22 E hP hD hS => ?_)
                                have gS22 : mok S22 := by rw [eS22]; exact gS15.setF (k := 37) (zr_any k21) (Or.inl (by decide))
                                refine lv_aload_n hx hb dMO_send_378 rfl (lv_at hl 2 rfl) ?_
                                refine lv_aload_n hx hb dMO_send_379 rfl (lv_at hl 2 rfl) ?_
                                refine m_getA_37 hx hb (hB.words zU_MO) hown hK hP (hB.word (zm4 k4_166) rfl) dMO_send_380 ?_
                                refine lv_aload_n hx hb dMO_send_383 rfl (lv_at hl 2 rfl) ?_
                                refine lv_iload hx hb dMO_send_384 (lv_at hl 8 rfl) ?_
                                refine lv_iload hx hb dMO_send_386 (lv_at hl 10 rfl) ?_
                                refine zcallp (va_runV (As := [.int x299_8, .int x299_10]) (rest := [.ref (b 37), .ref (o 0)]) ⟨hx, hb, hml, hown, zno⟩ (tMO_end l dC dI cI cZ cJ cA a0 s0 o b P S22 H23.size x299_8 x299_10 gP gS22 r_x299_10) (zcw 2 (hB.word (zm5 k5_112) rfl) (hB.word (zm1 k1_9) rfl) (hB.word (zm5 k5_109) rfl) (hB.word (zm5 k5_111) rfl) (k2_selects_private (by decide) (hB.word (zm4 k4_109) rfl) (hB.word (zm5 k5_110) rfl) (hB.word (zm5 k5_111) rfl)) rfl rfl (by decide +kernel) ⟨Nat.le_of_ble_eq_true rfl, Nat.le_of_ble_eq_true rfl⟩) ⟨zP_blind, va_recv hK hP (ci := 7) (q0 := 0) rfl rfl, zP_pre hP hK hD hAD (zB_on hB hA0 hS)⟩ rfl rfl hl.1 rfl (lv_room (Nat.le_of_ble_eq_true rfl)) dMO_send_388 ⟨Nat.le_of_ble_eq_true rfl, Nat.le_of_ble_eq_true rfl⟩) hS hA (fun k25 H24 locs hk25 hz1 hk1 hS => ?_)
                                have hP := zKeep hP hk1
                                have E := zl_s E hk25.1
                                refine m_aldS hx hb hK hP 37 (by decide) rfl hk25.2 (by decide) dMO_send_391 E (fun k26 ek26 E => ?_)
                                refine lv_aload_n hx hb dMO_send_392 rfl (lv_at hl 2 rfl) ?_
                                refine m_get_6 hx hb (hB.words zU_MO) hown hK hP (hB.word (zm4 k4_153) rfl) dMO_send_393 E (fun k27 ek27 E => ?_)
                                refine z_icmp_le (tgt := 415) hx hb dMO_send_396 (by decide) E (fun c_396 E => ?_) (fun c_396 E => ?_)
                                · refine lv_aload_n hx hb dMO_send_415 rfl (lv_at hl 2 rfl) ?_
                                  refine m_get_6 hx hb (hB.words zU_MO) hown hK hP (hB.word (zm4 k4_153) rfl) dMO_send_416 E (fun k28 ek28 E => ?_)
                                  have x9 : k27 = k28 := by rw [ek27, ek28]
                                  subst x9
                                  exact hJ419 H24 locs ls S22 x299_1 x299_2 x299_3 x299_5 k17 x299_7 x299_8 x299_9 x299_10 k27 r_x299_1 r_x299_2 r_x299_3 r_k17 r_x299_7 r_x299_8 r_x299_9 r_x299_10 gS22 hm141_299 hm249_299 ((by rw [eS22, eS15, eS13]; exact f6)) E hP hD hS (lv_sub hl [2, 3, 4, 5, 6, 0, 7, 8, 9, 10] rfl)
                                · have r_k27 : zr (-2147483648) 2147483646 k27 := zlt_x (zr_any k27) (zr_any k26) (znle c_396) (by decide)
                                  have r_k26 : zr (-2147483647) 2147483647 k26 := zlt_y (zr_any k27) (zr_any k26) (znle c_396) (by decide)
                                  refine lv_aload_n hx hb dMO_send_399 rfl (lv_at hl 2 rfl) ?_
                                  refine m_getA_37 hx hb (hB.words zU_MO) hown hK hP (hB.word (zm4 k4_166) rfl) dMO_send_400 ?_
                                  refine lv_aload_n hx hb dMO_send_403 rfl (lv_at hl 2 rfl) ?_
                                  refine lv_iload hx hb dMO_send_404 (lv_at hl 8 rfl) ?_
                                  refine lv_iload hx hb dMO_send_406 (lv_at hl 10 rfl) ?_
                                  refine zcallp (va_runV (As := [.int x299_8, .int x299_10]) (rest := [.ref (b 37), .ref (o 0)]) ⟨hx, hb, hml, hown, zno⟩ (tMO_end l dC dI cI cZ cJ cA a0 s0 o b P S22 H24.size x299_8 x299_10 gP gS22 r_x299_10) (zcw 2 (hB.word (zm5 k5_112) rfl) (hB.word (zm1 k1_9) rfl) (hB.word (zm5 k5_109) rfl) (hB.word (zm5 k5_111) rfl) (k2_selects_private (by decide) (hB.word (zm4 k4_109) rfl) (hB.word (zm5 k5_110) rfl) (hB.word (zm5 k5_111) rfl)) rfl rfl (by decide +kernel) ⟨Nat.le_of_ble_eq_true rfl, Nat.le_of_ble_eq_true rfl⟩) ⟨zP_blind, va_recv hK hP (ci := 7) (q0 := 0) rfl rfl, zP_pre hP hK hD hAD (zB_on hB hA0 hS)⟩ rfl rfl hl.1 rfl (lv_room (Nat.le_of_ble_eq_true rfl)) dMO_send_408 ⟨Nat.le_of_ble_eq_true rfl, Nat.le_of_ble_eq_true rfl⟩) hS hA (fun k30 H29 locs hk30 hz1 hk1 hS => ?_)
                                  have hP := zKeep hP hk1
                                  have E := zl_s E hk30.1
                                  refine m_aldS hx hb hK hP 37 (by decide) rfl hk30.2 (by decide) dMO_send_411 E (fun k31 ek31 E => ?_)
                                  refine lv_goto (tgt := 419) hx hb dMO_send_412 (by decide) ?_
                                  exact hJ419 H29 locs ls S22 x299_1 x299_2 x299_3 x299_5 k17 x299_7 x299_8 x299_9 x299_10 k31 r_x299_1 r_x299_2 r_x299_3 r_k17 r_x299_7 r_x299_8 r_x299_9 r_x299_10 gS22 hm141_299 hm249_299 ((by rw [eS22, eS15, eS13]; exact f6)) E hP hD hS (lv_sub hl [2, 3, 4, 5, 6, 0, 7, 8, 9, 10] rfl)
                      have hJ298 : ∀ (H : Heap) (locs : List Loc) (ls : Array Slot) (S_298 : ZS) (x298_1 : Int32) (x298_2 : Int32) (x298_3 : Int32) (x298_5 : Int32) (x298_6 : Int32) (x298_7 : Int32) (x298_8 : Int32) (x298_9 : Int32) (x298_10 : Int32), zr 0 63 x298_1 → zr 0 63 x298_2 → zr 0 3 x298_3 → zr 1 4096 x298_6 → zr 0 4095 x298_7 → zr 0 47 x298_8 → zr 0 59 x298_10 → mok S_298 → 4096 + 1 - x298_7.toInt ≤ ((n141 + 1 : Nat) : Int) → 60 + 1 - x298_10.toInt ≤ ((n249 + 1 : Nat) : Int) → zr 0 47 (S_298.F 22 (x298_1 : Int32).toNatClampNeg) → tg = fMO_send_298 P rc141 rc249 S_298 x298_1 x298_2 x298_3 x298_5 x298_6 x298_7 x298_8 x298_9 x298_10 → va_P (dC, dI) zCl (MW cI cZ cA o b P S_298) H → va_D A (MW cI cZ cA o b P S_298) → va_S A s.heap H locs → lv_has ls 12 [(0, .ref (o 0)), (1, .int x298_1), (2, .int x298_2), (3, .int x298_3), (5, .int x298_5), (6, .int x298_6), (7, .int x298_7), (8, .int x298_8), (9, .int x298_9), (10, .int x298_10)] → W p l e ({ frames := 1, cells := 0, slots := 0, locals := 24 } : Room) s m ([.ref (o 0), .int x0, .int x1, .int x2] : List Value).toArray below meth c H locs 0 0 Q (F0 m 298 ls []) := by
                        intro H locs ls S_298 x298_1 x298_2 x298_3 x298_5 x298_6 x298_7 x298_8 x298_9 x298_10 r_x298_1 r_x298_2 r_x298_3 r_x298_6 r_x298_7 r_x298_8 r_x298_10 gS_298 hm141_298 hm249_298 wf298_0 E hP hD hS hl
                        unfold fMO_send_298 at E
                        refine lv_iconst (v := 0) hx hb dMO_send_298 (by decide) ?_
                        exact hJ299 H locs ls S_298 x298_1 x298_2 x298_3 x298_5 x298_6 x298_7 x298_8 x298_9 x298_10 0 r_x298_1 r_x298_2 r_x298_3 r_x298_6 r_x298_7 r_x298_8 r_x298_10 (show zr 0 1 0 from by decide) gS_298 hm141_298 hm249_298 (Or.inl rfl) (Or.inl rfl) (Or.inr wf298_0) (wf298_0) E hP hD hS (lv_sub hl [0, 1, 2, 3, 4, 5, 6, 7, 8, 9] rfl)
                      have hJ294 : ∀ (H : Heap) (locs : List Loc) (ls : Array Slot) (S_294 : ZS) (x294_1 : Int32) (x294_2 : Int32) (x294_3 : Int32) (x294_5 : Int32) (x294_6 : Int32) (x294_7 : Int32) (x294_8 : Int32) (x294_9 : Int32) (x294_10 : Int32), zr 0 63 x294_1 → zr 0 63 x294_2 → zr 0 3 x294_3 → zr 1 4096 x294_6 → zr 0 4095 x294_7 → zr 0 47 x294_8 → zr (-1) 59 x294_9 → zr 0 59 x294_10 → mok S_294 → 4096 + 1 - x294_7.toInt ≤ ((n141 + 1 : Nat) : Int) → 60 + 1 - x294_10.toInt ≤ ((n249 + 1 : Nat) : Int) → zr 0 47 (S_294.F 22 (x294_1 : Int32).toNatClampNeg) → tg = fMO_send_294 P rc141 rc249 S_294 x294_1 x294_2 x294_3 x294_5 x294_6 x294_7 x294_8 x294_9 x294_10 → va_P (dC, dI) zCl (MW cI cZ cA o b P S_294) H → va_D A (MW cI cZ cA o b P S_294) → va_S A s.heap H locs → lv_has ls 12 [(0, .ref (o 0)), (1, .int x294_1), (2, .int x294_2), (3, .int x294_3), (5, .int x294_5), (6, .int x294_6), (7, .int x294_7), (8, .int x294_8), (9, .int x294_9), (10, .int x294_10)] → W p l e ({ frames := 1, cells := 0, slots := 0, locals := 24 } : Room) s m ([.ref (o 0), .int x0, .int x1, .int x2] : List Value).toArray below meth c H locs 0 0 Q (F0 m 294 ls []) := by
                        intro H locs ls S_294 x294_1 x294_2 x294_3 x294_5 x294_6 x294_7 x294_8 x294_9 x294_10 r_x294_1 r_x294_2 r_x294_3 r_x294_6 r_x294_7 r_x294_8 r_x294_9 r_x294_10 gS_294 hm141_294 hm249_294 wf294_0 E hP hD hS hl
                        unfold fMO_send_294 at E
                        refine lv_iconst (v := 1) hx hb dMO_send_294 (by decide) ?_
                        refine lv_goto (tgt := 299) hx hb dMO_send_295 (by decide) ?_
                        exact hJ299 H locs ls S_294 x294_1 x294_2 x294_3 x294_5 x294_6 x294_7 x294_8 x294_9 x294_10 1 r_x294_1 r_x294_2 r_x294_3 r_x294_6 r_x294_7 r_x294_8 r_x294_10 (show zr 0 1 1 from by decide) gS_294 hm141_294 hm249_294 (Or.inr r_x294_9) (Or.inr wf294_0) (Or.inl rfl) (wf294_0) E hP hD hS (lv_sub hl [0, 1, 2, 3, 4, 5, 6, 7, 8, 9] rfl)
                      refine lv_iload hx hb dMO_send_249 (lv_at hl 9 rfl) ?_
                      refine lv_aload_n hx hb dMO_send_251 rfl (lv_at hl 0 rfl) ?_
                      refine m_get_2 hx hb (hB.words zU_MO) hown hK hP (hB.word (zm4 k4_117) rfl) dMO_send_252 E (fun k32 ek32 E => ?_)
                      have r_k32 : zr 0 60 k32 := by rw [ek32]; exact gP.2.1 2
                      refine z_icmp_ge (tgt := 428) hx hb dMO_send_255 (by decide) E (fun c_255 E => ?_) (fun c_255 E => ?_)
                      · exact hJ428 H locs ls S_249 x249_1 x249_2 x249_3 x249_5 x249_6 x249_7 r_x249_1 r_x249_2 r_x249_3 r_x249_6 r_x249_7 gS_249 hm141_249 (wf249_0) E hP hD hS (lv_sub hl [0, 1, 2, 3, 4, 5, 6] rfl)
                      · have r_x249_10 : zr 0 59 x249_10 := zlt_x r_x249_10 r_k32 (znle c_255) (by decide)
                        have r_k32 : zr 1 60 k32 := zlt_y r_x249_10 r_k32 (znle c_255) (by decide)
                        refine lv_aload_n hx hb dMO_send_258 rfl (lv_at hl 0 rfl) ?_
                        refine m_getA_22 hx hb (hB.words zU_MO) hown hK hP (hB.word (zm4 k4_140) rfl) dMO_send_259 ?_
                        refine lv_iload_n hx hb dMO_send_262 rfl (lv_at hl 2 rfl) ?_
                        refine m_aldS hx hb hK hP 22 (by decide) rfl r_x249_2 (by decide) dMO_send_263 E (fun k33 ek33 E => ?_)
                        have r_k33 : zr (-1) 47 k33 := by rw [ek33]; exact gS_249.1 22 _
                        refine lv_iload hx hb dMO_send_264 (lv_at hl 7 rfl) ?_
                        refine z_icmp_eq (tgt := 428) hx hb dMO_send_266 (by decide) E (fun c_266 E => ?_) (fun c_266 E => ?_)
                        · have r_k33 : zr 0 47 k33 := zeq_x r_x249_8 c_266
                          exact hJ428 H locs ls S_249 x249_1 x249_2 x249_3 x249_5 x249_6 x249_7 r_x249_1 r_x249_2 r_x249_3 r_x249_6 r_x249_7 gS_249 hm141_249 (wf249_0) E hP hD hS (lv_sub hl [0, 1, 2, 3, 4, 5, 6] rfl)
                        · refine lv_iload hx hb dMO_send_269 (lv_at hl 9 rfl) ?_
                          refine lv_aload_n hx hb dMO_send_271 rfl (lv_at hl 0 rfl) ?_
                          refine m_getA_36 hx hb (hB.words zU_MO) hown hK hP (hB.word (zm4 k4_161) rfl) dMO_send_272 ?_
                          refine lv_iload hx hb dMO_send_275 (lv_at hl 6 rfl) ?_
                          refine m_aldS hx hb hK hP 36 (by decide) rfl r_x249_7 (by decide) dMO_send_277 E (fun k34 ek34 E => ?_)
                          have r_k34 : zr (-1) 59 k34 := by rw [ek34]; exact gS_249.1 36 _
                          refine z_icmp_eq (tgt := 298) hx hb dMO_send_278 (by decide) E (fun c_278 E => ?_) (fun c_278 E => ?_)
                          · have r_k34 : zr 0 59 k34 := zeq_x r_x249_10 c_278.symm
                            exact hJ298 H locs ls S_249 x249_1 x249_2 x249_3 x249_5 x249_6 x249_7 x249_8 x249_9 x249_10 r_x249_1 r_x249_2 r_x249_3 r_x249_6 r_x249_7 r_x249_8 r_x249_10 gS_249 hm141_249 hm249 (wf249_0) E hP hD hS (lv_sub hl [0, 1, 2, 3, 4, 5, 6, 7, 8, 9] rfl)
                          · refine lv_iload hx hb dMO_send_281 (lv_at hl 8 rfl) ?_
                            refine lv_iconst (v := (-1)) hx hb dMO_send_283 (by decide) ?_
                            refine z_icmp_eq (tgt := 294) hx hb dMO_send_284 (by decide) E (fun c_284 E => ?_) (fun c_284 E => ?_)
                            · have r_x249_9 : zr (-1) (-1) x249_9 := zeq_x (show zr (-1) (-1) (-1) from by decide) c_284
                              exact hJ294 H locs ls S_249 x249_1 x249_2 x249_3 x249_5 x249_6 x249_7 x249_8 x249_9 x249_10 r_x249_1 r_x249_2 r_x249_3 r_x249_6 r_x249_7 r_x249_8 (zr_mono r_x249_9 (by decide)) r_x249_10 gS_249 hm141_249 hm249 (wf249_0) E hP hD hS (lv_sub hl [0, 1, 2, 3, 4, 5, 6, 7, 8, 9] rfl)
                            · refine lv_iload hx hb dMO_send_287 (lv_at hl 9 rfl) ?_
                              refine lv_iload hx hb dMO_send_289 (lv_at hl 8 rfl) ?_
                              refine z_icmp_ne (tgt := 298) hx hb dMO_send_291 (by decide) E (fun c_291 E => ?_) (fun c_291 E => ?_)
                              · exact hJ298 H locs ls S_249 x249_1 x249_2 x249_3 x249_5 x249_6 x249_7 x249_8 x249_9 x249_10 r_x249_1 r_x249_2 r_x249_3 r_x249_6 r_x249_7 r_x249_8 r_x249_10 gS_249 hm141_249 hm249 (wf249_0) E hP hD hS (lv_sub hl [0, 1, 2, 3, 4, 5, 6, 7, 8, 9] rfl)
                              · have r_x249_9 : zr 0 59 x249_9 := zeq_x r_x249_10 c_291.symm
                                exact hJ294 H locs ls S_249 x249_1 x249_2 x249_3 x249_5 x249_6 x249_7 x249_8 x249_9 x249_10 r_x249_1 r_x249_2 r_x249_3 r_x249_6 r_x249_7 r_x249_8 (zr_mono r_x249_9 (by decide)) r_x249_10 gS_249 hm141_249 hm249 (wf249_0) E hP hD hS (lv_sub hl [0, 1, 2, 3, 4, 5, 6, 7, 8, 9] rfl)
                  refine z_iadd hx hb dMO_send_243 E (fun k35 ek35 E => ?_)
                  refine lv_istore (lv' := [(5, .int k35), (0, .ref (o 0)), (1, .int x243_1), (2, .int x243_2), (3, .int x243_3), (6, .int x243_6), (7, .int x243_7), (8, .int x243_8), (9, .int x243_9)]) hx hb dMO_send_244 hl (by decide) rfl (fun ls hl => ?_)
                  refine lv_iconst (v := 0) hx hb dMO_send_246 (by decide) ?_
                  refine lv_istore (lv' := [(10, .int 0), (5, .int k35), (0, .ref (o 0)), (1, .int x243_1), (2, .int x243_2), (3, .int x243_3), (6, .int x243_6), (7, .int x243_7), (8, .int x243_8), (9, .int x243_9)]) hx hb dMO_send_247 hl (by decide) rfl (fun ls hl => ?_)
                  exact hL249 61 H locs ls S_243 x243_1 x243_2 x243_3 k35 x243_6 x243_7 x243_8 x243_9 0 r_x243_1 r_x243_2 r_x243_3 r_x243_6 r_x243_7 r_x243_8 (show zr 0 60 0 from by decide) gS_243 hm141_243 (wf243_0) (by have h9 := (show zr 0 0 0 from by decide); exact zfuelU h9 (by decide)) E hP hD hS (lv_sub hl [2, 3, 4, 5, 1, 6, 7, 8, 9, 0] rfl)
                refine lv_aload_n hx hb dMO_send_215 rfl (lv_at hl 0 rfl) ?_
                refine lv_iload hx hb dMO_send_216 (lv_at hl 7 rfl) ?_
                refine lv_iload_n hx hb dMO_send_218 rfl (lv_at hl 3 rfl) ?_
                refine lv_iload_n hx hb dMO_send_219 rfl (lv_at hl 2 rfl) ?_
                refine zcallp (va_runV (As := [.int x215_8, .int x215_3, .int x215_2]) (rest := []) ⟨hx, hb, hml, hown, zno⟩ (tMO_known l dC dI cI cZ cJ cA a0 s0 o b P S_215 H.size x215_8 x215_3 x215_2 gP gS_215 r_x215_8 r_x215_3 r_x215_2) (zcw 3 (hB.word (zm5 k5_235) rfl) (hB.word (zm1 k1_9) rfl) (hB.word (zm5 k5_232) rfl) (hB.word (zm5 k5_234) rfl) (k2_selects_private (by decide) (hB.word (zm4 k4_109) rfl) (hB.word (zm5 k5_233) rfl) (hB.word (zm5 k5_234) rfl)) rfl rfl (by decide +kernel) ⟨Nat.le_of_ble_eq_true rfl, Nat.le_of_ble_eq_true rfl⟩) ⟨zP_blind, va_recv hK hP (ci := 7) (q0 := 0) rfl rfl, zP_pre hP hK hD hAD (zB_on hB hA0 hS)⟩ rfl rfl hl.1 rfl (lv_room (Nat.le_of_ble_eq_true rfl)) dMO_send_220 ⟨Nat.le_of_ble_eq_true rfl, Nat.le_of_ble_eq_true rfl⟩) hS hA (fun k37 H36 locs hk37 hz1 hk1 hS => ?_)
                have hP := zKeep hP hk1
                have E := zl_s E hk37.1
                refine lv_istore (lv' := [(9, .int k37), (0, .ref (o 0)), (1, .int x215_1), (2, .int x215_2), (3, .int x215_3), (5, .int x215_5), (6, .int x215_6), (7, .int x215_7), (8, .int x215_8)]) hx hb dMO_send_223 hl (by decide) rfl (fun ls hl => ?_)
                refine lv_iload hx hb dMO_send_225 (lv_at hl 5 rfl) ?_
                refine lv_aload_n hx hb dMO_send_227 rfl (lv_at hl 1 rfl) ?_
                refine m_getA_22 hx hb (hB.words zU_MO) hown hK hP (hB.word (zm4 k4_140) rfl) dMO_send_228 ?_
                refine lv_iload_n hx hb dMO_send_231 rfl (lv_at hl 3 rfl) ?_
                refine m_aldS hx hb hK hP 22 (by decide) rfl r_x215_2 (by decide) dMO_send_232 E (fun k38 ek38 E => ?_)
                have r_k38 : zr (-1) 47 k38 := by rw [ek38]; exact gS_215.1 22 _
                refine lv_iload hx hb dMO_send_233 (lv_at hl 8 rfl) ?_
                refine z_icmp_ne (tgt := 242) hx hb dMO_send_235 (by decide) E (fun c_235 E => ?_) (fun c_235 E => ?_)
                · refine lv_iconst (v := 0) hx hb dMO_send_242 (by decide) ?_
                  exact hJ243 H36 locs ls S_215 x215_1 x215_2 x215_3 x215_6 x215_7 x215_8 k37 0 x215_5 r_x215_1 r_x215_2 r_x215_3 r_x215_6 r_x215_7 r_x215_8 (show zr 0 1 0 from by decide) gS_215 hm141_215 (Or.inl rfl) (Or.inr wf215_0) (wf215_0) E hP hD hS (lv_sub hl [1, 2, 3, 4, 6, 7, 8, 0] rfl)
                · have r_k38 : zr 0 47 k38 := zeq_x r_x215_8 c_235
                  refine lv_iconst (v := 1) hx hb dMO_send_238 (by decide) ?_
                  refine lv_goto (tgt := 243) hx hb dMO_send_239 (by decide) ?_
                  exact hJ243 H36 locs ls S_215 x215_1 x215_2 x215_3 x215_6 x215_7 x215_8 k37 1 x215_5 r_x215_1 r_x215_2 r_x215_3 r_x215_6 r_x215_7 r_x215_8 (show zr 0 1 1 from by decide) gS_215 hm141_215 (Or.inr wf215_0) (Or.inl rfl) (wf215_0) E hP hD hS (lv_sub hl [1, 2, 3, 4, 6, 7, 8, 0] rfl)
              refine lv_iload hx hb dMO_send_141 (lv_at hl 6 rfl) ?_
              refine lv_iload hx hb dMO_send_143 (lv_at hl 5 rfl) ?_
              refine z_icmp_ge (tgt := 434) hx hb dMO_send_145 (by decide) E (fun c_145 E => ?_) (fun c_145 E => ?_)
              · have r_x141_7 : zr 1 4096 x141_7 := zle_y r_x141_6 r_x141_7 c_145 (by decide)
                refine lv_iload hx hb dMO_send_434 (lv_at hl 4 rfl) ?_
                rw [hQe]
                exact W.iret (v := x141_5) hx hb hr (fun t ht hW => ⟨⟨x141_5, S_141, rfl, ⟨E.symm.trans etg, gS_141, trivial⟩, by rw [ht]; exact hP, hD⟩, hS.F ht⟩) hS.2.2 dMO_send_436
              · have r_x141_7 : zr 0 4095 x141_7 := zlt_x r_x141_7 r_x141_6 (znle c_145) (by decide)
                refine lv_aload_n hx hb dMO_send_148 rfl (lv_at hl 0 rfl) ?_
                refine m_getA_35 hx hb (hB.words zU_MO) hown hK hP (hB.word (zm4 k4_160) rfl) dMO_send_149 ?_
                refine lv_iload hx hb dMO_send_152 (lv_at hl 6 rfl) ?_
                refine m_aldS hx hb hK hP 35 (by decide) rfl r_x141_7 (by decide) dMO_send_154 E (fun k39 ek39 E => ?_)
                have r_k39 : zr 0 47 k39 := by rw [ek39]; exact gS_141.1 35 _
                refine lv_istore (lv' := [(8, .int k39), (0, .ref (o 0)), (1, .int x141_1), (2, .int x141_2), (3, .int x141_3), (5, .int x141_5), (6, .int x141_6), (7, .int x141_7)]) hx hb dMO_send_155 hl (by decide) rfl (fun ls hl => ?_)
                refine lv_aload_n hx hb dMO_send_157 rfl (lv_at hl 1 rfl) ?_
                refine m_getA_36 hx hb (hB.words zU_MO) hown hK hP (hB.word (zm4 k4_161) rfl) dMO_send_158 ?_
                refine lv_iload hx hb dMO_send_161 (lv_at hl 7 rfl) ?_
                refine m_aldS hx hb hK hP 36 (by decide) rfl r_x141_7 (by decide) dMO_send_163 E (fun k40 ek40 E => ?_)
                have r_k40 : zr (-1) 59 k40 := by rw [ek40]; exact gS_141.1 36 _
                refine lv_iconst (v := (-1)) hx hb dMO_send_164 (by decide) ?_
                refine z_icmp_eq (tgt := 215) hx hb dMO_send_165 (by decide) E (fun c_165 E => ?_) (fun c_165 E => ?_)
                · have r_k40 : zr (-1) (-1) k40 := zeq_x (show zr (-1) (-1) (-1) from by decide) c_165
                  exact hJ215 H locs ls S_141 x141_1 x141_2 x141_3 x141_5 x141_6 x141_7 k39 r_x141_1 r_x141_2 r_x141_3 r_x141_6 r_x141_7 r_k39 gS_141 hm141 (wf141_0) E hP hD hS (lv_sub hl [1, 2, 3, 4, 5, 6, 7, 0] rfl)
                · have r_k40 : zr 0 59 k40 := zne_lo r_k40 c_165 (by decide)
                  refine lv_aload_n hx hb dMO_send_168 rfl (lv_at hl 1 rfl) ?_
                  refine m_getA_20 hx hb (hB.words zU_MO) hown hK hP (hB.word (zm4 k4_138) rfl) dMO_send_169 ?_
                  refine lv_sipush (v := 256) hx hb dMO_send_172 (by decide) ?_
                  refine lv_iload hx hb dMO_send_175 (lv_at hl 0 rfl) ?_
                  refine z_imul hx hb dMO_send_177 E (fun k41 ek41 E => ?_)
                  have r_k41 : zr 0 12032 k41 := zr_mul (show zr 256 256 256 from by decide) r_k39 ek41 (by decide)
                  refine lv_bipush (v := 64) hx hb dMO_send_178 (by decide) ?_
                  refine lv_iload_n hx hb dMO_send_180 rfl (lv_at hl 4 rfl) ?_
                  refine z_imul hx hb dMO_send_181 E (fun k42 ek42 E => ?_)
                  have r_k42 : zr 0 192 k42 := zr_mul (show zr 64 64 64 from by decide) r_x141_3 ek42 (by decide)
                  refine z_iadd hx hb dMO_send_182 E (fun k43 ek43 E => ?_)
                  have r_k43 : zr 0 12224 k43 := zr_add r_k41 r_k42 ek43 (by decide)
                  refine lv_iload_n hx hb dMO_send_183 rfl (lv_at hl 2 rfl) ?_
                  refine z_iadd hx hb dMO_send_184 E (fun k44 ek44 E => ?_)
                  have r_k44 : zr 0 12287 k44 := zr_add r_k43 r_x141_1 ek44 (by decide)
                  refine lv_aload_n hx hb dMO_send_185 rfl (lv_at hl 1 rfl) ?_
                  refine m_getA_36 hx hb (hB.words zU_MO) hown hK hP (hB.word (zm4 k4_161) rfl) dMO_send_186 ?_
                  refine lv_iload hx hb dMO_send_189 (lv_at hl 7 rfl) ?_
                  refine m_aldS hx hb hK hP 36 (by decide) rfl r_x141_7 (by decide) dMO_send_191 E (fun k45 ek45 E => ?_)
                  have x9 : k40 = k45 := by rw [ek40, ek45]
                  subst x9
                  refine m_astS hx hb hK hP hD hS 20 (by decide) rfl r_k44 (by decide) dMO_send_192 E (fun S46 H47 locs eS46 E hP hD hS => ?_)
                  have gS46 : mok S46 := by rw [eS46]; exact gS_141.setF (k := 20) (zr_any k40) (Or.inl (by decide))
                  refine lv_aload_n hx hb dMO_send_193 rfl (lv_at hl 1 rfl) ?_
                  refine m_getA_21 hx hb (hB.words zU_MO) hown hK hP (hB.word (zm4 k4_139) rfl) dMO_send_194 ?_
                  refine lv_sipush (v := 256) hx hb dMO_send_197 (by decide) ?_
                  refine lv_iload hx hb dMO_send_200 (lv_at hl 0 rfl) ?_
                  refine z_imul hx hb dMO_send_202 E (fun k48 ek48 E => ?_)
                  have r_k48 : zr 0 12032 k48 := zr_mul (show zr 256 256 256 from by decide) r_k39 ek48 (by decide)
                  refine lv_bipush (v := 64) hx hb dMO_send_203 (by decide) ?_
                  refine lv_iload_n hx hb dMO_send_205 rfl (lv_at hl 4 rfl) ?_
                  refine z_imul hx hb dMO_send_206 E (fun k49 ek49 E => ?_)
                  have r_k49 : zr 0 192 k49 := zr_mul (show zr 64 64 64 from by decide) r_x141_3 ek49 (by decide)
                  refine z_iadd hx hb dMO_send_207 E (fun k50 ek50 E => ?_)
                  have r_k50 : zr 0 12224 k50 := zr_add r_k48 r_k49 ek50 (by decide)
                  refine lv_iload_n hx hb dMO_send_208 rfl (lv_at hl 2 rfl) ?_
                  refine z_iadd hx hb dMO_send_209 E (fun k51 ek51 E => ?_)
                  have r_k51 : zr 0 12287 k51 := zr_add r_k50 r_x141_1 ek51 (by decide)
                  refine lv_aload_n hx hb dMO_send_210 rfl (lv_at hl 1 rfl) ?_
                  refine m_get_4 hx hb (hB.words zU_MO) hown hK hP (hB.word (zm4 k4_151) rfl) dMO_send_211 E (fun k52 ek52 E => ?_)
                  refine m_astS hx hb hK hP hD hS 21 (by decide) rfl r_k51 (by decide) dMO_send_214 E (fun S53 H54 locs eS53 E hP hD hS => ?_)
                  have gS53 : mok S53 := by rw [eS53]; exact gS46.setF (k := 21) (zr_any k52) (Or.inl (by decide))
                  exact hJ215 H54 locs ls S53 x141_1 x141_2 x141_3 x141_5 x141_6 x141_7 k39 r_x141_1 r_x141_2 r_x141_3 r_x141_6 r_x141_7 r_k39 gS53 hm141 ((by rw [eS53, eS46]; exact wf141_0)) E hP hD hS (lv_sub hl [1, 2, 3, 4, 5, 6, 7, 0] rfl)
          refine lv_iload hx hb dMO_send_92 (lv_at hl 4 rfl) ?_
          refine lv_bipush (v := 120) hx hb dMO_send_94 (by decide) ?_
          refine z_icmp_ge (tgt := 113) hx hb dMO_send_96 (by decide) E (fun c_96 E => ?_) (fun c_96 E => ?_)
          · have r_x92_5 : zr 120 120 x92_5 := zle_y (show zr 120 120 120 from by decide) r_x92_5 c_96 (by decide)
            refine lv_iconst (v := 0) hx hb dMO_send_113 (by decide) ?_
            refine lv_istore (lv' := [(5, .int 0), (0, .ref (o 0)), (1, .int x92_1), (2, .int x92_2), (3, .int x92_3)]) hx hb dMO_send_114 hl (by decide) rfl (fun ls hl => ?_)
            refine lv_aload_n hx hb dMO_send_116 rfl (lv_at hl 1 rfl) ?_
            refine m_getA_35 hx hb (hB.words zU_MO) hown hK hP (hB.word (zm4 k4_160) rfl) dMO_send_117 ?_
            refine lv_iconst (v := 0) hx hb dMO_send_120 (by decide) ?_
            refine lv_aload_n hx hb dMO_send_121 rfl (lv_at hl 1 rfl) ?_
            refine m_getA_22 hx hb (hB.words zU_MO) hown hK hP (hB.word (zm4 k4_140) rfl) dMO_send_122 ?_
            refine lv_iload_n hx hb dMO_send_125 rfl (lv_at hl 2 rfl) ?_
            refine m_aldS hx hb hK hP 22 (by decide) rfl r_x92_1 (by decide) dMO_send_126 E (fun k55 ek55 E => ?_)
            have r_k55 : zr 0 47 k55 := by rw [ek55]; exact wf92_0
            refine m_astS hx hb hK hP hD hS 35 (by decide) rfl (show zr 0 0 0 from by decide) (by decide) dMO_send_127 E (fun S56 H57 locs eS56 E hP hD hS => ?_)
            have gS56 : mok S56 := by rw [eS56]; exact gS_92.setF (k := 35) r_k55 (Or.inl (by decide))
            refine lv_aload_n hx hb dMO_send_128 rfl (lv_at hl 1 rfl) ?_
            refine m_getA_36 hx hb (hB.words zU_MO) hown hK hP (hB.word (zm4 k4_161) rfl) dMO_send_129 ?_
            refine lv_iconst (v := 0) hx hb dMO_send_132 (by decide) ?_
            refine lv_iconst (v := (-1)) hx hb dMO_send_133 (by decide) ?_
            refine m_astS hx hb hK hP hD hS 36 (by decide) rfl (show zr 0 0 0 from by decide) (by decide) dMO_send_134 E (fun S58 H59 locs eS58 E hP hD hS => ?_)
            have gS58 : mok S58 := by rw [eS58]; exact gS56.setF (k := 36) (show zr (-1) 59 (-1) from by decide) (Or.inl (by decide))
            refine lv_iconst (v := 1) hx hb dMO_send_135 (by decide) ?_
            refine lv_istore (lv' := [(6, .int 1), (5, .int 0), (0, .ref (o 0)), (1, .int x92_1), (2, .int x92_2), (3, .int x92_3)]) hx hb dMO_send_136 hl (by decide) rfl (fun ls hl => ?_)
            refine lv_iconst (v := 0) hx hb dMO_send_138 (by decide) ?_
            refine lv_istore (lv' := [(7, .int 0), (6, .int 1), (5, .int 0), (0, .ref (o 0)), (1, .int x92_1), (2, .int x92_2), (3, .int x92_3)]) hx hb dMO_send_139 hl (by decide) rfl (fun ls hl => ?_)
            exact hL141 4097 H59 locs ls S58 x92_1 x92_2 x92_3 0 1 0 r_x92_1 r_x92_2 r_x92_3 (show zr 1 4096 1 from by decide) (show zr 0 4096 0 from by decide) gS58 ((by rw [eS58, eS56]; exact wf92_0)) (by have h9 := (show zr 0 0 0 from by decide); exact zfuelU h9 (by decide)) E hP hD hS (lv_sub hl [3, 4, 5, 6, 2, 1, 0] rfl)
          · have r_x92_5 : zr 0 119 x92_5 := zlt_x r_x92_5 (show zr 120 120 120 from by decide) (znle c_96) (by decide)
            refine lv_aload_n hx hb dMO_send_99 rfl (lv_at hl 0 rfl) ?_
            refine m_getA_37 hx hb (hB.words zU_MO) hown hK hP (hB.word (zm4 k4_166) rfl) dMO_send_100 ?_
            refine lv_iload hx hb dMO_send_103 (lv_at hl 4 rfl) ?_
            refine lv_iconst (v := 0) hx hb dMO_send_105 (by decide) ?_
            refine m_astS hx hb hK hP hD hS 37 (by decide) rfl r_x92_5 (by decide) dMO_send_106 E (fun S60 H61 locs eS60 E hP hD hS => ?_)
            have gS60 : mok S60 := by rw [eS60]; exact gS_92.setF (k := 37) (show zr (-2147483648) 2147483647 0 from by decide) (Or.inl (by decide))
            refine z_iinc (lv' := fun v9 => [(5, .int v9), (0, .ref (o 0)), (1, .int x92_1), (2, .int x92_2), (3, .int x92_3)]) (cst := 1) hx hb dMO_send_107 hl (k := 4) rfl (by decide) (by decide) (fun _ => rfl) E (fun k62 ls ek62 E hl => ?_)
            have r_k62 : zr 1 120 k62 := zr_add r_x92_5 (show zr 1 1 1 from by decide) ek62 (by decide)
            refine lv_goto (tgt := 92) hx hb dMO_send_110 (by decide) ?_
            exact ih92 H61 locs ls S60 x92_1 x92_2 x92_3 k62 r_x92_1 r_x92_2 r_x92_3 (zr_mono r_k62 (by decide)) gS60 ((by rw [eS60]; exact wf92_0)) (zstepU ek62 r_x92_5 (by decide) hm92) E hP hD hS (lv_sub hl [1, 2, 3, 4, 0] rfl)
      refine lv_aload_n hx hb dMO_send_72 rfl (lv_at hl 0 rfl) ?_
      refine m_get_0 hx hb (hB.words zU_MO) hown hK hP (hB.word (zm4 k4_115) rfl) dMO_send_73 E (fun k63 ek63 E => ?_)
      have r_k63 : zr 0 1 k63 := by rw [ek63]; exact gP.2.1 0
      refine zcI (va_runV (As := [.int y72_0, .int k63]) (rest := []) ⟨hx, hb, hml, hown, zno⟩ (tMO_goes l dC dI cI cZ cJ cA a0 s0 o b P S_72 H.size y72_0 k63 gP gS_72 r_y72_0 r_k63) (zcw 2 (hB.word (zm5 k5_56) rfl) (hB.word (zm1 k1_9) rfl) (hB.word (zm5 k5_53) rfl) (hB.word (zm5 k5_55) rfl) (k2_selects_private (by decide) (hB.word (zm4 k4_109) rfl) (hB.word (zm5 k5_54) rfl) (hB.word (zm5 k5_55) rfl)) rfl rfl (by decide +kernel) ⟨Nat.le_of_ble_eq_true rfl, Nat.le_of_ble_eq_true rfl⟩) ⟨zP_blind, va_recv hK hP (ci := 7) (q0 := 0) rfl rfl, zP_pre hP hK hD hAD (zB_on hB hA0 hS)⟩ rfl rfl hl.1 rfl (lv_room (Nat.le_of_ble_eq_true rfl)) dMO_send_76 ⟨Nat.le_of_ble_eq_true rfl, Nat.le_of_ble_eq_true rfl⟩) hD hS hA (fun k65 S66 H64 locs h67 hP hD hS => ?_)
      have E := zl2_s E h67.1
      have gS66 := h67.2.1
      obtain ⟨v_S66, eS66⟩ := zgoes_S h67.1
      have f68 : k65 = 0 ∨ zr 0 47 (S66.F 22 (x72_1 : Int32).toNatClampNeg) := by rw [eS66]; exact (zor (zgoes_0 h67.1) cd72_3)
      refine z_if_ne (tgt := 84) hx hb dMO_send_79 (by decide) E (fun c_79 E => ?_) (fun c_79 E => ?_)
      · have r_k65 : zr 1 1 k65 := zne_lo h67.2.2 c_79 (by decide)
        have r_x72_1 : zr 0 63 x72_1 := ((zor (zgoes_0 h67.1) cd72_0)).resolve_left (zrne r_k65 (by decide))
        have r_x72_2 : zr 0 63 x72_2 := ((zor (zgoes_0 h67.1) cd72_1)).resolve_left (zrne r_k65 (by decide))
        have r_x72_3 : zr 0 3 x72_3 := ((zor (zgoes_0 h67.1) cd72_2)).resolve_left (zrne r_k65 (by decide))
        have f69 : zr 0 47 (S66.F 22 (x72_1 : Int32).toNatClampNeg) := (f68).resolve_left (zrne r_k65 (by decide))
        refine lv_aload_n hx hb dMO_send_84 rfl (lv_at hl 0 rfl) ?_
        refine lv_iconst (v := 0) hx hb dMO_send_85 (by decide) ?_
        refine m_put_6 hx hb (hB.words zU_MO) hown hK hP hD hS (hB.word (zm4 k4_153) rfl) dMO_send_86 E (fun S70 H71 locs eS70 E hP hD hS => ?_)
        have gS70 : mok S70 := by rw [eS70]; exact gS66.setI (t := 6) (show zr (-2147483648) 2147483647 0 from by decide)
        refine lv_iconst (v := 0) hx hb dMO_send_89 (by decide) ?_
        refine lv_istore (lv' := [(5, .int 0), (0, .ref (o 0)), (1, .int x72_1), (2, .int x72_2), (3, .int x72_3)]) hx hb dMO_send_90 hl (by decide) rfl (fun ls hl => ?_)
        exact hL92 121 H71 locs ls S70 x72_1 x72_2 x72_3 0 r_x72_1 r_x72_2 r_x72_3 (show zr 0 120 0 from by decide) gS70 ((by rw [eS70]; exact f69)) (by have h9 := (show zr 0 0 0 from by decide); exact zfuelU h9 (by decide)) E hP hD hS (lv_sub hl [1, 2, 3, 4, 0] rfl)
      · have r_k65 : zr 0 0 k65 := zeq_x (show zr 0 0 0 from by decide) c_79
        refine lv_iconst (v := 0) hx hb dMO_send_82 (by decide) ?_
        rw [hQe]
        exact W.iret (v := 0) hx hb hr (fun t ht hW => ⟨⟨0, S66, rfl, ⟨E.symm.trans etg, gS66, trivial⟩, by rw [ht]; exact hP, hD⟩, hS.F ht⟩) hS.2.2 dMO_send_83
    have hJ71 : ∀ (H : Heap) (locs : List Loc) (ls : Array Slot) (S_71 : ZS) (x71_1 : Int32) (x71_2 : Int32) (x71_3 : Int32), mok S_71 → tg = fMO_send_71 P S_71 x71_1 x71_2 x71_3 → va_P (dC, dI) zCl (MW cI cZ cA o b P S_71) H → va_D A (MW cI cZ cA o b P S_71) → va_S A s.heap H locs → lv_has ls 12 [(0, .ref (o 0)), (1, .int x71_1), (2, .int x71_2), (3, .int x71_3)] → W p l e ({ frames := 1, cells := 0, slots := 0, locals := 24 } : Room) s m ([.ref (o 0), .int x0, .int x1, .int x2] : List Value).toArray below meth c H locs 0 0 Q (F0 m 71 ls [.ref (o 0)]) := by
      intro H locs ls S_71 x71_1 x71_2 x71_3 gS_71 E hP hD hS hl
      unfold fMO_send_71 at E
      refine lv_iconst (v := 0) hx hb dMO_send_71 (by decide) ?_
      exact hJ72 H locs ls S_71 x71_1 x71_2 x71_3 0 (show zr 0 1 0 from by decide) gS_71 (Or.inl rfl) (Or.inl rfl) (Or.inl rfl) (Or.inl rfl) E hP hD hS (lv_sub hl [0, 1, 2, 3] rfl)
    refine lv_istore (lv' := [(4, .int y39_0), (0, .ref (o 0)), (1, .int x39_1), (2, .int x39_2), (3, .int x39_3)]) hx hb dMO_send_39 hl (by decide) rfl (fun ls hl => ?_)
    refine lv_aload_n hx hb dMO_send_41 rfl (lv_at hl 1 rfl) ?_
    refine lv_iload hx hb dMO_send_42 (lv_at hl 0 rfl) ?_
    refine z_if_eq (tgt := 71) hx hb dMO_send_44 (by decide) E (fun c_44 E => ?_) (fun c_44 E => ?_)
    · have r_y39_0 : zr 0 0 y39_0 := zeq_x (show zr 0 0 0 from by decide) c_44
      exact hJ71 H locs ls S_39 x39_1 x39_2 x39_3 gS_39 E hP hD hS (lv_sub hl [1, 2, 3, 4] rfl)
    · have r_y39_0 : zr 1 1 y39_0 := zne_lo r_y39_0 c_44 (by decide)
      have r_x39_1 : zr 0 63 x39_1 := (cd39_0).resolve_left (zrne r_y39_0 (by decide))
      have r_x39_2 : zr 0 63 x39_2 := (cd39_1).resolve_left (zrne r_y39_0 (by decide))
      have r_x39_3 : zr 0 3 x39_3 := (cd39_2).resolve_left (zrne r_y39_0 (by decide))
      refine lv_aload_n hx hb dMO_send_47 rfl (lv_at hl 1 rfl) ?_
      refine m_getA_22 hx hb (hB.words zU_MO) hown hK hP (hB.word (zm4 k4_140) rfl) dMO_send_48 ?_
      refine lv_iload_n hx hb dMO_send_51 rfl (lv_at hl 2 rfl) ?_
      refine m_aldS hx hb hK hP 22 (by decide) rfl r_x39_1 (by decide) dMO_send_52 E (fun k72 ek72 E => ?_)
      have r_k72 : zr (-1) 47 k72 := by rw [ek72]; exact gS_39.1 22 _
      refine lv_iconst (v := (-1)) hx hb dMO_send_53 (by decide) ?_
      refine z_icmp_eq (tgt := 71) hx hb dMO_send_54 (by decide) E (fun c_54 E => ?_) (fun c_54 E => ?_)
      · have r_k72 : zr (-1) (-1) k72 := zeq_x (show zr (-1) (-1) (-1) from by decide) c_54
        exact hJ71 H locs ls S_39 x39_1 x39_2 x39_3 gS_39 E hP hD hS (lv_sub hl [1, 2, 3, 4] rfl)
      · have r_k72 : zr 0 47 k72 := zne_lo r_k72 c_54 (by decide)
        refine lv_aload_n hx hb dMO_send_57 rfl (lv_at hl 1 rfl) ?_
        refine m_getA_22 hx hb (hB.words zU_MO) hown hK hP (hB.word (zm4 k4_140) rfl) dMO_send_58 ?_
        refine lv_iload_n hx hb dMO_send_61 rfl (lv_at hl 3 rfl) ?_
        refine m_aldS hx hb hK hP 22 (by decide) rfl r_x39_2 (by decide) dMO_send_62 E (fun k73 ek73 E => ?_)
        have r_k73 : zr (-1) 47 k73 := by rw [ek73]; exact gS_39.1 22 _
        refine lv_iconst (v := (-1)) hx hb dMO_send_63 (by decide) ?_
        refine z_icmp_eq (tgt := 71) hx hb dMO_send_64 (by decide) E (fun c_64 E => ?_) (fun c_64 E => ?_)
        · have r_k73 : zr (-1) (-1) k73 := zeq_x (show zr (-1) (-1) (-1) from by decide) c_64
          exact hJ71 H locs ls S_39 x39_1 x39_2 x39_3 gS_39 E hP hD hS (lv_sub hl [1, 2, 3, 4] rfl)
        · have r_k73 : zr 0 47 k73 := zne_lo r_k73 c_64 (by decide)
          refine lv_iconst (v := 1) hx hb dMO_send_67 (by decide) ?_
          refine lv_goto (tgt := 72) hx hb dMO_send_68 (by decide) ?_
          exact hJ72 H locs ls S_39 x39_1 x39_2 x39_3 1 (show zr 0 1 1 from by decide) gS_39 (Or.inr r_x39_1) (Or.inr r_x39_2) (Or.inr r_x39_3) (Or.inr (by show zr 0 47 (S_39.F 22 (x39_1 : Int32).toNatClampNeg); rw [← ek72]; exact r_k72)) E hP hD hS (lv_sub hl [1, 2, 3, 4] rfl)
  have hJ38 : ∀ (H : Heap) (locs : List Loc) (ls : Array Slot) (S_38 : ZS) (x38_1 : Int32) (x38_2 : Int32) (x38_3 : Int32), mok S_38 → tg = fMO_send_38 P S_38 x38_1 x38_2 x38_3 → va_P (dC, dI) zCl (MW cI cZ cA o b P S_38) H → va_D A (MW cI cZ cA o b P S_38) → va_S A s.heap H locs → lv_has ls 12 [(0, .ref (o 0)), (1, .int x38_1), (2, .int x38_2), (3, .int x38_3)] → W p l e ({ frames := 1, cells := 0, slots := 0, locals := 24 } : Room) s m ([.ref (o 0), .int x0, .int x1, .int x2] : List Value).toArray below meth c H locs 0 0 Q (F0 m 38 ls []) := by
    intro H locs ls S_38 x38_1 x38_2 x38_3 gS_38 E hP hD hS hl
    unfold fMO_send_38 at E
    refine lv_iconst (v := 0) hx hb dMO_send_38 (by decide) ?_
    exact hJ39 H locs ls S_38 x38_1 x38_2 x38_3 0 (show zr 0 1 0 from by decide) gS_38 (Or.inl rfl) (Or.inl rfl) (Or.inl rfl) E hP hD hS (lv_sub hl [0, 1, 2, 3] rfl)
  refine lv_iload_n hx hb dMO_send_0 rfl (lv_at hl 1 rfl) ?_
  refine z_if_lt (tgt := 38) hx hb dMO_send_1 (by decide) E (fun c_1 E => ?_) (fun c_1 E => ?_)
  · have r_x0 : zr (-2147483648) (-1) x0 := zlt_x (zr_any x0) (show zr 0 0 0 from by decide) c_1 (by decide)
    exact hJ38 s.heap [] ls S x0 x1 x2 gS E hP hD hS (lv_sub hl [0, 1, 2, 3] rfl)
  · have r_x0 : zr 0 2147483647 x0 := zle_y (show zr 0 0 0 from by decide) (zr_any x0) (znlt c_1) (by decide)
    refine lv_iload_n hx hb dMO_send_4 rfl (lv_at hl 1 rfl) ?_
    refine lv_bipush (v := 64) hx hb dMO_send_5 (by decide) ?_
    refine z_icmp_ge (tgt := 38) hx hb dMO_send_7 (by decide) E (fun c_7 E => ?_) (fun c_7 E => ?_)
    · have r_x0 : zr 64 2147483647 x0 := zle_y (show zr 64 64 64 from by decide) r_x0 c_7 (by decide)
      exact hJ38 s.heap [] ls S x0 x1 x2 gS E hP hD hS (lv_sub hl [0, 1, 2, 3] rfl)
    · have r_x0 : zr 0 63 x0 := zlt_x r_x0 (show zr 64 64 64 from by decide) (znle c_7) (by decide)
      refine lv_iload_n hx hb dMO_send_10 rfl (lv_at hl 2 rfl) ?_
      refine z_if_lt (tgt := 38) hx hb dMO_send_11 (by decide) E (fun c_11 E => ?_) (fun c_11 E => ?_)
      · have r_x1 : zr (-2147483648) (-1) x1 := zlt_x (zr_any x1) (show zr 0 0 0 from by decide) c_11 (by decide)
        exact hJ38 s.heap [] ls S x0 x1 x2 gS E hP hD hS (lv_sub hl [0, 1, 2, 3] rfl)
      · have r_x1 : zr 0 2147483647 x1 := zle_y (show zr 0 0 0 from by decide) (zr_any x1) (znlt c_11) (by decide)
        refine lv_iload_n hx hb dMO_send_14 rfl (lv_at hl 2 rfl) ?_
        refine lv_bipush (v := 64) hx hb dMO_send_15 (by decide) ?_
        refine z_icmp_ge (tgt := 38) hx hb dMO_send_17 (by decide) E (fun c_17 E => ?_) (fun c_17 E => ?_)
        · have r_x1 : zr 64 2147483647 x1 := zle_y (show zr 64 64 64 from by decide) r_x1 c_17 (by decide)
          exact hJ38 s.heap [] ls S x0 x1 x2 gS E hP hD hS (lv_sub hl [0, 1, 2, 3] rfl)
        · have r_x1 : zr 0 63 x1 := zlt_x r_x1 (show zr 64 64 64 from by decide) (znle c_17) (by decide)
          refine lv_iload_n hx hb dMO_send_20 rfl (lv_at hl 3 rfl) ?_
          refine z_if_lt (tgt := 38) hx hb dMO_send_21 (by decide) E (fun c_21 E => ?_) (fun c_21 E => ?_)
          · have r_x2 : zr (-2147483648) (-1) x2 := zlt_x (zr_any x2) (show zr 0 0 0 from by decide) c_21 (by decide)
            exact hJ38 s.heap [] ls S x0 x1 x2 gS E hP hD hS (lv_sub hl [0, 1, 2, 3] rfl)
          · have r_x2 : zr 0 2147483647 x2 := zle_y (show zr 0 0 0 from by decide) (zr_any x2) (znlt c_21) (by decide)
            refine lv_iload_n hx hb dMO_send_24 rfl (lv_at hl 3 rfl) ?_
            refine lv_iconst (v := 4) hx hb dMO_send_25 (by decide) ?_
            refine z_icmp_ge (tgt := 38) hx hb dMO_send_26 (by decide) E (fun c_26 E => ?_) (fun c_26 E => ?_)
            · have r_x2 : zr 4 2147483647 x2 := zle_y (show zr 4 4 4 from by decide) r_x2 c_26 (by decide)
              exact hJ38 s.heap [] ls S x0 x1 x2 gS E hP hD hS (lv_sub hl [0, 1, 2, 3] rfl)
            · have r_x2 : zr 0 3 x2 := zlt_x r_x2 (show zr 4 4 4 from by decide) (znle c_26) (by decide)
              refine lv_iload_n hx hb dMO_send_29 rfl (lv_at hl 1 rfl) ?_
              refine lv_iload_n hx hb dMO_send_30 rfl (lv_at hl 2 rfl) ?_
              refine z_icmp_eq (tgt := 38) hx hb dMO_send_31 (by decide) E (fun c_31 E => ?_) (fun c_31 E => ?_)
              · exact hJ38 s.heap [] ls S x0 x1 x2 gS E hP hD hS (lv_sub hl [0, 1, 2, 3] rfl)
              · refine lv_iconst (v := 1) hx hb dMO_send_34 (by decide) ?_
                refine lv_goto (tgt := 39) hx hb dMO_send_35 (by decide) ?_
                exact hJ39 s.heap [] ls S x0 x1 x2 1 (show zr 0 1 1 from by decide) gS (Or.inr r_x0) (Or.inr r_x1) (Or.inr r_x2) E hP hD hS (lv_sub hl [0, 1, 2, 3] rfl)
noncomputable def fMO_bridge_22 (P_22 : ZS) (S_22 : ZS) (y22_0 : Int32) : ZS × ZS × Int32 := zl (S_22.setI 3 y22_0) (fun S1 => zl (S1.I 3) (fun k3 => (if y22_0 ≤ 0 then zl (P_22.I 1) (fun k5 => zl (k5 + 1) (fun k6 => zl (P_22.setI 1 k6) (fun P7 => zl (P7.I 1) (fun k9 => zl (k6 - 1) (fun k10 => (P7, S1, k10)))))) else (P_22, S1, 0))))
noncomputable def fMO_bridge_17 (P_17 : ZS) (S_17 : ZS) : ZS × ZS × Int32 := fMO_bridge_22 P_17 S_17 1
noncomputable def fMO_bridge (P S : ZS) : ZS × ZS × Int32 := zl (P.I 0) (fun k11 => (if k11 = 0 then zl (P.I 1) (fun k12 => (if k12 = 48 then fMO_bridge_17 P S else fMO_bridge_22 P S 0)) else fMO_bridge_17 P S))
set_option maxHeartbeats 4000000 in
set_option maxRecDepth 100000 in
theorem tMO_bridge (l : Launch) (dC : Nat → ClassId) (dI : Nat → Nat → Nat) (cI cZ cJ cA : ClassId) (a0 : Array Value) (s0 : State) (o b : Nat → Nat) (P S : ZS) (sz : Nat) (gP : mok P) (gS : mok S) : Met l yMO_bridge [Cond.code yMO_bridge bMO_bridge 1 (some .int)] ({ frames := 0, cells := 0, slots := 0, locals := 0 } : Room) (zP zCl dC dI (zTZ cI cZ cJ cA) a0 s0 [.ref (o 0)] sz (MW cI cZ cA o b P S)) (zQH zCl dC dI (fun (r : Int32) (x9 : ZS × ZS) => (x9.1, x9.2, r) = fMO_bridge P S  ∧ mok x9.1 ∧ mok x9.2 ∧ zr 0 47 r) (fun x9 : ZS × ZS => (MW cI cZ cA o b x9.1 x9.2)) (va_A (MW cI cZ cA o b P S) sz)) 0 0 (va_A (MW cI cZ cA o b P S) sz) := by
  refine Met.ofW (cc := bMO_bridge) (maxL := 1) (ret := (some .int)) (by decide) rfl ?_
  intro p e s m args below meth c s₁ B hml hv
  obtain ⟨rfl, hsz, hP, hK, hD0, hB⟩ := hv
  have hx := B.exec
  have hb := B.bytes
  have hr := B.returns
  have hown : s.vm.findClass "RingGuardModel" = some m.cls := findClass_of_methodNamed B.named
  have hlocks := B.notSynchronized
  subst hsz
  have hD := hD0.self (sz := s.heap.size)
  have hA0 := zA0 hD0 hB
  generalize hAe : va_A (MW cI cZ cA o b P S) s.heap.size = A at hD hA0 ⊢
  have hAD := hA0
  have hA : ∀ q : Nat, s.heap.size ≤ q → A q := fun q h => by rw [← hAe]; exact Or.inr h
  have hS : va_S A s.heap s.heap [] := va_S.rf
  have hl := lv_entry ([.ref (o 0)]) (n := 1) (Nat.le_of_ble_eq_true rfl)
  rw [lg_entry_eq]
  generalize (lg_sl ([.ref (o 0)]) ++ List.replicate (1 - (lg_sl ([.ref (o 0)])).length) Slot.unset).toArray = ls at hl ⊢
  have hl : lv_has ls 1 [(0, .ref (o 0))] := hl
  refine zgenQ (fun Q hQe => ?_)
  obtain ⟨tg, etg⟩ : ∃ z, z = fMO_bridge P S  := ⟨_, rfl⟩
  have E := etg
  unfold fMO_bridge at E
  have hJ22 : ∀ (H : Heap) (locs : List Loc) (ls : Array Slot) (P_22 : ZS) (S_22 : ZS) (y22_0 : Int32), zr 0 1 y22_0 → mok P_22 → mok S_22 → (y22_0 = 1 ∨ zr 0 47 (P_22.I 1)) → tg = fMO_bridge_22  P_22 S_22 y22_0 → va_P (dC, dI) zCl (MW cI cZ cA o b P_22 S_22) H → va_D A (MW cI cZ cA o b P_22 S_22) → va_S A s.heap H locs → lv_has ls 1 [(0, .ref (o 0))] → W p l e ({ frames := 0, cells := 0, slots := 0, locals := 0 } : Room) s m ([.ref (o 0)] : List Value).toArray below meth c H locs 0 0 Q (F0 m 22 ls [.int y22_0, .ref (o 0)]) := by
    intro H locs ls P_22 S_22 y22_0 r_y22_0 gP_22 gS_22 cd22_0 E hP hD hS hl
    unfold fMO_bridge_22 at E
    refine m_put_3 hx hb (hB.words zU_MO) hown hK hP hD hS (hB.word (zm4 k4_114) rfl) dMO_bridge_22 E (fun S1 H2 locs eS1 E hP hD hS => ?_)
    have gS1 : mok S1 := by rw [eS1]; exact gS_22.setI (t := 3) (zr_mono r_y22_0 (by decide))
    refine lv_aload_n hx hb dMO_bridge_25 rfl (lv_at hl 0 rfl) ?_
    refine m_get_3 hx hb (hB.words zU_MO) hown hK hP (hB.word (zm4 k4_114) rfl) dMO_bridge_26 E (fun k3 ek3 E => ?_)
    have x9 : y22_0 = k3 := by rw [ek3, eS1]; rfl
    subst x9
    refine z_if_le (tgt := 34) hx hb dMO_bridge_29 (by decide) E (fun c_29 E => ?_) (fun c_29 E => ?_)
    · have r_y22_0 : zr 0 0 y22_0 := zle_x r_y22_0 (show zr 0 0 0 from by decide) c_29 (by decide)
      have f4 : zr 0 47 (P_22.I 1) := (cd22_0).resolve_left (zrne r_y22_0 (by decide))
      refine lv_aload_n hx hb dMO_bridge_34 rfl (lv_at hl 0 rfl) ?_
      refine lv_dup hx hb dMO_bridge_35 rfl ?_
      refine m_get_1 hx hb (hB.words zU_MO) hown hK hP (hB.word (zm4 k4_116) rfl) dMO_bridge_36 E (fun k5 ek5 E => ?_)
      have r_k5 : zr 0 47 k5 := by rw [ek5]; exact f4
      refine lv_iconst (v := 1) hx hb dMO_bridge_39 (by decide) ?_
      refine z_iadd hx hb dMO_bridge_40 E (fun k6 ek6 E => ?_)
      have r_k6 : zr 1 48 k6 := zr_add r_k5 (show zr 1 1 1 from by decide) ek6 (by decide)
      refine m_put_1 hx hb (hB.words zU_MO) hown hK hP hD hS (hB.word (zm4 k4_116) rfl) dMO_bridge_41 E (fun P7 H8 locs eP7 E hP hD hS => ?_)
      have gP7 : mok P7 := by rw [eP7]; exact gP_22.setI (t := 1) (zr_mono r_k6 (by decide))
      refine lv_aload_n hx hb dMO_bridge_44 rfl (lv_at hl 0 rfl) ?_
      refine m_get_1 hx hb (hB.words zU_MO) hown hK hP (hB.word (zm4 k4_116) rfl) dMO_bridge_45 E (fun k9 ek9 E => ?_)
      have x9 : k6 = k9 := by rw [ek9, eP7]; rfl
      subst x9
      refine lv_iconst (v := 1) hx hb dMO_bridge_48 (by decide) ?_
      refine z_isub hx hb dMO_bridge_49 E (fun k10 ek10 E => ?_)
      have r_k10 : zr 0 47 k10 := zr_sub r_k6 (show zr 1 1 1 from by decide) ek10 (by decide)
      rw [hQe]
      exact W.iret (v := k10) hx hb hr (fun t ht hW => ⟨⟨k10, (P7, S1), rfl, ⟨E.symm.trans etg, gP7, gS1, r_k10⟩, by rw [ht]; exact hP, hD⟩, hS.F ht⟩) hS.2.2 dMO_bridge_50
    · have r_y22_0 : zr 1 1 y22_0 := zlt_y (show zr 0 0 0 from by decide) r_y22_0 (znle c_29) (by decide)
      refine lv_iconst (v := 0) hx hb dMO_bridge_32 (by decide) ?_
      rw [hQe]
      exact W.iret (v := 0) hx hb hr (fun t ht hW => ⟨⟨0, (P_22, S1), rfl, ⟨E.symm.trans etg, gP_22, gS1, (show zr 0 47 0 from by decide)⟩, by rw [ht]; exact hP, hD⟩, hS.F ht⟩) hS.2.2 dMO_bridge_33
  have hJ17 : ∀ (H : Heap) (locs : List Loc) (ls : Array Slot) (P_17 : ZS) (S_17 : ZS), mok P_17 → mok S_17 → tg = fMO_bridge_17  P_17 S_17 → va_P (dC, dI) zCl (MW cI cZ cA o b P_17 S_17) H → va_D A (MW cI cZ cA o b P_17 S_17) → va_S A s.heap H locs → lv_has ls 1 [(0, .ref (o 0))] → W p l e ({ frames := 0, cells := 0, slots := 0, locals := 0 } : Room) s m ([.ref (o 0)] : List Value).toArray below meth c H locs 0 0 Q (F0 m 17 ls [.ref (o 0)]) := by
    intro H locs ls P_17 S_17 gP_17 gS_17 E hP hD hS hl
    unfold fMO_bridge_17 at E
    refine lv_iconst (v := 1) hx hb dMO_bridge_17 (by decide) ?_
    refine lv_goto (tgt := 22) hx hb dMO_bridge_18 (by decide) ?_
    exact hJ22 H locs ls P_17 S_17 1 (show zr 0 1 1 from by decide) gP_17 gS_17 (Or.inl rfl) E hP hD hS (lv_sub hl [0] rfl)
  refine lv_aload_n hx hb dMO_bridge_0 rfl (lv_at hl 0 rfl) ?_
  refine lv_aload_n hx hb dMO_bridge_1 rfl (lv_at hl 0 rfl) ?_
  refine m_get_0 hx hb (hB.words zU_MO) hown hK hP (hB.word (zm4 k4_115) rfl) dMO_bridge_2 E (fun k11 ek11 E => ?_)
  have r_k11 : zr 0 1 k11 := by rw [ek11]; exact gP.2.1 0
  refine z_if_ne (tgt := 17) hx hb dMO_bridge_5 (by decide) E (fun c_5 E => ?_) (fun c_5 E => ?_)
  · have r_k11 : zr 1 1 k11 := zne_lo r_k11 c_5 (by decide)
    exact hJ17 s.heap [] ls P S gP gS E hP hD hS (lv_sub hl [0] rfl)
  · have r_k11 : zr 0 0 k11 := zeq_x (show zr 0 0 0 from by decide) c_5
    refine lv_aload_n hx hb dMO_bridge_8 rfl (lv_at hl 0 rfl) ?_
    refine m_get_1 hx hb (hB.words zU_MO) hown hK hP (hB.word (zm4 k4_116) rfl) dMO_bridge_9 E (fun k12 ek12 E => ?_)
    have r_k12 : zr 0 48 k12 := by rw [ek12]; exact gP.2.1 1
    refine lv_bipush (v := 48) hx hb dMO_bridge_12 (by decide) ?_
    refine z_icmp_ne (tgt := 21) hx hb dMO_bridge_14 (by decide) E (fun c_14 E => ?_) (fun c_14 E => ?_)
    · have r_k12 : zr 0 47 k12 := zne_hi r_k12 c_14 (by decide)
      refine lv_iconst (v := 0) hx hb dMO_bridge_21 (by decide) ?_
      exact hJ22 s.heap [] ls P S 0 (show zr 0 1 0 from by decide) gP gS (Or.inr (by show zr 0 47 (P.I 1); rw [← ek12]; exact r_k12)) E hP hD hS (lv_sub hl [0] rfl)
    · have r_k12 : zr 48 48 k12 := zeq_x (show zr 48 48 48 from by decide) c_14
      exact hJ17 s.heap [] ls P S gP gS E hP hD hS (lv_sub hl [0] rfl)
noncomputable def fMO_link_55 (P_55 : ZS) (S_55 : ZS) (x55_1 : Int32) (x55_2 : Int32) (x55_3 : Int32) (y55_0 : Int32) (y55_1 : Int32) : ZS × ZS × Int32 := zl2 (fMO_goes P_55 S_55 y55_1 y55_0) (fun S3 k2 => (if k2 = 0 then (P_55, S3, 0) else zl (P_55.I 2) (fun k6 => zl (P_55.setF 0 (k6 : Int32).toNatClampNeg x55_1) (fun P7 => zl (P7.I 2) (fun k9 => zl (P7.setF 1 (k6 : Int32).toNatClampNeg x55_2) (fun P10 => zl (P10.I 2) (fun k12 => zl (P10.setF 2 (k6 : Int32).toNatClampNeg x55_3) (fun P13 => zl (P13.I 2) (fun k15 => zl (k6 + 1) (fun k16 => zl (P13.setI 2 k16) (fun P17 => zl (P17.I 2) (fun k19 => zl (k16 - 1) (fun k20 => (P17, S3, k20))))))))))))))
noncomputable def fMO_link_54 (P_54 : ZS) (S_54 : ZS) (x54_1 : Int32) (x54_2 : Int32) (x54_3 : Int32) (y54_0 : Int32) : ZS × ZS × Int32 := fMO_link_55 P_54 S_54 x54_1 x54_2 x54_3 0 y54_0
noncomputable def fMO_link_34 (P_34 : ZS) (S_34 : ZS) (x34_1 : Int32) (x34_2 : Int32) (x34_3 : Int32) (y34_0 : Int32) : ZS × ZS × Int32 := zl (P_34.I 0) (fun k21 => (if k21 = 0 then zl (P_34.I 2) (fun k22 => (if 60 ≤ k22 then fMO_link_54 P_34 S_34 x34_1 x34_2 x34_3 y34_0 else fMO_link_55 P_34 S_34 x34_1 x34_2 x34_3 1 y34_0)) else fMO_link_54 P_34 S_34 x34_1 x34_2 x34_3 y34_0))
noncomputable def fMO_link_33 (P_33 : ZS) (S_33 : ZS) (x33_1 : Int32) (x33_2 : Int32) (x33_3 : Int32) : ZS × ZS × Int32 := fMO_link_34 P_33 S_33 x33_1 x33_2 x33_3 0
noncomputable def fMO_link (P S : ZS) (x0 : Int32) (x1 : Int32) (x2 : Int32) : ZS × ZS × Int32 := zl (fMO_isBridge P S x0) (fun k24 => (if k24 = 0 then fMO_link_33 P S x0 x1 x2 else zl (fMO_isBridge P S x1) (fun k26 => (if k26 = 0 then fMO_link_33 P S x0 x1 x2 else zl (fMO_isRing P S x2) (fun k28 => (if k28 = 0 then fMO_link_33 P S x0 x1 x2 else (if x0 = x1 then fMO_link_33 P S x0 x1 x2 else fMO_link_34 P S x0 x1 x2 1)))))))
set_option maxHeartbeats 4000000 in
set_option maxRecDepth 100000 in
theorem tMO_link (l : Launch) (dC : Nat → ClassId) (dI : Nat → Nat → Nat) (cI cZ cJ cA : ClassId) (a0 : Array Value) (s0 : State) (o b : Nat → Nat) (P S : ZS) (sz : Nat) (x0 : Int32) (x1 : Int32) (x2 : Int32) (gP : mok P) (gS : mok S) : Met l yMO_link [Cond.code yMO_link bMO_link 4 (some .int)] ({ frames := 1, cells := 0, slots := 0, locals := 22 } : Room) (zP zCl dC dI (zTZ cI cZ cJ cA) a0 s0 [.ref (o 0), .int x0, .int x1, .int x2] sz (MW cI cZ cA o b P S)) (zQH zCl dC dI (fun (r : Int32) (x9 : ZS × ZS) => (x9.1, x9.2, r) = fMO_link P S x0 x1 x2 ∧ mok x9.1 ∧ mok x9.2 ∧ zr 0 59 r) (fun x9 : ZS × ZS => (MW cI cZ cA o b x9.1 x9.2)) (va_A (MW cI cZ cA o b P S) sz)) 0 0 (va_A (MW cI cZ cA o b P S) sz) := by
  refine Met.ofW (cc := bMO_link) (maxL := 4) (ret := (some .int)) (by decide) rfl ?_
  intro p e s m args below meth c s₁ B hml hv
  obtain ⟨rfl, hsz, hP, hK, hD0, hB⟩ := hv
  have hx := B.exec
  have hb := B.bytes
  have hr := B.returns
  have hown : s.vm.findClass "RingGuardModel" = some m.cls := findClass_of_methodNamed B.named
  have hlocks := B.notSynchronized
  subst hsz
  have hD := hD0.self (sz := s.heap.size)
  have hA0 := zA0 hD0 hB
  generalize hAe : va_A (MW cI cZ cA o b P S) s.heap.size = A at hD hA0 ⊢
  have hAD := hA0
  have hA : ∀ q : Nat, s.heap.size ≤ q → A q := fun q h => by rw [← hAe]; exact Or.inr h
  have hS : va_S A s.heap s.heap [] := va_S.rf
  have hl := lv_entry ([.ref (o 0), .int x0, .int x1, .int x2]) (n := 4) (Nat.le_of_ble_eq_true rfl)
  rw [lg_entry_eq]
  generalize (lg_sl ([.ref (o 0), .int x0, .int x1, .int x2]) ++ List.replicate (4 - (lg_sl ([.ref (o 0), .int x0, .int x1, .int x2])).length) Slot.unset).toArray = ls at hl ⊢
  have hl : lv_has ls 4 [(0, .ref (o 0)), (1, .int x0), (2, .int x1), (3, .int x2)] := hl
  refine zgenQ (fun Q hQe => ?_)
  obtain ⟨tg, etg⟩ : ∃ z, z = fMO_link P S x0 x1 x2 := ⟨_, rfl⟩
  have E := etg
  unfold fMO_link at E
  have hJ34 : ∀ (H : Heap) (locs : List Loc) (ls : Array Slot) (P_34 : ZS) (S_34 : ZS) (x34_1 : Int32) (x34_2 : Int32) (x34_3 : Int32) (y34_0 : Int32), zr 0 1 y34_0 → mok P_34 → mok S_34 → (y34_0 = 0 ∨ zr 0 47 (x34_1)) → (y34_0 = 0 ∨ zr 0 47 (x34_2)) → (y34_0 = 0 ∨ zr 0 5 (x34_3)) → tg = fMO_link_34  P_34 S_34 x34_1 x34_2 x34_3 y34_0 → va_P (dC, dI) zCl (MW cI cZ cA o b P_34 S_34) H → va_D A (MW cI cZ cA o b P_34 S_34) → va_S A s.heap H locs → lv_has ls 4 [(0, .ref (o 0)), (1, .int x34_1), (2, .int x34_2), (3, .int x34_3)] → W p l e ({ frames := 1, cells := 0, slots := 0, locals := 22 } : Room) s m ([.ref (o 0), .int x0, .int x1, .int x2] : List Value).toArray below meth c H locs 0 0 Q (F0 m 34 ls [.int y34_0, .ref (o 0)]) := by
    intro H locs ls P_34 S_34 x34_1 x34_2 x34_3 y34_0 r_y34_0 gP_34 gS_34 cd34_0 cd34_1 cd34_2 E hP hD hS hl
    unfold fMO_link_34 at E
    have hJ55 : ∀ (H : Heap) (locs : List Loc) (ls : Array Slot) (P_55 : ZS) (S_55 : ZS) (x55_1 : Int32) (x55_2 : Int32) (x55_3 : Int32) (y55_0 : Int32) (y55_1 : Int32), zr 0 1 y55_0 → zr 0 1 y55_1 → mok P_55 → mok S_55 → (y55_0 = 0 ∨ zr 0 59 (P_55.I 2)) → (y55_1 = 0 ∨ zr 0 47 (x55_1)) → (y55_1 = 0 ∨ zr 0 47 (x55_2)) → (y55_1 = 0 ∨ zr 0 5 (x55_3)) → tg = fMO_link_55  P_55 S_55 x55_1 x55_2 x55_3 y55_0 y55_1 → va_P (dC, dI) zCl (MW cI cZ cA o b P_55 S_55) H → va_D A (MW cI cZ cA o b P_55 S_55) → va_S A s.heap H locs → lv_has ls 4 [(0, .ref (o 0)), (1, .int x55_1), (2, .int x55_2), (3, .int x55_3)] → W p l e ({ frames := 1, cells := 0, slots := 0, locals := 22 } : Room) s m ([.ref (o 0), .int x0, .int x1, .int x2] : List Value).toArray below meth c H locs 0 0 Q (F0 m 55 ls [.int y55_0, .int y55_1, .ref (o 0)]) := by
      intro H locs ls P_55 S_55 x55_1 x55_2 x55_3 y55_0 y55_1 r_y55_0 r_y55_1 gP_55 gS_55 cd55_0 cd55_1 cd55_2 cd55_3 E hP hD hS hl
      unfold fMO_link_55 at E
      refine zcI (va_runV (As := [.int y55_1, .int y55_0]) (rest := []) ⟨hx, hb, hml, hown, zno⟩ (tMO_goes l dC dI cI cZ cJ cA a0 s0 o b P_55 S_55 H.size y55_1 y55_0 gP_55 gS_55 r_y55_1 r_y55_0) (zcw 2 (hB.word (zm5 k5_56) rfl) (hB.word (zm1 k1_9) rfl) (hB.word (zm5 k5_53) rfl) (hB.word (zm5 k5_55) rfl) (k2_selects_private (by decide) (hB.word (zm4 k4_109) rfl) (hB.word (zm5 k5_54) rfl) (hB.word (zm5 k5_55) rfl)) rfl rfl (by decide +kernel) ⟨Nat.le_of_ble_eq_true rfl, Nat.le_of_ble_eq_true rfl⟩) ⟨zP_blind, va_recv hK hP (ci := 7) (q0 := 0) rfl rfl, zP_pre hP hK hD hAD (zB_on hB hA0 hS)⟩ rfl rfl hl.1 rfl (lv_room (Nat.le_of_ble_eq_true rfl)) dMO_link_55 ⟨Nat.le_of_ble_eq_true rfl, Nat.le_of_ble_eq_true rfl⟩) hD hS hA (fun k2 S3 H1 locs h4 hP hD hS => ?_)
      have E := zl2_s E h4.1
      have gS3 := h4.2.1
      obtain ⟨v_S3, eS3⟩ := zgoes_S h4.1
      refine z_if_ne (tgt := 63) hx hb dMO_link_58 (by decide) E (fun c_58 E => ?_) (fun c_58 E => ?_)
      · have r_k2 : zr 1 1 k2 := zne_lo h4.2.2 c_58 (by decide)
        have r_x55_1 : zr 0 47 x55_1 := ((zor (zgoes_0 h4.1) cd55_1)).resolve_left (zrne r_k2 (by decide))
        have r_x55_2 : zr 0 47 x55_2 := ((zor (zgoes_0 h4.1) cd55_2)).resolve_left (zrne r_k2 (by decide))
        have r_x55_3 : zr 0 5 x55_3 := ((zor (zgoes_0 h4.1) cd55_3)).resolve_left (zrne r_k2 (by decide))
        have f5 : zr 0 59 (P_55.I 2) := ((zor (zgoes_1 h4.1) cd55_0)).resolve_left (zrne r_k2 (by decide))
        refine lv_aload_n hx hb dMO_link_63 rfl (lv_at hl 0 rfl) ?_
        refine m_getA_0 hx hb (hB.words zU_MO) hown hK hP (hB.word (zm4 k4_118) rfl) dMO_link_64 ?_
        refine lv_aload_n hx hb dMO_link_67 rfl (lv_at hl 0 rfl) ?_
        refine m_get_2 hx hb (hB.words zU_MO) hown hK hP (hB.word (zm4 k4_117) rfl) dMO_link_68 E (fun k6 ek6 E => ?_)
        have r_k6 : zr 0 59 k6 := by rw [ek6]; exact f5
        refine lv_iload_n hx hb dMO_link_71 rfl (lv_at hl 1 rfl) ?_
        refine m_astP hx hb hK hP hD hS 0 (by decide) rfl r_k6 (by decide) dMO_link_72 E (fun P7 H8 locs eP7 E hP hD hS => ?_)
        have gP7 : mok P7 := by rw [eP7]; exact gP_55.setF (k := 0) r_x55_1 (Or.inl (by decide))
        refine lv_aload_n hx hb dMO_link_73 rfl (lv_at hl 0 rfl) ?_
        refine m_getA_1 hx hb (hB.words zU_MO) hown hK hP (hB.word (zm4 k4_119) rfl) dMO_link_74 ?_
        refine lv_aload_n hx hb dMO_link_77 rfl (lv_at hl 0 rfl) ?_
        refine m_get_2 hx hb (hB.words zU_MO) hown hK hP (hB.word (zm4 k4_117) rfl) dMO_link_78 E (fun k9 ek9 E => ?_)
        have x9 : k6 = k9 := by rw [ek6, ek9, eP7]; rfl
        subst x9
        refine lv_iload_n hx hb dMO_link_81 rfl (lv_at hl 2 rfl) ?_
        refine m_astP hx hb hK hP hD hS 1 (by decide) rfl r_k6 (by decide) dMO_link_82 E (fun P10 H11 locs eP10 E hP hD hS => ?_)
        have gP10 : mok P10 := by rw [eP10]; exact gP7.setF (k := 1) r_x55_2 (Or.inl (by decide))
        refine lv_aload_n hx hb dMO_link_83 rfl (lv_at hl 0 rfl) ?_
        refine m_getA_2 hx hb (hB.words zU_MO) hown hK hP (hB.word (zm4 k4_120) rfl) dMO_link_84 ?_
        refine lv_aload_n hx hb dMO_link_87 rfl (lv_at hl 0 rfl) ?_
        refine m_get_2 hx hb (hB.words zU_MO) hown hK hP (hB.word (zm4 k4_117) rfl) dMO_link_88 E (fun k12 ek12 E => ?_)
        have x9 : k6 = k12 := by rw [ek6, ek12, eP10, eP7]; rfl
        subst x9
        refine lv_iload_n hx hb dMO_link_91 rfl (lv_at hl 3 rfl) ?_
        refine m_astP hx hb hK hP hD hS 2 (by decide) rfl r_k6 (by decide) dMO_link_92 E (fun P13 H14 locs eP13 E hP hD hS => ?_)
        have gP13 : mok P13 := by rw [eP13]; exact gP10.setF (k := 2) r_x55_3 (Or.inl (by decide))
        refine lv_aload_n hx hb dMO_link_93 rfl (lv_at hl 0 rfl) ?_
        refine lv_dup hx hb dMO_link_94 rfl ?_
        refine m_get_2 hx hb (hB.words zU_MO) hown hK hP (hB.word (zm4 k4_117) rfl) dMO_link_95 E (fun k15 ek15 E => ?_)
        have x9 : k6 = k15 := by rw [ek6, ek15, eP13, eP10, eP7]; rfl
        subst x9
        refine lv_iconst (v := 1) hx hb dMO_link_98 (by decide) ?_
        refine z_iadd hx hb dMO_link_99 E (fun k16 ek16 E => ?_)
        have r_k16 : zr 1 60 k16 := zr_add r_k6 (show zr 1 1 1 from by decide) ek16 (by decide)
        refine m_put_2 hx hb (hB.words zU_MO) hown hK hP hD hS (hB.word (zm4 k4_117) rfl) dMO_link_100 E (fun P17 H18 locs eP17 E hP hD hS => ?_)
        have gP17 : mok P17 := by rw [eP17]; exact gP13.setI (t := 2) (zr_mono r_k16 (by decide))
        refine lv_aload_n hx hb dMO_link_103 rfl (lv_at hl 0 rfl) ?_
        refine m_get_2 hx hb (hB.words zU_MO) hown hK hP (hB.word (zm4 k4_117) rfl) dMO_link_104 E (fun k19 ek19 E => ?_)
        have x9 : k16 = k19 := by rw [ek19, eP17]; rfl
        subst x9
        refine lv_iconst (v := 1) hx hb dMO_link_107 (by decide) ?_
        refine z_isub hx hb dMO_link_108 E (fun k20 ek20 E => ?_)
        have r_k20 : zr 0 59 k20 := zr_sub r_k16 (show zr 1 1 1 from by decide) ek20 (by decide)
        rw [hQe]
        exact W.iret (v := k20) hx hb hr (fun t ht hW => ⟨⟨k20, (P17, S3), rfl, ⟨E.symm.trans etg, gP17, gS3, r_k20⟩, by rw [ht]; exact hP, hD⟩, hS.F ht⟩) hS.2.2 dMO_link_109
      · have r_k2 : zr 0 0 k2 := zeq_x (show zr 0 0 0 from by decide) c_58
        refine lv_iconst (v := 0) hx hb dMO_link_61 (by decide) ?_
        rw [hQe]
        exact W.iret (v := 0) hx hb hr (fun t ht hW => ⟨⟨0, (P_55, S3), rfl, ⟨E.symm.trans etg, gP_55, gS3, (show zr 0 59 0 from by decide)⟩, by rw [ht]; exact hP, hD⟩, hS.F ht⟩) hS.2.2 dMO_link_62
    have hJ54 : ∀ (H : Heap) (locs : List Loc) (ls : Array Slot) (P_54 : ZS) (S_54 : ZS) (x54_1 : Int32) (x54_2 : Int32) (x54_3 : Int32) (y54_0 : Int32), zr 0 1 y54_0 → mok P_54 → mok S_54 → (y54_0 = 0 ∨ zr 0 47 (x54_1)) → (y54_0 = 0 ∨ zr 0 47 (x54_2)) → (y54_0 = 0 ∨ zr 0 5 (x54_3)) → tg = fMO_link_54  P_54 S_54 x54_1 x54_2 x54_3 y54_0 → va_P (dC, dI) zCl (MW cI cZ cA o b P_54 S_54) H → va_D A (MW cI cZ cA o b P_54 S_54) → va_S A s.heap H locs → lv_has ls 4 [(0, .ref (o 0)), (1, .int x54_1), (2, .int x54_2), (3, .int x54_3)] → W p l e ({ frames := 1, cells := 0, slots := 0, locals := 22 } : Room) s m ([.ref (o 0), .int x0, .int x1, .int x2] : List Value).toArray below meth c H locs 0 0 Q (F0 m 54 ls [.int y54_0, .ref (o 0)]) := by
      intro H locs ls P_54 S_54 x54_1 x54_2 x54_3 y54_0 r_y54_0 gP_54 gS_54 cd54_0 cd54_1 cd54_2 E hP hD hS hl
      unfold fMO_link_54 at E
      refine lv_iconst (v := 0) hx hb dMO_link_54 (by decide) ?_
      exact hJ55 H locs ls P_54 S_54 x54_1 x54_2 x54_3 0 y54_0 (show zr 0 1 0 from by decide) r_y54_0 gP_54 gS_54 (Or.inl rfl) (zorm cd54_0 (by decide)) (zorm cd54_1 (by decide)) (zorm cd54_2 (by decide)) E hP hD hS (lv_sub hl [0, 1, 2, 3] rfl)
    refine lv_aload_n hx hb dMO_link_34 rfl (lv_at hl 0 rfl) ?_
    refine m_get_0 hx hb (hB.words zU_MO) hown hK hP (hB.word (zm4 k4_115) rfl) dMO_link_35 E (fun k21 ek21 E => ?_)
    have r_k21 : zr 0 1 k21 := by rw [ek21]; exact gP_34.2.1 0
    refine z_if_ne (tgt := 54) hx hb dMO_link_38 (by decide) E (fun c_38 E => ?_) (fun c_38 E => ?_)
    · have r_k21 : zr 1 1 k21 := zne_lo r_k21 c_38 (by decide)
      exact hJ54 H locs ls P_34 S_34 x34_1 x34_2 x34_3 y34_0 r_y34_0 gP_34 gS_34 (zorm cd34_0 (by decide)) (zorm cd34_1 (by decide)) (zorm cd34_2 (by decide)) E hP hD hS (lv_sub hl [0, 1, 2, 3] rfl)
    · have r_k21 : zr 0 0 k21 := zeq_x (show zr 0 0 0 from by decide) c_38
      refine lv_aload_n hx hb dMO_link_41 rfl (lv_at hl 0 rfl) ?_
      refine m_get_2 hx hb (hB.words zU_MO) hown hK hP (hB.word (zm4 k4_117) rfl) dMO_link_42 E (fun k22 ek22 E => ?_)
      have r_k22 : zr 0 60 k22 := by rw [ek22]; exact gP_34.2.1 2
      refine lv_bipush (v := 60) hx hb dMO_link_45 (by decide) ?_
      refine z_icmp_ge (tgt := 54) hx hb dMO_link_47 (by decide) E (fun c_47 E => ?_) (fun c_47 E => ?_)
      · have r_k22 : zr 60 60 k22 := zle_y (show zr 60 60 60 from by decide) r_k22 c_47 (by decide)
        exact hJ54 H locs ls P_34 S_34 x34_1 x34_2 x34_3 y34_0 r_y34_0 gP_34 gS_34 (zorm cd34_0 (by decide)) (zorm cd34_1 (by decide)) (zorm cd34_2 (by decide)) E hP hD hS (lv_sub hl [0, 1, 2, 3] rfl)
      · have r_k22 : zr 0 59 k22 := zlt_x r_k22 (show zr 60 60 60 from by decide) (znle c_47) (by decide)
        refine lv_iconst (v := 1) hx hb dMO_link_50 (by decide) ?_
        refine lv_goto (tgt := 55) hx hb dMO_link_51 (by decide) ?_
        exact hJ55 H locs ls P_34 S_34 x34_1 x34_2 x34_3 1 y34_0 (show zr 0 1 1 from by decide) r_y34_0 gP_34 gS_34 (Or.inr (by show zr 0 59 (P_34.I 2); rw [← ek22]; exact r_k22)) (zorm cd34_0 (by decide)) (zorm cd34_1 (by decide)) (zorm cd34_2 (by decide)) E hP hD hS (lv_sub hl [0, 1, 2, 3] rfl)
  have hJ33 : ∀ (H : Heap) (locs : List Loc) (ls : Array Slot) (P_33 : ZS) (S_33 : ZS) (x33_1 : Int32) (x33_2 : Int32) (x33_3 : Int32), mok P_33 → mok S_33 → tg = fMO_link_33  P_33 S_33 x33_1 x33_2 x33_3 → va_P (dC, dI) zCl (MW cI cZ cA o b P_33 S_33) H → va_D A (MW cI cZ cA o b P_33 S_33) → va_S A s.heap H locs → lv_has ls 4 [(0, .ref (o 0)), (1, .int x33_1), (2, .int x33_2), (3, .int x33_3)] → W p l e ({ frames := 1, cells := 0, slots := 0, locals := 22 } : Room) s m ([.ref (o 0), .int x0, .int x1, .int x2] : List Value).toArray below meth c H locs 0 0 Q (F0 m 33 ls [.ref (o 0)]) := by
    intro H locs ls P_33 S_33 x33_1 x33_2 x33_3 gP_33 gS_33 E hP hD hS hl
    unfold fMO_link_33 at E
    refine lv_iconst (v := 0) hx hb dMO_link_33 (by decide) ?_
    exact hJ34 H locs ls P_33 S_33 x33_1 x33_2 x33_3 0 (show zr 0 1 0 from by decide) gP_33 gS_33 (Or.inl rfl) (Or.inl rfl) (Or.inl rfl) E hP hD hS (lv_sub hl [0, 1, 2, 3] rfl)
  refine lv_aload_n hx hb dMO_link_0 rfl (lv_at hl 0 rfl) ?_
  refine lv_aload_n hx hb dMO_link_1 rfl (lv_at hl 0 rfl) ?_
  refine lv_iload_n hx hb dMO_link_2 rfl (lv_at hl 1 rfl) ?_
  refine zcallp (va_runV (As := [.int x0]) (rest := [.ref (o 0)]) ⟨hx, hb, hml, hown, zno⟩ (tMO_isBridge l dC dI cI cZ cJ cA a0 s0 o b P S s.heap.size x0 gP gS) (zcw 1 (hB.word (zm5 k5_49) rfl) (hB.word (zm1 k1_9) rfl) (hB.word (zm5 k5_46) rfl) (hB.word (zm5 k5_48) rfl) (k2_selects_private (by decide) (hB.word (zm4 k4_109) rfl) (hB.word (zm5 k5_47) rfl) (hB.word (zm5 k5_48) rfl)) rfl rfl (by decide +kernel) ⟨Nat.le_of_ble_eq_true rfl, Nat.le_of_ble_eq_true rfl⟩) ⟨zP_blind, va_recv hK hP (ci := 7) (q0 := 0) rfl rfl, zP_pre hP hK hD hAD (zB_on hB hA0 hS)⟩ rfl rfl hl.1 rfl (lv_room (Nat.le_of_ble_eq_true rfl)) dMO_link_3 ⟨Nat.le_of_ble_eq_true rfl, Nat.le_of_ble_eq_true rfl⟩) hS hA (fun k24 H23 locs hk24 hz1 hk1 hS => ?_)
  have hP := zKeep hP hk1
  have E := zl_s E hk24.1
  refine z_if_eq (tgt := 33) hx hb dMO_link_6 (by decide) E (fun c_6 E => ?_) (fun c_6 E => ?_)
  · have r_k24 : zr 0 0 k24 := zeq_x (show zr 0 0 0 from by decide) c_6
    exact hJ33 H23 locs ls P S x0 x1 x2 gP gS E hP hD hS (lv_sub hl [0, 1, 2, 3] rfl)
  · have r_k24 : zr 1 1 k24 := zne_lo hk24.2 c_6 (by decide)
    have r_x0 : zr 0 47 x0 := ((zc_isBridge gP hk24.1)).resolve_left (zrne r_k24 (by decide))
    refine lv_aload_n hx hb dMO_link_9 rfl (lv_at hl 0 rfl) ?_
    refine lv_iload_n hx hb dMO_link_10 rfl (lv_at hl 2 rfl) ?_
    refine zcallp (va_runV (As := [.int x1]) (rest := [.ref (o 0)]) ⟨hx, hb, hml, hown, zno⟩ (tMO_isBridge l dC dI cI cZ cJ cA a0 s0 o b P S H23.size x1 gP gS) (zcw 1 (hB.word (zm5 k5_49) rfl) (hB.word (zm1 k1_9) rfl) (hB.word (zm5 k5_46) rfl) (hB.word (zm5 k5_48) rfl) (k2_selects_private (by decide) (hB.word (zm4 k4_109) rfl) (hB.word (zm5 k5_47) rfl) (hB.word (zm5 k5_48) rfl)) rfl rfl (by decide +kernel) ⟨Nat.le_of_ble_eq_true rfl, Nat.le_of_ble_eq_true rfl⟩) ⟨zP_blind, va_recv hK hP (ci := 7) (q0 := 0) rfl rfl, zP_pre hP hK hD hAD (zB_on hB hA0 hS)⟩ rfl rfl hl.1 rfl (lv_room (Nat.le_of_ble_eq_true rfl)) dMO_link_11 ⟨Nat.le_of_ble_eq_true rfl, Nat.le_of_ble_eq_true rfl⟩) hS hA (fun k26 H25 locs hk26 hz1 hk1 hS => ?_)
    have hP := zKeep hP hk1
    have E := zl_s E hk26.1
    refine z_if_eq (tgt := 33) hx hb dMO_link_14 (by decide) E (fun c_14 E => ?_) (fun c_14 E => ?_)
    · have r_k26 : zr 0 0 k26 := zeq_x (show zr 0 0 0 from by decide) c_14
      exact hJ33 H25 locs ls P S x0 x1 x2 gP gS E hP hD hS (lv_sub hl [0, 1, 2, 3] rfl)
    · have r_k26 : zr 1 1 k26 := zne_lo hk26.2 c_14 (by decide)
      have r_x1 : zr 0 47 x1 := ((zc_isBridge gP hk26.1)).resolve_left (zrne r_k26 (by decide))
      refine lv_iload_n hx hb dMO_link_17 rfl (lv_at hl 3 rfl) ?_
      refine zcallp (va_runS (As := [.int x2]) (rest := [.ref (o 0)]) ⟨hx, hb, hml, hown, zno⟩ (tMO_isRing l dC dI cI cZ cJ cA a0 s0 o b P S H25.size x2 gP gS) ⟨zcb 1 (hB.word (zm5 k5_52) rfl) (hB.word (zm1 k1_9) rfl) (hB.word (zm5 k5_50) rfl) rfl rfl (by decide +kernel) ⟨Nat.le_of_ble_eq_true rfl, Nat.le_of_ble_eq_true rfl⟩, hB.word (zm5 k5_51) rfl⟩ ⟨zP_blind, zP_pre hP hK hD hAD (zB_on hB hA0 hS)⟩ rfl rfl hl.1 rfl (lv_room (Nat.le_of_ble_eq_true rfl)) dMO_link_18 ⟨Nat.le_of_ble_eq_true rfl, Nat.le_of_ble_eq_true rfl⟩) hS hA (fun k28 H27 locs hk28 hz1 hk1 hS => ?_)
      have hP := zKeep hP hk1
      have E := zl_s E hk28.1
      refine z_if_eq (tgt := 33) hx hb dMO_link_21 (by decide) E (fun c_21 E => ?_) (fun c_21 E => ?_)
      · have r_k28 : zr 0 0 k28 := zeq_x (show zr 0 0 0 from by decide) c_21
        exact hJ33 H27 locs ls P S x0 x1 x2 gP gS E hP hD hS (lv_sub hl [0, 1, 2, 3] rfl)
      · have r_k28 : zr 1 1 k28 := zne_lo hk28.2 c_21 (by decide)
        have r_x2 : zr 0 5 x2 := ((zc_isRing gP hk28.1)).resolve_left (zrne r_k28 (by decide))
        refine lv_iload_n hx hb dMO_link_24 rfl (lv_at hl 1 rfl) ?_
        refine lv_iload_n hx hb dMO_link_25 rfl (lv_at hl 2 rfl) ?_
        refine z_icmp_eq (tgt := 33) hx hb dMO_link_26 (by decide) E (fun c_26 E => ?_) (fun c_26 E => ?_)
        · exact hJ33 H27 locs ls P S x0 x1 x2 gP gS E hP hD hS (lv_sub hl [0, 1, 2, 3] rfl)
        · refine lv_iconst (v := 1) hx hb dMO_link_29 (by decide) ?_
          refine lv_goto (tgt := 34) hx hb dMO_link_30 (by decide) ?_
          exact hJ34 H27 locs ls P S x0 x1 x2 1 (show zr 0 1 1 from by decide) gP gS (Or.inr r_x0) (Or.inr r_x1) (Or.inr r_x2) E hP hD hS (lv_sub hl [0, 1, 2, 3] rfl)
noncomputable def fMO_owner_41 (P_41 : ZS) (S_41 : ZS) (x41_1 : Int32) (x41_2 : Int32) (x41_3 : Int32) (y41_0 : Int32) (y41_1 : Int32) : ZS × ZS := zl2 (fMO_goes P_41 S_41 y41_1 y41_0) (fun S3 k2 => (if k2 = 0 then (P_41, S3) else zl (P_41.setF 3 (x41_1 : Int32).toNatClampNeg x41_2) (fun P5 => zl (P5.setF 4 (x41_1 : Int32).toNatClampNeg x41_3) (fun P7 => (P7, S3)))))
noncomputable def fMO_owner_29 (P_29 : ZS) (S_29 : ZS) (x29_1 : Int32) (x29_2 : Int32) (x29_3 : Int32) (y29_0 : Int32) : ZS × ZS := zl (P_29.I 0) (fun k9 => (if k9 = 0 then fMO_owner_41 P_29 S_29 x29_1 x29_2 x29_3 1 y29_0 else fMO_owner_41 P_29 S_29 x29_1 x29_2 x29_3 0 y29_0))
noncomputable def fMO_owner_28 (P_28 : ZS) (S_28 : ZS) (x28_1 : Int32) (x28_2 : Int32) (x28_3 : Int32) : ZS × ZS := fMO_owner_29 P_28 S_28 x28_1 x28_2 x28_3 0
noncomputable def fMO_owner (P S : ZS) (x0 : Int32) (x1 : Int32) (x2 : Int32) : ZS × ZS := zl (fMO_isRing P S x0) (fun k11 => (if k11 = 0 then fMO_owner_28 P S x0 x1 x2 else zl (fMO_isBridge P S x1) (fun k13 => (if k13 = 0 then fMO_owner_28 P S x0 x1 x2 else zl (fMO_isLink P S x2) (fun k15 => (if k15 = 0 then fMO_owner_28 P S x0 x1 x2 else fMO_owner_29 P S x0 x1 x2 1))))))
set_option maxHeartbeats 4000000 in
set_option maxRecDepth 100000 in
theorem tMO_owner (l : Launch) (dC : Nat → ClassId) (dI : Nat → Nat → Nat) (cI cZ cJ cA : ClassId) (a0 : Array Value) (s0 : State) (o b : Nat → Nat) (P S : ZS) (sz : Nat) (x0 : Int32) (x1 : Int32) (x2 : Int32) (gP : mok P) (gS : mok S) : Met l yMO_owner [Cond.code yMO_owner bMO_owner 4 none] ({ frames := 1, cells := 0, slots := 0, locals := 22 } : Room) (zP zCl dC dI (zTZ cI cZ cJ cA) a0 s0 [.ref (o 0), .int x0, .int x1, .int x2] sz (MW cI cZ cA o b P S)) (zQG zCl dC dI (fun (x9 : ZS × ZS) => x9 = fMO_owner P S x0 x1 x2 ∧ mok x9.1 ∧ mok x9.2) (fun x9 : ZS × ZS => (MW cI cZ cA o b x9.1 x9.2)) (va_A (MW cI cZ cA o b P S) sz)) 0 0 (va_A (MW cI cZ cA o b P S) sz) := by
  refine Met.ofW (cc := bMO_owner) (maxL := 4) (ret := none) (by decide) rfl ?_
  intro p e s m args below meth c s₁ B hml hv
  obtain ⟨rfl, hsz, hP, hK, hD0, hB⟩ := hv
  have hx := B.exec
  have hb := B.bytes
  have hr := B.returns
  have hown : s.vm.findClass "RingGuardModel" = some m.cls := findClass_of_methodNamed B.named
  have hlocks := B.notSynchronized
  subst hsz
  have hD := hD0.self (sz := s.heap.size)
  have hA0 := zA0 hD0 hB
  generalize hAe : va_A (MW cI cZ cA o b P S) s.heap.size = A at hD hA0 ⊢
  have hAD := hA0
  have hA : ∀ q : Nat, s.heap.size ≤ q → A q := fun q h => by rw [← hAe]; exact Or.inr h
  have hS : va_S A s.heap s.heap [] := va_S.rf
  have hl := lv_entry ([.ref (o 0), .int x0, .int x1, .int x2]) (n := 4) (Nat.le_of_ble_eq_true rfl)
  rw [lg_entry_eq]
  generalize (lg_sl ([.ref (o 0), .int x0, .int x1, .int x2]) ++ List.replicate (4 - (lg_sl ([.ref (o 0), .int x0, .int x1, .int x2])).length) Slot.unset).toArray = ls at hl ⊢
  have hl : lv_has ls 4 [(0, .ref (o 0)), (1, .int x0), (2, .int x1), (3, .int x2)] := hl
  refine zgenQ (fun Q hQe => ?_)
  obtain ⟨tg, etg⟩ : ∃ z, z = fMO_owner P S x0 x1 x2 := ⟨_, rfl⟩
  have E := etg
  unfold fMO_owner at E
  have hJ29 : ∀ (H : Heap) (locs : List Loc) (ls : Array Slot) (P_29 : ZS) (S_29 : ZS) (x29_1 : Int32) (x29_2 : Int32) (x29_3 : Int32) (y29_0 : Int32), zr 0 1 y29_0 → mok P_29 → mok S_29 → (y29_0 = 0 ∨ zr 0 5 (x29_1)) → (y29_0 = 0 ∨ zr 0 47 (x29_2)) → (y29_0 = 0 ∨ zr 0 59 (x29_3)) → tg = fMO_owner_29  P_29 S_29 x29_1 x29_2 x29_3 y29_0 → va_P (dC, dI) zCl (MW cI cZ cA o b P_29 S_29) H → va_D A (MW cI cZ cA o b P_29 S_29) → va_S A s.heap H locs → lv_has ls 4 [(0, .ref (o 0)), (1, .int x29_1), (2, .int x29_2), (3, .int x29_3)] → W p l e ({ frames := 1, cells := 0, slots := 0, locals := 22 } : Room) s m ([.ref (o 0), .int x0, .int x1, .int x2] : List Value).toArray below meth c H locs 0 0 Q (F0 m 29 ls [.int y29_0, .ref (o 0)]) := by
    intro H locs ls P_29 S_29 x29_1 x29_2 x29_3 y29_0 r_y29_0 gP_29 gS_29 cd29_0 cd29_1 cd29_2 E hP hD hS hl
    unfold fMO_owner_29 at E
    have hJ41 : ∀ (H : Heap) (locs : List Loc) (ls : Array Slot) (P_41 : ZS) (S_41 : ZS) (x41_1 : Int32) (x41_2 : Int32) (x41_3 : Int32) (y41_0 : Int32) (y41_1 : Int32), zr 0 1 y41_0 → zr 0 1 y41_1 → mok P_41 → mok S_41 → (y41_1 = 0 ∨ zr 0 5 (x41_1)) → (y41_1 = 0 ∨ zr 0 47 (x41_2)) → (y41_1 = 0 ∨ zr 0 59 (x41_3)) → tg = fMO_owner_41  P_41 S_41 x41_1 x41_2 x41_3 y41_0 y41_1 → va_P (dC, dI) zCl (MW cI cZ cA o b P_41 S_41) H → va_D A (MW cI cZ cA o b P_41 S_41) → va_S A s.heap H locs → lv_has ls 4 [(0, .ref (o 0)), (1, .int x41_1), (2, .int x41_2), (3, .int x41_3)] → W p l e ({ frames := 1, cells := 0, slots := 0, locals := 22 } : Room) s m ([.ref (o 0), .int x0, .int x1, .int x2] : List Value).toArray below meth c H locs 0 0 Q (F0 m 41 ls [.int y41_0, .int y41_1, .ref (o 0)]) := by
      intro H locs ls P_41 S_41 x41_1 x41_2 x41_3 y41_0 y41_1 r_y41_0 r_y41_1 gP_41 gS_41 cd41_0 cd41_1 cd41_2 E hP hD hS hl
      unfold fMO_owner_41 at E
      refine zcI (va_runV (As := [.int y41_1, .int y41_0]) (rest := []) ⟨hx, hb, hml, hown, zno⟩ (tMO_goes l dC dI cI cZ cJ cA a0 s0 o b P_41 S_41 H.size y41_1 y41_0 gP_41 gS_41 r_y41_1 r_y41_0) (zcw 2 (hB.word (zm5 k5_56) rfl) (hB.word (zm1 k1_9) rfl) (hB.word (zm5 k5_53) rfl) (hB.word (zm5 k5_55) rfl) (k2_selects_private (by decide) (hB.word (zm4 k4_109) rfl) (hB.word (zm5 k5_54) rfl) (hB.word (zm5 k5_55) rfl)) rfl rfl (by decide +kernel) ⟨Nat.le_of_ble_eq_true rfl, Nat.le_of_ble_eq_true rfl⟩) ⟨zP_blind, va_recv hK hP (ci := 7) (q0 := 0) rfl rfl, zP_pre hP hK hD hAD (zB_on hB hA0 hS)⟩ rfl rfl hl.1 rfl (lv_room (Nat.le_of_ble_eq_true rfl)) dMO_owner_41 ⟨Nat.le_of_ble_eq_true rfl, Nat.le_of_ble_eq_true rfl⟩) hD hS hA (fun k2 S3 H1 locs h4 hP hD hS => ?_)
      have E := zl2_s E h4.1
      have gS3 := h4.2.1
      obtain ⟨v_S3, eS3⟩ := zgoes_S h4.1
      refine z_if_eq (tgt := 61) hx hb dMO_owner_44 (by decide) E (fun c_44 E => ?_) (fun c_44 E => ?_)
      · have r_k2 : zr 0 0 k2 := zeq_x (show zr 0 0 0 from by decide) c_44
        rw [hQe]
        exact W.vret hx hb hr (fun t ht hW => ⟨⟨(P_41, S3), rfl, ⟨E.symm.trans etg, gP_41, gS3⟩, by rw [ht]; exact hP, hD⟩, hS.F ht⟩) hS.2.2 dMO_owner_61
      · have r_k2 : zr 1 1 k2 := zne_lo h4.2.2 c_44 (by decide)
        have r_x41_1 : zr 0 5 x41_1 := ((zor (zgoes_0 h4.1) cd41_0)).resolve_left (zrne r_k2 (by decide))
        have r_x41_2 : zr 0 47 x41_2 := ((zor (zgoes_0 h4.1) cd41_1)).resolve_left (zrne r_k2 (by decide))
        have r_x41_3 : zr 0 59 x41_3 := ((zor (zgoes_0 h4.1) cd41_2)).resolve_left (zrne r_k2 (by decide))
        refine lv_aload_n hx hb dMO_owner_47 rfl (lv_at hl 0 rfl) ?_
        refine m_getA_3 hx hb (hB.words zU_MO) hown hK hP (hB.word (zm4 k4_125) rfl) dMO_owner_48 ?_
        refine lv_iload_n hx hb dMO_owner_51 rfl (lv_at hl 1 rfl) ?_
        refine lv_iload_n hx hb dMO_owner_52 rfl (lv_at hl 2 rfl) ?_
        refine m_astP hx hb hK hP hD hS 3 (by decide) rfl r_x41_1 (by decide) dMO_owner_53 E (fun P5 H6 locs eP5 E hP hD hS => ?_)
        have gP5 : mok P5 := by rw [eP5]; exact gP_41.setF (k := 3) (zr_mono r_x41_2 (by decide)) (Or.inl (by decide))
        refine lv_aload_n hx hb dMO_owner_54 rfl (lv_at hl 0 rfl) ?_
        refine m_getA_4 hx hb (hB.words zU_MO) hown hK hP (hB.word (zm4 k4_126) rfl) dMO_owner_55 ?_
        refine lv_iload_n hx hb dMO_owner_58 rfl (lv_at hl 1 rfl) ?_
        refine lv_iload_n hx hb dMO_owner_59 rfl (lv_at hl 3 rfl) ?_
        refine m_astP hx hb hK hP hD hS 4 (by decide) rfl r_x41_1 (by decide) dMO_owner_60 E (fun P7 H8 locs eP7 E hP hD hS => ?_)
        have gP7 : mok P7 := by rw [eP7]; exact gP5.setF (k := 4) (zr_mono r_x41_3 (by decide)) (Or.inl (by decide))
        rw [hQe]
        exact W.vret hx hb hr (fun t ht hW => ⟨⟨(P7, S3), rfl, ⟨E.symm.trans etg, gP7, gS3⟩, by rw [ht]; exact hP, hD⟩, hS.F ht⟩) hS.2.2 dMO_owner_61
    refine lv_aload_n hx hb dMO_owner_29 rfl (lv_at hl 0 rfl) ?_
    refine m_get_0 hx hb (hB.words zU_MO) hown hK hP (hB.word (zm4 k4_115) rfl) dMO_owner_30 E (fun k9 ek9 E => ?_)
    have r_k9 : zr 0 1 k9 := by rw [ek9]; exact gP_29.2.1 0
    refine z_if_ne (tgt := 40) hx hb dMO_owner_33 (by decide) E (fun c_33 E => ?_) (fun c_33 E => ?_)
    · have r_k9 : zr 1 1 k9 := zne_lo r_k9 c_33 (by decide)
      refine lv_iconst (v := 0) hx hb dMO_owner_40 (by decide) ?_
      exact hJ41 H locs ls P_29 S_29 x29_1 x29_2 x29_3 0 y29_0 (show zr 0 1 0 from by decide) r_y29_0 gP_29 gS_29 (zorm cd29_0 (by decide)) (zorm cd29_1 (by decide)) (zorm cd29_2 (by decide)) E hP hD hS (lv_sub hl [0, 1, 2, 3] rfl)
    · have r_k9 : zr 0 0 k9 := zeq_x (show zr 0 0 0 from by decide) c_33
      refine lv_iconst (v := 1) hx hb dMO_owner_36 (by decide) ?_
      refine lv_goto (tgt := 41) hx hb dMO_owner_37 (by decide) ?_
      exact hJ41 H locs ls P_29 S_29 x29_1 x29_2 x29_3 1 y29_0 (show zr 0 1 1 from by decide) r_y29_0 gP_29 gS_29 (zorm cd29_0 (by decide)) (zorm cd29_1 (by decide)) (zorm cd29_2 (by decide)) E hP hD hS (lv_sub hl [0, 1, 2, 3] rfl)
  have hJ28 : ∀ (H : Heap) (locs : List Loc) (ls : Array Slot) (P_28 : ZS) (S_28 : ZS) (x28_1 : Int32) (x28_2 : Int32) (x28_3 : Int32), mok P_28 → mok S_28 → tg = fMO_owner_28  P_28 S_28 x28_1 x28_2 x28_3 → va_P (dC, dI) zCl (MW cI cZ cA o b P_28 S_28) H → va_D A (MW cI cZ cA o b P_28 S_28) → va_S A s.heap H locs → lv_has ls 4 [(0, .ref (o 0)), (1, .int x28_1), (2, .int x28_2), (3, .int x28_3)] → W p l e ({ frames := 1, cells := 0, slots := 0, locals := 22 } : Room) s m ([.ref (o 0), .int x0, .int x1, .int x2] : List Value).toArray below meth c H locs 0 0 Q (F0 m 28 ls [.ref (o 0)]) := by
    intro H locs ls P_28 S_28 x28_1 x28_2 x28_3 gP_28 gS_28 E hP hD hS hl
    unfold fMO_owner_28 at E
    refine lv_iconst (v := 0) hx hb dMO_owner_28 (by decide) ?_
    exact hJ29 H locs ls P_28 S_28 x28_1 x28_2 x28_3 0 (show zr 0 1 0 from by decide) gP_28 gS_28 (Or.inl rfl) (Or.inl rfl) (Or.inl rfl) E hP hD hS (lv_sub hl [0, 1, 2, 3] rfl)
  refine lv_aload_n hx hb dMO_owner_0 rfl (lv_at hl 0 rfl) ?_
  refine lv_iload_n hx hb dMO_owner_1 rfl (lv_at hl 1 rfl) ?_
  refine zcallp (va_runS (As := [.int x0]) (rest := [.ref (o 0)]) ⟨hx, hb, hml, hown, zno⟩ (tMO_isRing l dC dI cI cZ cJ cA a0 s0 o b P S s.heap.size x0 gP gS) ⟨zcb 1 (hB.word (zm5 k5_52) rfl) (hB.word (zm1 k1_9) rfl) (hB.word (zm5 k5_50) rfl) rfl rfl (by decide +kernel) ⟨Nat.le_of_ble_eq_true rfl, Nat.le_of_ble_eq_true rfl⟩, hB.word (zm5 k5_51) rfl⟩ ⟨zP_blind, zP_pre hP hK hD hAD (zB_on hB hA0 hS)⟩ rfl rfl hl.1 rfl (lv_room (Nat.le_of_ble_eq_true rfl)) dMO_owner_2 ⟨Nat.le_of_ble_eq_true rfl, Nat.le_of_ble_eq_true rfl⟩) hS hA (fun k11 H10 locs hk11 hz1 hk1 hS => ?_)
  have hP := zKeep hP hk1
  have E := zl_s E hk11.1
  refine z_if_eq (tgt := 28) hx hb dMO_owner_5 (by decide) E (fun c_5 E => ?_) (fun c_5 E => ?_)
  · have r_k11 : zr 0 0 k11 := zeq_x (show zr 0 0 0 from by decide) c_5
    exact hJ28 H10 locs ls P S x0 x1 x2 gP gS E hP hD hS (lv_sub hl [0, 1, 2, 3] rfl)
  · have r_k11 : zr 1 1 k11 := zne_lo hk11.2 c_5 (by decide)
    have r_x0 : zr 0 5 x0 := ((zc_isRing gP hk11.1)).resolve_left (zrne r_k11 (by decide))
    refine lv_aload_n hx hb dMO_owner_8 rfl (lv_at hl 0 rfl) ?_
    refine lv_iload_n hx hb dMO_owner_9 rfl (lv_at hl 2 rfl) ?_
    refine zcallp (va_runV (As := [.int x1]) (rest := [.ref (o 0)]) ⟨hx, hb, hml, hown, zno⟩ (tMO_isBridge l dC dI cI cZ cJ cA a0 s0 o b P S H10.size x1 gP gS) (zcw 1 (hB.word (zm5 k5_49) rfl) (hB.word (zm1 k1_9) rfl) (hB.word (zm5 k5_46) rfl) (hB.word (zm5 k5_48) rfl) (k2_selects_private (by decide) (hB.word (zm4 k4_109) rfl) (hB.word (zm5 k5_47) rfl) (hB.word (zm5 k5_48) rfl)) rfl rfl (by decide +kernel) ⟨Nat.le_of_ble_eq_true rfl, Nat.le_of_ble_eq_true rfl⟩) ⟨zP_blind, va_recv hK hP (ci := 7) (q0 := 0) rfl rfl, zP_pre hP hK hD hAD (zB_on hB hA0 hS)⟩ rfl rfl hl.1 rfl (lv_room (Nat.le_of_ble_eq_true rfl)) dMO_owner_10 ⟨Nat.le_of_ble_eq_true rfl, Nat.le_of_ble_eq_true rfl⟩) hS hA (fun k13 H12 locs hk13 hz1 hk1 hS => ?_)
    have hP := zKeep hP hk1
    have E := zl_s E hk13.1
    refine z_if_eq (tgt := 28) hx hb dMO_owner_13 (by decide) E (fun c_13 E => ?_) (fun c_13 E => ?_)
    · have r_k13 : zr 0 0 k13 := zeq_x (show zr 0 0 0 from by decide) c_13
      exact hJ28 H12 locs ls P S x0 x1 x2 gP gS E hP hD hS (lv_sub hl [0, 1, 2, 3] rfl)
    · have r_k13 : zr 1 1 k13 := zne_lo hk13.2 c_13 (by decide)
      have r_x1 : zr 0 47 x1 := ((zc_isBridge gP hk13.1)).resolve_left (zrne r_k13 (by decide))
      refine lv_aload_n hx hb dMO_owner_16 rfl (lv_at hl 0 rfl) ?_
      refine lv_iload_n hx hb dMO_owner_17 rfl (lv_at hl 3 rfl) ?_
      refine zcallp (va_runV (As := [.int x2]) (rest := [.ref (o 0)]) ⟨hx, hb, hml, hown, zno⟩ (tMO_isLink l dC dI cI cZ cJ cA a0 s0 o b P S H12.size x2 gP gS) (zcw 1 (hB.word (zm5 k5_64) rfl) (hB.word (zm1 k1_9) rfl) (hB.word (zm5 k5_61) rfl) (hB.word (zm5 k5_63) rfl) (k2_selects_private (by decide) (hB.word (zm4 k4_109) rfl) (hB.word (zm5 k5_62) rfl) (hB.word (zm5 k5_63) rfl)) rfl rfl (by decide +kernel) ⟨Nat.le_of_ble_eq_true rfl, Nat.le_of_ble_eq_true rfl⟩) ⟨zP_blind, va_recv hK hP (ci := 7) (q0 := 0) rfl rfl, zP_pre hP hK hD hAD (zB_on hB hA0 hS)⟩ rfl rfl hl.1 rfl (lv_room (Nat.le_of_ble_eq_true rfl)) dMO_owner_18 ⟨Nat.le_of_ble_eq_true rfl, Nat.le_of_ble_eq_true rfl⟩) hS hA (fun k15 H14 locs hk15 hz1 hk1 hS => ?_)
      have hP := zKeep hP hk1
      have E := zl_s E hk15.1
      refine z_if_eq (tgt := 28) hx hb dMO_owner_21 (by decide) E (fun c_21 E => ?_) (fun c_21 E => ?_)
      · have r_k15 : zr 0 0 k15 := zeq_x (show zr 0 0 0 from by decide) c_21
        exact hJ28 H14 locs ls P S x0 x1 x2 gP gS E hP hD hS (lv_sub hl [0, 1, 2, 3] rfl)
      · have r_k15 : zr 1 1 k15 := zne_lo hk15.2 c_21 (by decide)
        have r_x2 : zr 0 59 x2 := ((zc_isLink gP hk15.1)).resolve_left (zrne r_k15 (by decide))
        refine lv_iconst (v := 1) hx hb dMO_owner_24 (by decide) ?_
        refine lv_goto (tgt := 29) hx hb dMO_owner_25 (by decide) ?_
        exact hJ29 H14 locs ls P S x0 x1 x2 1 (show zr 0 1 1 from by decide) gP gS (Or.inr r_x0) (Or.inr r_x1) (Or.inr r_x2) E hP hD hS (lv_sub hl [0, 1, 2, 3] rfl)
noncomputable def fMO_fail_25 (P : ZS) (S_25 : ZS) : ZS × Int32 := zl (fMO_look P S_25) (fun S2 => (S2, 0))
noncomputable def fMO_fail_74 (P : ZS) (rc50 : ZS → Int32 → Int32 → (ZS × Int32)) (S_74 : ZS) (x74_1 : Int32) (x74_2 : Int32) (y74_0 : Int32) : ZS × Int32 := zl (fMO_end P S_74 y74_0 x74_1) (fun k5 => zl (S_74.F 10 (k5 : Int32).toNatClampNeg) (fun k6 => zl (k6 &&& (-9)) (fun k7 => zl (fMO_change P S_74 y74_0 x74_1 k7) (fun S9 => zl (fMO_begins P S9 y74_0 x74_1 1) (fun S12 => zl (S12.F 8 (x74_1 : Int32).toNatClampNeg) (fun k14 => zl (P.F 2 (x74_1 : Int32).toNatClampNeg) (fun k15 => zl (fMO_news P S12 y74_0 x74_1 k14 k15) (fun S17 => zl (x74_2 + 1) (fun k19 => rc50 S17 x74_1 k19)))))))))
noncomputable def fMO_fail_50 (P : ZS) (rc50 : ZS → Int32 → Int32 → (ZS × Int32)) (S_50 : ZS) (x50_1 : Int32) (x50_2 : Int32) : ZS × Int32 := (if 2 ≤ x50_2 then zl (S_50.setI 7 0) (fun S20 => zl (fMO_look P S20) (fun S23 => (S23, 1))) else (if x50_2 = 0 then zl (P.F 0 (x50_1 : Int32).toNatClampNeg) (fun k26 => fMO_fail_74 P rc50 S_50 x50_1 x50_2 k26) else zl (P.F 1 (x50_1 : Int32).toNatClampNeg) (fun k25 => fMO_fail_74 P rc50 S_50 x50_1 x50_2 k25)))
noncomputable def fMO_fail (P S : ZS) (x0 : Int32) : ZS × Int32 := zl (fMO_isLink P S x0) (fun k28 => zl (P.I 0) (fun k29 => zl2 (fMO_goes P S k28 k29) (fun S32 k31 => (if k31 = 0 then fMO_fail_25 P S32 else zl (S32.F 7 (x0 : Int32).toNatClampNeg) (fun k34 => (if k34 = 0 then zl (S32.setF 7 (x0 : Int32).toNatClampNeg 1) (fun S35 => zl (S35.F 8 (x0 : Int32).toNatClampNeg) (fun k37 => zl (k37 + 1) (fun k38 => zl (S35.setF 8 (x0 : Int32).toNatClampNeg k38) (fun S39 => zfix (fun S9 _ _ => (S9, 0)) (fMO_fail_50 P) 3 S39 x0 0)))) else fMO_fail_25 P S32))))))
set_option maxHeartbeats 4000000 in
set_option maxRecDepth 100000 in
theorem tMO_fail (l : Launch) (dC : Nat → ClassId) (dI : Nat → Nat → Nat) (cI cZ cJ cA : ClassId) (a0 : Array Value) (s0 : State) (o b : Nat → Nat) (P S : ZS) (sz : Nat) (x0 : Int32) (gP : mok P) (gS : mok S) : Met l yMO_fail [Cond.code yMO_fail bMO_fail 4 (some .boolean)] ({ frames := 4, cells := 0, slots := 0, locals := 94 } : Room) (zP zCl dC dI (zTZ cI cZ cJ cA) a0 s0 [.ref (o 0), .int x0] sz (MW cI cZ cA o b P S)) (zQH zCl dC dI (fun (r : Int32) (x9 : ZS) => (x9, r) = fMO_fail P S x0 ∧ mok x9 ∧ zr 0 1 r) (fun x9 : ZS => (MW cI cZ cA o b P x9)) (va_A (MW cI cZ cA o b P S) sz)) 0 0 (va_A (MW cI cZ cA o b P S) sz) := by
  refine Met.ofW (cc := bMO_fail) (maxL := 4) (ret := (some .boolean)) (by decide) rfl ?_
  intro p e s m args below meth c s₁ B hml hv
  obtain ⟨rfl, hsz, hP, hK, hD0, hB⟩ := hv
  have hx := B.exec
  have hb := B.bytes
  have hr := B.returns
  have hown : s.vm.findClass "RingGuardModel" = some m.cls := findClass_of_methodNamed B.named
  have hlocks := B.notSynchronized
  subst hsz
  have hD := hD0.self (sz := s.heap.size)
  have hA0 := zA0 hD0 hB
  generalize hAe : va_A (MW cI cZ cA o b P S) s.heap.size = A at hD hA0 ⊢
  have hAD := hA0
  have hA : ∀ q : Nat, s.heap.size ≤ q → A q := fun q h => by rw [← hAe]; exact Or.inr h
  have hS : va_S A s.heap s.heap [] := va_S.rf
  have hl := lv_entry ([.ref (o 0), .int x0]) (n := 4) (Nat.le_of_ble_eq_true rfl)
  rw [lg_entry_eq]
  generalize (lg_sl ([.ref (o 0), .int x0]) ++ List.replicate (4 - (lg_sl ([.ref (o 0), .int x0])).length) Slot.unset).toArray = ls at hl ⊢
  have hl : lv_has ls 4 [(0, .ref (o 0)), (1, .int x0)] := hl
  refine zgenQ (fun Q hQe => ?_)
  obtain ⟨tg, etg⟩ : ∃ z, z = fMO_fail P S x0 := ⟨_, rfl⟩
  have E := etg
  unfold fMO_fail at E
  have hJ25 : ∀ (H : Heap) (locs : List Loc) (ls : Array Slot) (S_25 : ZS), mok S_25 → tg = fMO_fail_25 P S_25 → va_P (dC, dI) zCl (MW cI cZ cA o b P S_25) H → va_D A (MW cI cZ cA o b P S_25) → va_S A s.heap H locs → lv_has ls 4 [(0, .ref (o 0))] → W p l e ({ frames := 4, cells := 0, slots := 0, locals := 94 } : Room) s m ([.ref (o 0), .int x0] : List Value).toArray below meth c H locs 0 0 Q (F0 m 25 ls []) := by
    intro H locs ls S_25 gS_25 E hP hD hS hl
    unfold fMO_fail_25 at E
    refine lv_aload_n hx hb dMO_fail_25 rfl (lv_at hl 0 rfl) ?_
    refine zcV (va_runV (As := []) (rest := []) ⟨hx, hb, hml, hown, zno⟩ (tMO_look l dC dI cI cZ cJ cA a0 s0 o b P S_25 H.size gP gS_25) (zcw 0 (hB.word (zm5 k5_143) rfl) (hB.word (zm1 k1_9) rfl) (hB.word (zm5 k5_140) rfl) (hB.word (zm5 k5_142) rfl) (k2_selects_private (by decide) (hB.word (zm4 k4_109) rfl) (hB.word (zm5 k5_141) rfl) (hB.word (zm5 k5_142) rfl)) rfl rfl (by decide +kernel) ⟨Nat.le_of_ble_eq_true rfl, Nat.le_of_ble_eq_true rfl⟩) ⟨zP_blind, va_recv hK hP (ci := 7) (q0 := 0) rfl rfl, zP_pre hP hK hD hAD (zB_on hB hA0 hS)⟩ rfl rfl hl.1 rfl (lv_room (Nat.le_of_ble_eq_true rfl)) dMO_fail_26 ⟨Nat.le_of_ble_eq_true rfl, Nat.le_of_ble_eq_true rfl⟩) hD hS hA (fun S2 H1 locs h3 hP hD hS => ?_)
    have E := zl_s E h3.1
    have gS2 := h3.2
    refine lv_iconst (v := 0) hx hb dMO_fail_29 (by decide) ?_
    rw [hQe]
    exact W.zret (v := 0) (ty := .boolean) hx hb hr (znar (show zr 0 1 0 from by decide)) (fun t ht hW => ⟨⟨0, S2, rfl, ⟨E.symm.trans etg, gS2, (show zr 0 1 0 from by decide)⟩, by rw [ht]; exact hP, hD⟩, hS.F ht⟩) hS.2.2 dMO_fail_30
  have hL50 : ∀ (n50 : Nat) (H : Heap) (locs : List Loc) (ls : Array Slot) (S_50 : ZS) (x50_1 : Int32) (x50_2 : Int32), zr 0 59 x50_1 → zr 0 2 x50_2 → mok S_50 → 2 + 1 - x50_2.toInt ≤ (n50 : Int) → tg = zfix (fun S9 _ _ => (S9, 0)) (fMO_fail_50 P) n50 S_50 x50_1 x50_2 → va_P (dC, dI) zCl (MW cI cZ cA o b P S_50) H → va_D A (MW cI cZ cA o b P S_50) → va_S A s.heap H locs → lv_has ls 4 [(0, .ref (o 0)), (1, .int x50_1), (2, .int x50_2)] → W p l e ({ frames := 4, cells := 0, slots := 0, locals := 94 } : Room) s m ([.ref (o 0), .int x0] : List Value).toArray below meth c H locs 0 0 Q (F0 m 50 ls []) := by
    intro n50
    induction n50 with
    | zero => intro H locs ls S_50 x50_1 x50_2 r_x50_1 r_x50_2 gS_50 hm50 E hP hD hS hl; exact absurd hm50 (zfuel0U r_x50_2)
    | succ n50 ih50 =>
      intro H locs ls S_50 x50_1 x50_2 r_x50_1 r_x50_2 gS_50 hm50 E hP hD hS hl
      rw [zfix_s] at E
      generalize zfix (fun S9 _ _ => (S9, 0)) (fMO_fail_50 P) n50 = rc50 at ih50 E
      unfold fMO_fail_50 at E
      have hJ74 : ∀ (H : Heap) (locs : List Loc) (ls : Array Slot) (S_74 : ZS) (x74_1 : Int32) (x74_2 : Int32) (y74_0 : Int32), zr 0 59 x74_1 → zr 0 1 x74_2 → zr 0 47 y74_0 → mok S_74 → 2 + 1 - x74_2.toInt ≤ ((n50 + 1 : Nat) : Int) → tg = fMO_fail_74 P rc50 S_74 x74_1 x74_2 y74_0 → va_P (dC, dI) zCl (MW cI cZ cA o b P S_74) H → va_D A (MW cI cZ cA o b P S_74) → va_S A s.heap H locs → lv_has ls 4 [(0, .ref (o 0)), (1, .int x74_1), (2, .int x74_2)] → W p l e ({ frames := 4, cells := 0, slots := 0, locals := 94 } : Room) s m ([.ref (o 0), .int x0] : List Value).toArray below meth c H locs 0 0 Q (F0 m 74 ls [.int y74_0]) := by
        intro H locs ls S_74 x74_1 x74_2 y74_0 r_x74_1 r_x74_2 r_y74_0 gS_74 hm50_74 E hP hD hS hl
        unfold fMO_fail_74 at E
        refine lv_istore_n (lv' := [(3, .int y74_0), (0, .ref (o 0)), (1, .int x74_1), (2, .int x74_2)]) hx hb dMO_fail_74 rfl hl (by decide) rfl (fun ls hl => ?_)
        refine lv_aload_n hx hb dMO_fail_75 rfl (lv_at hl 1 rfl) ?_
        refine lv_iload_n hx hb dMO_fail_76 rfl (lv_at hl 0 rfl) ?_
        refine lv_iload_n hx hb dMO_fail_77 rfl (lv_at hl 2 rfl) ?_
        refine lv_aload_n hx hb dMO_fail_78 rfl (lv_at hl 1 rfl) ?_
        refine m_getA_10 hx hb (hB.words zU_MO) hown hK hP (hB.word (zm4 k4_124) rfl) dMO_fail_79 ?_
        refine lv_aload_n hx hb dMO_fail_82 rfl (lv_at hl 1 rfl) ?_
        refine lv_iload_n hx hb dMO_fail_83 rfl (lv_at hl 0 rfl) ?_
        refine lv_iload_n hx hb dMO_fail_84 rfl (lv_at hl 2 rfl) ?_
        refine zcallp (va_runV (As := [.int y74_0, .int x74_1]) (rest := [.ref (b 10), .int x74_1, .int y74_0, .ref (o 0)]) ⟨hx, hb, hml, hown, zno⟩ (tMO_end l dC dI cI cZ cJ cA a0 s0 o b P S_74 H.size y74_0 x74_1 gP gS_74 r_x74_1) (zcw 2 (hB.word (zm5 k5_112) rfl) (hB.word (zm1 k1_9) rfl) (hB.word (zm5 k5_109) rfl) (hB.word (zm5 k5_111) rfl) (k2_selects_private (by decide) (hB.word (zm4 k4_109) rfl) (hB.word (zm5 k5_110) rfl) (hB.word (zm5 k5_111) rfl)) rfl rfl (by decide +kernel) ⟨Nat.le_of_ble_eq_true rfl, Nat.le_of_ble_eq_true rfl⟩) ⟨zP_blind, va_recv hK hP (ci := 7) (q0 := 0) rfl rfl, zP_pre hP hK hD hAD (zB_on hB hA0 hS)⟩ rfl rfl hl.1 rfl (lv_room (Nat.le_of_ble_eq_true rfl)) dMO_fail_85 ⟨Nat.le_of_ble_eq_true rfl, Nat.le_of_ble_eq_true rfl⟩) hS hA (fun k5 H4 locs hk5 hz1 hk1 hS => ?_)
        have hP := zKeep hP hk1
        have E := zl_s E hk5.1
        refine m_aldS hx hb hK hP 10 (by decide) rfl hk5.2 (by decide) dMO_fail_88 E (fun k6 ek6 E => ?_)
        refine lv_bipush (v := (-9)) hx hb dMO_fail_89 (by decide) ?_
        refine z_iand hx hb dMO_fail_91 E (fun k7 ek7 E => ?_)
        refine zcV (va_runV (As := [.int y74_0, .int x74_1, .int k7]) (rest := []) ⟨hx, hb, hml, hown, zno⟩ (tMO_change l dC dI cI cZ cJ cA a0 s0 o b P S_74 H4.size y74_0 x74_1 k7 gP gS_74 r_y74_0 r_x74_1) (zcw 3 (hB.word (zm5 k5_116) rfl) (hB.word (zm1 k1_9) rfl) (hB.word (zm5 k5_113) rfl) (hB.word (zm5 k5_115) rfl) (k2_selects_private (by decide) (hB.word (zm4 k4_109) rfl) (hB.word (zm5 k5_114) rfl) (hB.word (zm5 k5_115) rfl)) rfl rfl (by decide +kernel) ⟨Nat.le_of_ble_eq_true rfl, Nat.le_of_ble_eq_true rfl⟩) ⟨zP_blind, va_recv hK hP (ci := 7) (q0 := 0) rfl rfl, zP_pre hP hK hD hAD (zB_on hB hA0 hS)⟩ rfl rfl hl.1 rfl (lv_room (Nat.le_of_ble_eq_true rfl)) dMO_fail_92 ⟨Nat.le_of_ble_eq_true rfl, Nat.le_of_ble_eq_true rfl⟩) hD hS hA (fun S9 H8 locs h10 hP hD hS => ?_)
        have E := zl_s E h10.1
        have gS9 := h10.2
        refine lv_aload_n hx hb dMO_fail_95 rfl (lv_at hl 1 rfl) ?_
        refine lv_iload_n hx hb dMO_fail_96 rfl (lv_at hl 0 rfl) ?_
        refine lv_iload_n hx hb dMO_fail_97 rfl (lv_at hl 2 rfl) ?_
        refine lv_iconst (v := 1) hx hb dMO_fail_98 (by decide) ?_
        refine zcV (va_runV (As := [.int y74_0, .int x74_1, .int 1]) (rest := []) ⟨hx, hb, hml, hown, zno⟩ (tMO_begins l dC dI cI cZ cJ cA a0 s0 o b P S9 H8.size y74_0 x74_1 1 gP gS9 r_y74_0 r_x74_1) (zcw 3 (hB.word (zm5 k5_151) rfl) (hB.word (zm1 k1_9) rfl) (hB.word (zm5 k5_148) rfl) (hB.word (zm5 k5_150) rfl) (k2_selects_private (by decide) (hB.word (zm4 k4_109) rfl) (hB.word (zm5 k5_149) rfl) (hB.word (zm5 k5_150) rfl)) rfl rfl (by decide +kernel) ⟨Nat.le_of_ble_eq_true rfl, Nat.le_of_ble_eq_true rfl⟩) ⟨zP_blind, va_recv hK hP (ci := 7) (q0 := 0) rfl rfl, zP_pre hP hK hD hAD (zB_on hB hA0 hS)⟩ rfl rfl hl.1 rfl (lv_room (Nat.le_of_ble_eq_true rfl)) dMO_fail_99 ⟨Nat.le_of_ble_eq_true rfl, Nat.le_of_ble_eq_true rfl⟩) hD hS hA (fun S12 H11 locs h13 hP hD hS => ?_)
        have E := zl_s E h13.1
        have gS12 := h13.2
        refine lv_aload_n hx hb dMO_fail_102 rfl (lv_at hl 1 rfl) ?_
        refine lv_iload_n hx hb dMO_fail_103 rfl (lv_at hl 0 rfl) ?_
        refine lv_iload_n hx hb dMO_fail_104 rfl (lv_at hl 2 rfl) ?_
        refine lv_aload_n hx hb dMO_fail_105 rfl (lv_at hl 1 rfl) ?_
        refine m_getA_8 hx hb (hB.words zU_MO) hown hK hP (hB.word (zm4 k4_122) rfl) dMO_fail_106 ?_
        refine lv_iload_n hx hb dMO_fail_109 rfl (lv_at hl 2 rfl) ?_
        refine m_aldS hx hb hK hP 8 (by decide) rfl r_x74_1 (by decide) dMO_fail_110 E (fun k14 ek14 E => ?_)
        refine lv_aload_n hx hb dMO_fail_111 rfl (lv_at hl 1 rfl) ?_
        refine m_getA_2 hx hb (hB.words zU_MO) hown hK hP (hB.word (zm4 k4_120) rfl) dMO_fail_112 ?_
        refine lv_iload_n hx hb dMO_fail_115 rfl (lv_at hl 2 rfl) ?_
        refine m_aldP hx hb hK hP 2 (by decide) rfl r_x74_1 (by decide) dMO_fail_116 E (fun k15 ek15 E => ?_)
        have r_k15 : zr 0 5 k15 := by rw [ek15]; exact gP.1 2 _
        refine zcV (va_runV (As := [.int y74_0, .int x74_1, .int k14, .int k15]) (rest := []) ⟨hx, hb, hml, hown, zno⟩ (tMO_news l dC dI cI cZ cJ cA a0 s0 o b P S12 H11.size y74_0 x74_1 k14 k15 gP gS12 r_y74_0 (zr_mono r_x74_1 (by decide))) (zcw 4 (hB.word (zm5 k5_123) rfl) (hB.word (zm1 k1_9) rfl) (hB.word (zm5 k5_120) rfl) (hB.word (zm5 k5_122) rfl) (k2_selects_private (by decide) (hB.word (zm4 k4_109) rfl) (hB.word (zm5 k5_121) rfl) (hB.word (zm5 k5_122) rfl)) rfl rfl (by decide +kernel) ⟨Nat.le_of_ble_eq_true rfl, Nat.le_of_ble_eq_true rfl⟩) ⟨zP_blind, va_recv hK hP (ci := 7) (q0 := 0) rfl rfl, zP_pre hP hK hD hAD (zB_on hB hA0 hS)⟩ rfl rfl hl.1 rfl (lv_room (Nat.le_of_ble_eq_true rfl)) dMO_fail_117 ⟨Nat.le_of_ble_eq_true rfl, Nat.le_of_ble_eq_true rfl⟩) hD hS hA (fun S17 H16 locs h18 hP hD hS => ?_)
        have E := zl_s E h18.1
        have gS17 := h18.2
        refine z_iinc (lv' := fun v9 => [(2, .int v9), (3, .int y74_0), (0, .ref (o 0)), (1, .int x74_1)]) (cst := 1) hx hb dMO_fail_120 hl (k := 3) rfl (by decide) (by decide) (fun _ => rfl) E (fun k19 ls ek19 E hl => ?_)
        have r_k19 : zr 1 2 k19 := zr_add r_x74_2 (show zr 1 1 1 from by decide) ek19 (by decide)
        refine lv_goto (tgt := 50) hx hb dMO_fail_123 (by decide) ?_
        exact ih50 H16 locs ls S17 x74_1 k19 r_x74_1 (zr_mono r_k19 (by decide)) gS17 (zstepU ek19 r_x74_2 (by decide) hm50_74) E hP hD hS (lv_sub hl [2, 3, 0] rfl)
      refine lv_iload_n hx hb dMO_fail_50 rfl (lv_at hl 2 rfl) ?_
      refine lv_iconst (v := 2) hx hb dMO_fail_51 (by decide) ?_
      refine z_icmp_ge (tgt := 126) hx hb dMO_fail_52 (by decide) E (fun c_52 E => ?_) (fun c_52 E => ?_)
      · have r_x50_2 : zr 2 2 x50_2 := zle_y (show zr 2 2 2 from by decide) r_x50_2 c_52 (by decide)
        refine lv_aload_n hx hb dMO_fail_126 rfl (lv_at hl 0 rfl) ?_
        refine lv_iconst (v := 0) hx hb dMO_fail_127 (by decide) ?_
        refine m_put_7 hx hb (hB.words zU_MO) hown hK hP hD hS (hB.word (zm4 k4_154) rfl) dMO_fail_128 E (fun S20 H21 locs eS20 E hP hD hS => ?_)
        have gS20 : mok S20 := by rw [eS20]; exact gS_50.setI (t := 7) (show zr (-2147483648) 2147483647 0 from by decide)
        refine lv_aload_n hx hb dMO_fail_131 rfl (lv_at hl 0 rfl) ?_
        refine zcV (va_runV (As := []) (rest := []) ⟨hx, hb, hml, hown, zno⟩ (tMO_look l dC dI cI cZ cJ cA a0 s0 o b P S20 H21.size gP gS20) (zcw 0 (hB.word (zm5 k5_143) rfl) (hB.word (zm1 k1_9) rfl) (hB.word (zm5 k5_140) rfl) (hB.word (zm5 k5_142) rfl) (k2_selects_private (by decide) (hB.word (zm4 k4_109) rfl) (hB.word (zm5 k5_141) rfl) (hB.word (zm5 k5_142) rfl)) rfl rfl (by decide +kernel) ⟨Nat.le_of_ble_eq_true rfl, Nat.le_of_ble_eq_true rfl⟩) ⟨zP_blind, va_recv hK hP (ci := 7) (q0 := 0) rfl rfl, zP_pre hP hK hD hAD (zB_on hB hA0 hS)⟩ rfl rfl hl.1 rfl (lv_room (Nat.le_of_ble_eq_true rfl)) dMO_fail_132 ⟨Nat.le_of_ble_eq_true rfl, Nat.le_of_ble_eq_true rfl⟩) hD hS hA (fun S23 H22 locs h24 hP hD hS => ?_)
        have E := zl_s E h24.1
        have gS23 := h24.2
        refine lv_iconst (v := 1) hx hb dMO_fail_135 (by decide) ?_
        rw [hQe]
        exact W.zret (v := 1) (ty := .boolean) hx hb hr (znar (show zr 0 1 1 from by decide)) (fun t ht hW => ⟨⟨1, S23, rfl, ⟨E.symm.trans etg, gS23, (show zr 0 1 1 from by decide)⟩, by rw [ht]; exact hP, hD⟩, hS.F ht⟩) hS.2.2 dMO_fail_136
      · have r_x50_2 : zr 0 1 x50_2 := zlt_x r_x50_2 (show zr 2 2 2 from by decide) (znle c_52) (by decide)
        refine lv_iload_n hx hb dMO_fail_55 rfl (lv_at hl 2 rfl) ?_
        refine z_if_ne (tgt := 68) hx hb dMO_fail_56 (by decide) E (fun c_56 E => ?_) (fun c_56 E => ?_)
        · have r_x50_2 : zr 1 1 x50_2 := zne_lo r_x50_2 c_56 (by decide)
          refine lv_aload_n hx hb dMO_fail_68 rfl (lv_at hl 0 rfl) ?_
          refine m_getA_1 hx hb (hB.words zU_MO) hown hK hP (hB.word (zm4 k4_119) rfl) dMO_fail_69 ?_
          refine lv_iload_n hx hb dMO_fail_72 rfl (lv_at hl 1 rfl) ?_
          refine m_aldP hx hb hK hP 1 (by decide) rfl r_x50_1 (by decide) dMO_fail_73 E (fun k25 ek25 E => ?_)
          have r_k25 : zr 0 47 k25 := by rw [ek25]; exact gP.1 1 _
          exact hJ74 H locs ls S_50 x50_1 x50_2 k25 r_x50_1 (zr_mono r_x50_2 (by decide)) r_k25 gS_50 hm50 E hP hD hS (lv_sub hl [0, 1, 2] rfl)
        · have r_x50_2 : zr 0 0 x50_2 := zeq_x (show zr 0 0 0 from by decide) c_56
          refine lv_aload_n hx hb dMO_fail_59 rfl (lv_at hl 0 rfl) ?_
          refine m_getA_0 hx hb (hB.words zU_MO) hown hK hP (hB.word (zm4 k4_118) rfl) dMO_fail_60 ?_
          refine lv_iload_n hx hb dMO_fail_63 rfl (lv_at hl 1 rfl) ?_
          refine m_aldP hx hb hK hP 0 (by decide) rfl r_x50_1 (by decide) dMO_fail_64 E (fun k26 ek26 E => ?_)
          have r_k26 : zr 0 47 k26 := by rw [ek26]; exact gP.1 0 _
          refine lv_goto (tgt := 74) hx hb dMO_fail_65 (by decide) ?_
          exact hJ74 H locs ls S_50 x50_1 x50_2 k26 r_x50_1 (zr_mono r_x50_2 (by decide)) r_k26 gS_50 hm50 E hP hD hS (lv_sub hl [0, 1, 2] rfl)
  refine lv_aload_n hx hb dMO_fail_0 rfl (lv_at hl 0 rfl) ?_
  refine lv_aload_n hx hb dMO_fail_1 rfl (lv_at hl 0 rfl) ?_
  refine lv_iload_n hx hb dMO_fail_2 rfl (lv_at hl 1 rfl) ?_
  refine zcallp (va_runV (As := [.int x0]) (rest := [.ref (o 0)]) ⟨hx, hb, hml, hown, zno⟩ (tMO_isLink l dC dI cI cZ cJ cA a0 s0 o b P S s.heap.size x0 gP gS) (zcw 1 (hB.word (zm5 k5_64) rfl) (hB.word (zm1 k1_9) rfl) (hB.word (zm5 k5_61) rfl) (hB.word (zm5 k5_63) rfl) (k2_selects_private (by decide) (hB.word (zm4 k4_109) rfl) (hB.word (zm5 k5_62) rfl) (hB.word (zm5 k5_63) rfl)) rfl rfl (by decide +kernel) ⟨Nat.le_of_ble_eq_true rfl, Nat.le_of_ble_eq_true rfl⟩) ⟨zP_blind, va_recv hK hP (ci := 7) (q0 := 0) rfl rfl, zP_pre hP hK hD hAD (zB_on hB hA0 hS)⟩ rfl rfl hl.1 rfl (lv_room (Nat.le_of_ble_eq_true rfl)) dMO_fail_3 ⟨Nat.le_of_ble_eq_true rfl, Nat.le_of_ble_eq_true rfl⟩) hS hA (fun k28 H27 locs hk28 hz1 hk1 hS => ?_)
  have hP := zKeep hP hk1
  have E := zl_s E hk28.1
  refine lv_aload_n hx hb dMO_fail_6 rfl (lv_at hl 0 rfl) ?_
  refine m_get_0 hx hb (hB.words zU_MO) hown hK hP (hB.word (zm4 k4_115) rfl) dMO_fail_7 E (fun k29 ek29 E => ?_)
  have r_k29 : zr 0 1 k29 := by rw [ek29]; exact gP.2.1 0
  refine zcI (va_runV (As := [.int k28, .int k29]) (rest := []) ⟨hx, hb, hml, hown, zno⟩ (tMO_goes l dC dI cI cZ cJ cA a0 s0 o b P S H27.size k28 k29 gP gS hk28.2 r_k29) (zcw 2 (hB.word (zm5 k5_56) rfl) (hB.word (zm1 k1_9) rfl) (hB.word (zm5 k5_53) rfl) (hB.word (zm5 k5_55) rfl) (k2_selects_private (by decide) (hB.word (zm4 k4_109) rfl) (hB.word (zm5 k5_54) rfl) (hB.word (zm5 k5_55) rfl)) rfl rfl (by decide +kernel) ⟨Nat.le_of_ble_eq_true rfl, Nat.le_of_ble_eq_true rfl⟩) ⟨zP_blind, va_recv hK hP (ci := 7) (q0 := 0) rfl rfl, zP_pre hP hK hD hAD (zB_on hB hA0 hS)⟩ rfl rfl hl.1 rfl (lv_room (Nat.le_of_ble_eq_true rfl)) dMO_fail_10 ⟨Nat.le_of_ble_eq_true rfl, Nat.le_of_ble_eq_true rfl⟩) hD hS hA (fun k31 S32 H30 locs h33 hP hD hS => ?_)
  have E := zl2_s E h33.1
  have gS32 := h33.2.1
  obtain ⟨v_S32, eS32⟩ := zgoes_S h33.1
  refine z_if_eq (tgt := 25) hx hb dMO_fail_13 (by decide) E (fun c_13 E => ?_) (fun c_13 E => ?_)
  · have r_k31 : zr 0 0 k31 := zeq_x (show zr 0 0 0 from by decide) c_13
    exact hJ25 H30 locs ls S32 gS32 E hP hD hS (lv_sub hl [0] rfl)
  · have r_k31 : zr 1 1 k31 := zne_lo h33.2.2 c_13 (by decide)
    have r_x0 : zr 0 59 x0 := ((zor (zgoes_0 h33.1) (zc_isLink gP hk28.1))).resolve_left (zrne r_k31 (by decide))
    refine lv_aload_n hx hb dMO_fail_16 rfl (lv_at hl 0 rfl) ?_
    refine m_getA_7 hx hb (hB.words zU_MO) hown hK hP (hB.word (zm4 k4_121) rfl) dMO_fail_17 ?_
    refine lv_iload_n hx hb dMO_fail_20 rfl (lv_at hl 1 rfl) ?_
    refine m_zaldS hx hb hK hP 7 (by decide) rfl r_x0 (by decide) dMO_fail_21 E (fun k34 ek34 E => ?_)
    have r_k34 : zr 0 1 k34 := by rw [ek34]; exact gS32.1 7 _
    refine z_if_eq (tgt := 31) hx hb dMO_fail_22 (by decide) E (fun c_22 E => ?_) (fun c_22 E => ?_)
    · have r_k34 : zr 0 0 k34 := zeq_x (show zr 0 0 0 from by decide) c_22
      refine lv_aload_n hx hb dMO_fail_31 rfl (lv_at hl 0 rfl) ?_
      refine m_getA_7 hx hb (hB.words zU_MO) hown hK hP (hB.word (zm4 k4_121) rfl) dMO_fail_32 ?_
      refine lv_iload_n hx hb dMO_fail_35 rfl (lv_at hl 1 rfl) ?_
      refine lv_iconst (v := 1) hx hb dMO_fail_36 (by decide) ?_
      refine m_zastS hx hb hK hP hD hS 7 (by decide) rfl r_x0 (by decide) (show zr 0 1 1 from by decide) dMO_fail_37 E (fun S35 H36 locs eS35 E hP hD hS => ?_)
      have gS35 : mok S35 := by rw [eS35]; exact gS32.setF (k := 7) (show zr 0 1 1 from by decide) (Or.inl (by decide))
      refine lv_aload_n hx hb dMO_fail_38 rfl (lv_at hl 0 rfl) ?_
      refine m_getA_8 hx hb (hB.words zU_MO) hown hK hP (hB.word (zm4 k4_122) rfl) dMO_fail_39 ?_
      refine lv_iload_n hx hb dMO_fail_42 rfl (lv_at hl 1 rfl) ?_
      refine lv_dup2_11 hx hb dMO_fail_43 rfl rfl ?_
      refine m_aldS hx hb hK hP 8 (by decide) rfl r_x0 (by decide) dMO_fail_44 E (fun k37 ek37 E => ?_)
      refine lv_iconst (v := 1) hx hb dMO_fail_45 (by decide) ?_
      refine z_iadd hx hb dMO_fail_46 E (fun k38 ek38 E => ?_)
      refine m_astS hx hb hK hP hD hS 8 (by decide) rfl r_x0 (by decide) dMO_fail_47 E (fun S39 H40 locs eS39 E hP hD hS => ?_)
      have gS39 : mok S39 := by rw [eS39]; exact gS35.setF (k := 8) (zr_any k38) (Or.inl (by decide))
      refine lv_iconst (v := 0) hx hb dMO_fail_48 (by decide) ?_
      refine lv_istore_n (lv' := [(2, .int 0), (0, .ref (o 0)), (1, .int x0)]) hx hb dMO_fail_49 rfl hl (by decide) rfl (fun ls hl => ?_)
      exact hL50 3 H40 locs ls S39 x0 0 r_x0 (show zr 0 2 0 from by decide) gS39 (by have h9 := (show zr 0 0 0 from by decide); exact zfuelU h9 (by decide)) E hP hD hS (lv_sub hl [1, 2, 0] rfl)
    · have r_k34 : zr 1 1 k34 := zne_lo r_k34 c_22 (by decide)
      exact hJ25 H30 locs ls S32 gS32 E hP hD hS (lv_sub hl [0] rfl)
noncomputable def fMO_heal_25 (P : ZS) (S_25 : ZS) : ZS × Int32 := zl (fMO_look P S_25) (fun S2 => (S2, 0))
noncomputable def fMO_heal (P S : ZS) (x0 : Int32) : ZS × Int32 := zl (fMO_isLink P S x0) (fun k5 => zl (P.I 0) (fun k6 => zl2 (fMO_goes P S k5 k6) (fun S9 k8 => (if k8 = 0 then fMO_heal_25 P S9 else zl (S9.F 7 (x0 : Int32).toNatClampNeg) (fun k11 => (if k11 = 0 then fMO_heal_25 P S9 else zl (S9.setF 7 (x0 : Int32).toNatClampNeg 0) (fun S12 => zl (P.F 0 (x0 : Int32).toNatClampNeg) (fun k14 => zl (fMO_ends P S12 k14 x0 1) (fun S16 => zl (P.F 1 (x0 : Int32).toNatClampNeg) (fun k18 => zl (fMO_ends P S16 k18 x0 1) (fun S20 => zl (S20.setI 7 0) (fun S22 => zl (fMO_look P S22) (fun S25 => (S25, 1))))))))))))))
set_option maxHeartbeats 4000000 in
set_option maxRecDepth 100000 in
theorem tMO_heal (l : Launch) (dC : Nat → ClassId) (dI : Nat → Nat → Nat) (cI cZ cJ cA : ClassId) (a0 : Array Value) (s0 : State) (o b : Nat → Nat) (P S : ZS) (sz : Nat) (x0 : Int32) (gP : mok P) (gS : mok S) : Met l yMO_heal [Cond.code yMO_heal bMO_heal 2 (some .boolean)] ({ frames := 3, cells := 0, slots := 0, locals := 68 } : Room) (zP zCl dC dI (zTZ cI cZ cJ cA) a0 s0 [.ref (o 0), .int x0] sz (MW cI cZ cA o b P S)) (zQH zCl dC dI (fun (r : Int32) (x9 : ZS) => (x9, r) = fMO_heal P S x0 ∧ mok x9 ∧ zr 0 1 r) (fun x9 : ZS => (MW cI cZ cA o b P x9)) (va_A (MW cI cZ cA o b P S) sz)) 0 0 (va_A (MW cI cZ cA o b P S) sz) := by
  refine Met.ofW (cc := bMO_heal) (maxL := 2) (ret := (some .boolean)) (by decide) rfl ?_
  intro p e s m args below meth c s₁ B hml hv
  obtain ⟨rfl, hsz, hP, hK, hD0, hB⟩ := hv
  have hx := B.exec
  have hb := B.bytes
  have hr := B.returns
  have hown : s.vm.findClass "RingGuardModel" = some m.cls := findClass_of_methodNamed B.named
  have hlocks := B.notSynchronized
  subst hsz
  have hD := hD0.self (sz := s.heap.size)
  have hA0 := zA0 hD0 hB
  generalize hAe : va_A (MW cI cZ cA o b P S) s.heap.size = A at hD hA0 ⊢
  have hAD := hA0
  have hA : ∀ q : Nat, s.heap.size ≤ q → A q := fun q h => by rw [← hAe]; exact Or.inr h
  have hS : va_S A s.heap s.heap [] := va_S.rf
  have hl := lv_entry ([.ref (o 0), .int x0]) (n := 2) (Nat.le_of_ble_eq_true rfl)
  rw [lg_entry_eq]
  generalize (lg_sl ([.ref (o 0), .int x0]) ++ List.replicate (2 - (lg_sl ([.ref (o 0), .int x0])).length) Slot.unset).toArray = ls at hl ⊢
  have hl : lv_has ls 2 [(0, .ref (o 0)), (1, .int x0)] := hl
  refine zgenQ (fun Q hQe => ?_)
  obtain ⟨tg, etg⟩ : ∃ z, z = fMO_heal P S x0 := ⟨_, rfl⟩
  have E := etg
  unfold fMO_heal at E
  have hJ25 : ∀ (H : Heap) (locs : List Loc) (ls : Array Slot) (S_25 : ZS), mok S_25 → tg = fMO_heal_25 P S_25 → va_P (dC, dI) zCl (MW cI cZ cA o b P S_25) H → va_D A (MW cI cZ cA o b P S_25) → va_S A s.heap H locs → lv_has ls 2 [(0, .ref (o 0))] → W p l e ({ frames := 3, cells := 0, slots := 0, locals := 68 } : Room) s m ([.ref (o 0), .int x0] : List Value).toArray below meth c H locs 0 0 Q (F0 m 25 ls []) := by
    intro H locs ls S_25 gS_25 E hP hD hS hl
    unfold fMO_heal_25 at E
    refine lv_aload_n hx hb dMO_heal_25 rfl (lv_at hl 0 rfl) ?_
    refine zcV (va_runV (As := []) (rest := []) ⟨hx, hb, hml, hown, zno⟩ (tMO_look l dC dI cI cZ cJ cA a0 s0 o b P S_25 H.size gP gS_25) (zcw 0 (hB.word (zm5 k5_143) rfl) (hB.word (zm1 k1_9) rfl) (hB.word (zm5 k5_140) rfl) (hB.word (zm5 k5_142) rfl) (k2_selects_private (by decide) (hB.word (zm4 k4_109) rfl) (hB.word (zm5 k5_141) rfl) (hB.word (zm5 k5_142) rfl)) rfl rfl (by decide +kernel) ⟨Nat.le_of_ble_eq_true rfl, Nat.le_of_ble_eq_true rfl⟩) ⟨zP_blind, va_recv hK hP (ci := 7) (q0 := 0) rfl rfl, zP_pre hP hK hD hAD (zB_on hB hA0 hS)⟩ rfl rfl hl.1 rfl (lv_room (Nat.le_of_ble_eq_true rfl)) dMO_heal_26 ⟨Nat.le_of_ble_eq_true rfl, Nat.le_of_ble_eq_true rfl⟩) hD hS hA (fun S2 H1 locs h3 hP hD hS => ?_)
    have E := zl_s E h3.1
    have gS2 := h3.2
    refine lv_iconst (v := 0) hx hb dMO_heal_29 (by decide) ?_
    rw [hQe]
    exact W.zret (v := 0) (ty := .boolean) hx hb hr (znar (show zr 0 1 0 from by decide)) (fun t ht hW => ⟨⟨0, S2, rfl, ⟨E.symm.trans etg, gS2, (show zr 0 1 0 from by decide)⟩, by rw [ht]; exact hP, hD⟩, hS.F ht⟩) hS.2.2 dMO_heal_30
  refine lv_aload_n hx hb dMO_heal_0 rfl (lv_at hl 0 rfl) ?_
  refine lv_aload_n hx hb dMO_heal_1 rfl (lv_at hl 0 rfl) ?_
  refine lv_iload_n hx hb dMO_heal_2 rfl (lv_at hl 1 rfl) ?_
  refine zcallp (va_runV (As := [.int x0]) (rest := [.ref (o 0)]) ⟨hx, hb, hml, hown, zno⟩ (tMO_isLink l dC dI cI cZ cJ cA a0 s0 o b P S s.heap.size x0 gP gS) (zcw 1 (hB.word (zm5 k5_64) rfl) (hB.word (zm1 k1_9) rfl) (hB.word (zm5 k5_61) rfl) (hB.word (zm5 k5_63) rfl) (k2_selects_private (by decide) (hB.word (zm4 k4_109) rfl) (hB.word (zm5 k5_62) rfl) (hB.word (zm5 k5_63) rfl)) rfl rfl (by decide +kernel) ⟨Nat.le_of_ble_eq_true rfl, Nat.le_of_ble_eq_true rfl⟩) ⟨zP_blind, va_recv hK hP (ci := 7) (q0 := 0) rfl rfl, zP_pre hP hK hD hAD (zB_on hB hA0 hS)⟩ rfl rfl hl.1 rfl (lv_room (Nat.le_of_ble_eq_true rfl)) dMO_heal_3 ⟨Nat.le_of_ble_eq_true rfl, Nat.le_of_ble_eq_true rfl⟩) hS hA (fun k5 H4 locs hk5 hz1 hk1 hS => ?_)
  have hP := zKeep hP hk1
  have E := zl_s E hk5.1
  refine lv_aload_n hx hb dMO_heal_6 rfl (lv_at hl 0 rfl) ?_
  refine m_get_0 hx hb (hB.words zU_MO) hown hK hP (hB.word (zm4 k4_115) rfl) dMO_heal_7 E (fun k6 ek6 E => ?_)
  have r_k6 : zr 0 1 k6 := by rw [ek6]; exact gP.2.1 0
  refine zcI (va_runV (As := [.int k5, .int k6]) (rest := []) ⟨hx, hb, hml, hown, zno⟩ (tMO_goes l dC dI cI cZ cJ cA a0 s0 o b P S H4.size k5 k6 gP gS hk5.2 r_k6) (zcw 2 (hB.word (zm5 k5_56) rfl) (hB.word (zm1 k1_9) rfl) (hB.word (zm5 k5_53) rfl) (hB.word (zm5 k5_55) rfl) (k2_selects_private (by decide) (hB.word (zm4 k4_109) rfl) (hB.word (zm5 k5_54) rfl) (hB.word (zm5 k5_55) rfl)) rfl rfl (by decide +kernel) ⟨Nat.le_of_ble_eq_true rfl, Nat.le_of_ble_eq_true rfl⟩) ⟨zP_blind, va_recv hK hP (ci := 7) (q0 := 0) rfl rfl, zP_pre hP hK hD hAD (zB_on hB hA0 hS)⟩ rfl rfl hl.1 rfl (lv_room (Nat.le_of_ble_eq_true rfl)) dMO_heal_10 ⟨Nat.le_of_ble_eq_true rfl, Nat.le_of_ble_eq_true rfl⟩) hD hS hA (fun k8 S9 H7 locs h10 hP hD hS => ?_)
  have E := zl2_s E h10.1
  have gS9 := h10.2.1
  obtain ⟨v_S9, eS9⟩ := zgoes_S h10.1
  refine z_if_eq (tgt := 25) hx hb dMO_heal_13 (by decide) E (fun c_13 E => ?_) (fun c_13 E => ?_)
  · have r_k8 : zr 0 0 k8 := zeq_x (show zr 0 0 0 from by decide) c_13
    exact hJ25 H7 locs ls S9 gS9 E hP hD hS (lv_sub hl [0] rfl)
  · have r_k8 : zr 1 1 k8 := zne_lo h10.2.2 c_13 (by decide)
    have r_x0 : zr 0 59 x0 := ((zor (zgoes_0 h10.1) (zc_isLink gP hk5.1))).resolve_left (zrne r_k8 (by decide))
    refine lv_aload_n hx hb dMO_heal_16 rfl (lv_at hl 0 rfl) ?_
    refine m_getA_7 hx hb (hB.words zU_MO) hown hK hP (hB.word (zm4 k4_121) rfl) dMO_heal_17 ?_
    refine lv_iload_n hx hb dMO_heal_20 rfl (lv_at hl 1 rfl) ?_
    refine m_zaldS hx hb hK hP 7 (by decide) rfl r_x0 (by decide) dMO_heal_21 E (fun k11 ek11 E => ?_)
    have r_k11 : zr 0 1 k11 := by rw [ek11]; exact gS9.1 7 _
    refine z_if_ne (tgt := 31) hx hb dMO_heal_22 (by decide) E (fun c_22 E => ?_) (fun c_22 E => ?_)
    · have r_k11 : zr 1 1 k11 := zne_lo r_k11 c_22 (by decide)
      refine lv_aload_n hx hb dMO_heal_31 rfl (lv_at hl 0 rfl) ?_
      refine m_getA_7 hx hb (hB.words zU_MO) hown hK hP (hB.word (zm4 k4_121) rfl) dMO_heal_32 ?_
      refine lv_iload_n hx hb dMO_heal_35 rfl (lv_at hl 1 rfl) ?_
      refine lv_iconst (v := 0) hx hb dMO_heal_36 (by decide) ?_
      refine m_zastS hx hb hK hP hD hS 7 (by decide) rfl r_x0 (by decide) (show zr 0 1 0 from by decide) dMO_heal_37 E (fun S12 H13 locs eS12 E hP hD hS => ?_)
      have gS12 : mok S12 := by rw [eS12]; exact gS9.setF (k := 7) (show zr 0 1 0 from by decide) (Or.inl (by decide))
      refine lv_aload_n hx hb dMO_heal_38 rfl (lv_at hl 0 rfl) ?_
      refine lv_aload_n hx hb dMO_heal_39 rfl (lv_at hl 0 rfl) ?_
      refine m_getA_0 hx hb (hB.words zU_MO) hown hK hP (hB.word (zm4 k4_118) rfl) dMO_heal_40 ?_
      refine lv_iload_n hx hb dMO_heal_43 rfl (lv_at hl 1 rfl) ?_
      refine m_aldP hx hb hK hP 0 (by decide) rfl r_x0 (by decide) dMO_heal_44 E (fun k14 ek14 E => ?_)
      have r_k14 : zr 0 47 k14 := by rw [ek14]; exact gP.1 0 _
      refine lv_iload_n hx hb dMO_heal_45 rfl (lv_at hl 1 rfl) ?_
      refine lv_iconst (v := 1) hx hb dMO_heal_46 (by decide) ?_
      refine zcV (va_runV (As := [.int k14, .int x0, .int 1]) (rest := []) ⟨hx, hb, hml, hown, zno⟩ (tMO_ends l dC dI cI cZ cJ cA a0 s0 o b P S12 H13.size k14 x0 1 gP gS12 r_k14 r_x0) (zcw 3 (hB.word (zm5 k5_167) rfl) (hB.word (zm1 k1_9) rfl) (hB.word (zm5 k5_164) rfl) (hB.word (zm5 k5_166) rfl) (k2_selects_private (by decide) (hB.word (zm4 k4_109) rfl) (hB.word (zm5 k5_165) rfl) (hB.word (zm5 k5_166) rfl)) rfl rfl (by decide +kernel) ⟨Nat.le_of_ble_eq_true rfl, Nat.le_of_ble_eq_true rfl⟩) ⟨zP_blind, va_recv hK hP (ci := 7) (q0 := 0) rfl rfl, zP_pre hP hK hD hAD (zB_on hB hA0 hS)⟩ rfl rfl hl.1 rfl (lv_room (Nat.le_of_ble_eq_true rfl)) dMO_heal_47 ⟨Nat.le_of_ble_eq_true rfl, Nat.le_of_ble_eq_true rfl⟩) hD hS hA (fun S16 H15 locs h17 hP hD hS => ?_)
      have E := zl_s E h17.1
      have gS16 := h17.2
      refine lv_aload_n hx hb dMO_heal_50 rfl (lv_at hl 0 rfl) ?_
      refine lv_aload_n hx hb dMO_heal_51 rfl (lv_at hl 0 rfl) ?_
      refine m_getA_1 hx hb (hB.words zU_MO) hown hK hP (hB.word (zm4 k4_119) rfl) dMO_heal_52 ?_
      refine lv_iload_n hx hb dMO_heal_55 rfl (lv_at hl 1 rfl) ?_
      refine m_aldP hx hb hK hP 1 (by decide) rfl r_x0 (by decide) dMO_heal_56 E (fun k18 ek18 E => ?_)
      have r_k18 : zr 0 47 k18 := by rw [ek18]; exact gP.1 1 _
      refine lv_iload_n hx hb dMO_heal_57 rfl (lv_at hl 1 rfl) ?_
      refine lv_iconst (v := 1) hx hb dMO_heal_58 (by decide) ?_
      refine zcV (va_runV (As := [.int k18, .int x0, .int 1]) (rest := []) ⟨hx, hb, hml, hown, zno⟩ (tMO_ends l dC dI cI cZ cJ cA a0 s0 o b P S16 H15.size k18 x0 1 gP gS16 r_k18 r_x0) (zcw 3 (hB.word (zm5 k5_167) rfl) (hB.word (zm1 k1_9) rfl) (hB.word (zm5 k5_164) rfl) (hB.word (zm5 k5_166) rfl) (k2_selects_private (by decide) (hB.word (zm4 k4_109) rfl) (hB.word (zm5 k5_165) rfl) (hB.word (zm5 k5_166) rfl)) rfl rfl (by decide +kernel) ⟨Nat.le_of_ble_eq_true rfl, Nat.le_of_ble_eq_true rfl⟩) ⟨zP_blind, va_recv hK hP (ci := 7) (q0 := 0) rfl rfl, zP_pre hP hK hD hAD (zB_on hB hA0 hS)⟩ rfl rfl hl.1 rfl (lv_room (Nat.le_of_ble_eq_true rfl)) dMO_heal_59 ⟨Nat.le_of_ble_eq_true rfl, Nat.le_of_ble_eq_true rfl⟩) hD hS hA (fun S20 H19 locs h21 hP hD hS => ?_)
      have E := zl_s E h21.1
      have gS20 := h21.2
      refine lv_aload_n hx hb dMO_heal_62 rfl (lv_at hl 0 rfl) ?_
      refine lv_iconst (v := 0) hx hb dMO_heal_63 (by decide) ?_
      refine m_put_7 hx hb (hB.words zU_MO) hown hK hP hD hS (hB.word (zm4 k4_154) rfl) dMO_heal_64 E (fun S22 H23 locs eS22 E hP hD hS => ?_)
      have gS22 : mok S22 := by rw [eS22]; exact gS20.setI (t := 7) (show zr (-2147483648) 2147483647 0 from by decide)
      refine lv_aload_n hx hb dMO_heal_67 rfl (lv_at hl 0 rfl) ?_
      refine zcV (va_runV (As := []) (rest := []) ⟨hx, hb, hml, hown, zno⟩ (tMO_look l dC dI cI cZ cJ cA a0 s0 o b P S22 H23.size gP gS22) (zcw 0 (hB.word (zm5 k5_143) rfl) (hB.word (zm1 k1_9) rfl) (hB.word (zm5 k5_140) rfl) (hB.word (zm5 k5_142) rfl) (k2_selects_private (by decide) (hB.word (zm4 k4_109) rfl) (hB.word (zm5 k5_141) rfl) (hB.word (zm5 k5_142) rfl)) rfl rfl (by decide +kernel) ⟨Nat.le_of_ble_eq_true rfl, Nat.le_of_ble_eq_true rfl⟩) ⟨zP_blind, va_recv hK hP (ci := 7) (q0 := 0) rfl rfl, zP_pre hP hK hD hAD (zB_on hB hA0 hS)⟩ rfl rfl hl.1 rfl (lv_room (Nat.le_of_ble_eq_true rfl)) dMO_heal_68 ⟨Nat.le_of_ble_eq_true rfl, Nat.le_of_ble_eq_true rfl⟩) hD hS hA (fun S25 H24 locs h26 hP hD hS => ?_)
      have E := zl_s E h26.1
      have gS25 := h26.2
      refine lv_iconst (v := 1) hx hb dMO_heal_71 (by decide) ?_
      rw [hQe]
      exact W.zret (v := 1) (ty := .boolean) hx hb hr (znar (show zr 0 1 1 from by decide)) (fun t ht hW => ⟨⟨1, S25, rfl, ⟨E.symm.trans etg, gS25, (show zr 0 1 1 from by decide)⟩, by rw [ht]; exact hP, hD⟩, hS.F ht⟩) hS.2.2 dMO_heal_72
    · have r_k11 : zr 0 0 k11 := zeq_x (show zr 0 0 0 from by decide) c_22
      exact hJ25 H7 locs ls S9 gS9 E hP hD hS (lv_sub hl [0] rfl)
noncomputable def fMO_lose_25 (P : ZS) (S_25 : ZS) (x25_1 : Int32) (x25_2 : Int32) (y25_0 : Int32) : ZS × Int32 := zl (P.I 0) (fun k1 => zl2 (fMO_goes P S_25 y25_0 k1) (fun S4 k3 => (if k3 = 0 then (S4, 0) else zl (S4.F 9 (x25_1 : Int32).toNatClampNeg) (fun k6 => zl (S4.setF 9 (x25_1 : Int32).toNatClampNeg x25_2) (fun S7 => (S7, k6))))))
noncomputable def fMO_lose_24 (P : ZS) (S_24 : ZS) (x24_1 : Int32) (x24_2 : Int32) : ZS × Int32 := fMO_lose_25 P S_24 x24_1 x24_2 0
noncomputable def fMO_lose (P S : ZS) (x0 : Int32) (x1 : Int32) : ZS × Int32 := zl (fMO_isLink P S x0) (fun k10 => (if k10 = 0 then fMO_lose_24 P S x0 x1 else (if x1 < 0 then fMO_lose_24 P S x0 x1 else (if 1000 < x1 then fMO_lose_24 P S x0 x1 else fMO_lose_25 P S x0 x1 1))))
set_option maxHeartbeats 4000000 in
set_option maxRecDepth 100000 in
theorem tMO_lose (l : Launch) (dC : Nat → ClassId) (dI : Nat → Nat → Nat) (cI cZ cJ cA : ClassId) (a0 : Array Value) (s0 : State) (o b : Nat → Nat) (P S : ZS) (sz : Nat) (x0 : Int32) (x1 : Int32) (gP : mok P) (gS : mok S) : Met l yMO_lose [Cond.code yMO_lose bMO_lose 4 (some .int)] ({ frames := 1, cells := 0, slots := 0, locals := 22 } : Room) (zP zCl dC dI (zTZ cI cZ cJ cA) a0 s0 [.ref (o 0), .int x0, .int x1] sz (MW cI cZ cA o b P S)) (zQH zCl dC dI (fun (r : Int32) (x9 : ZS) => (x9, r) = fMO_lose P S x0 x1 ∧ mok x9 ∧ True) (fun x9 : ZS => (MW cI cZ cA o b P x9)) (va_A (MW cI cZ cA o b P S) sz)) 0 0 (va_A (MW cI cZ cA o b P S) sz) := by
  refine Met.ofW (cc := bMO_lose) (maxL := 4) (ret := (some .int)) (by decide) rfl ?_
  intro p e s m args below meth c s₁ B hml hv
  obtain ⟨rfl, hsz, hP, hK, hD0, hB⟩ := hv
  have hx := B.exec
  have hb := B.bytes
  have hr := B.returns
  have hown : s.vm.findClass "RingGuardModel" = some m.cls := findClass_of_methodNamed B.named
  have hlocks := B.notSynchronized
  subst hsz
  have hD := hD0.self (sz := s.heap.size)
  have hA0 := zA0 hD0 hB
  generalize hAe : va_A (MW cI cZ cA o b P S) s.heap.size = A at hD hA0 ⊢
  have hAD := hA0
  have hA : ∀ q : Nat, s.heap.size ≤ q → A q := fun q h => by rw [← hAe]; exact Or.inr h
  have hS : va_S A s.heap s.heap [] := va_S.rf
  have hl := lv_entry ([.ref (o 0), .int x0, .int x1]) (n := 4) (Nat.le_of_ble_eq_true rfl)
  rw [lg_entry_eq]
  generalize (lg_sl ([.ref (o 0), .int x0, .int x1]) ++ List.replicate (4 - (lg_sl ([.ref (o 0), .int x0, .int x1])).length) Slot.unset).toArray = ls at hl ⊢
  have hl : lv_has ls 4 [(0, .ref (o 0)), (1, .int x0), (2, .int x1)] := hl
  refine zgenQ (fun Q hQe => ?_)
  obtain ⟨tg, etg⟩ : ∃ z, z = fMO_lose P S x0 x1 := ⟨_, rfl⟩
  have E := etg
  unfold fMO_lose at E
  have hJ25 : ∀ (H : Heap) (locs : List Loc) (ls : Array Slot) (S_25 : ZS) (x25_1 : Int32) (x25_2 : Int32) (y25_0 : Int32), zr 0 1 y25_0 → mok S_25 → (y25_0 = 0 ∨ zr 0 59 (x25_1)) → (y25_0 = 0 ∨ zr 0 1000 (x25_2)) → tg = fMO_lose_25 P S_25 x25_1 x25_2 y25_0 → va_P (dC, dI) zCl (MW cI cZ cA o b P S_25) H → va_D A (MW cI cZ cA o b P S_25) → va_S A s.heap H locs → lv_has ls 4 [(0, .ref (o 0)), (1, .int x25_1), (2, .int x25_2)] → W p l e ({ frames := 1, cells := 0, slots := 0, locals := 22 } : Room) s m ([.ref (o 0), .int x0, .int x1] : List Value).toArray below meth c H locs 0 0 Q (F0 m 25 ls [.int y25_0, .ref (o 0)]) := by
    intro H locs ls S_25 x25_1 x25_2 y25_0 r_y25_0 gS_25 cd25_0 cd25_1 E hP hD hS hl
    unfold fMO_lose_25 at E
    refine lv_aload_n hx hb dMO_lose_25 rfl (lv_at hl 0 rfl) ?_
    refine m_get_0 hx hb (hB.words zU_MO) hown hK hP (hB.word (zm4 k4_115) rfl) dMO_lose_26 E (fun k1 ek1 E => ?_)
    have r_k1 : zr 0 1 k1 := by rw [ek1]; exact gP.2.1 0
    refine zcI (va_runV (As := [.int y25_0, .int k1]) (rest := []) ⟨hx, hb, hml, hown, zno⟩ (tMO_goes l dC dI cI cZ cJ cA a0 s0 o b P S_25 H.size y25_0 k1 gP gS_25 r_y25_0 r_k1) (zcw 2 (hB.word (zm5 k5_56) rfl) (hB.word (zm1 k1_9) rfl) (hB.word (zm5 k5_53) rfl) (hB.word (zm5 k5_55) rfl) (k2_selects_private (by decide) (hB.word (zm4 k4_109) rfl) (hB.word (zm5 k5_54) rfl) (hB.word (zm5 k5_55) rfl)) rfl rfl (by decide +kernel) ⟨Nat.le_of_ble_eq_true rfl, Nat.le_of_ble_eq_true rfl⟩) ⟨zP_blind, va_recv hK hP (ci := 7) (q0 := 0) rfl rfl, zP_pre hP hK hD hAD (zB_on hB hA0 hS)⟩ rfl rfl hl.1 rfl (lv_room (Nat.le_of_ble_eq_true rfl)) dMO_lose_29 ⟨Nat.le_of_ble_eq_true rfl, Nat.le_of_ble_eq_true rfl⟩) hD hS hA (fun k3 S4 H2 locs h5 hP hD hS => ?_)
    have E := zl2_s E h5.1
    have gS4 := h5.2.1
    obtain ⟨v_S4, eS4⟩ := zgoes_S h5.1
    refine z_if_ne (tgt := 37) hx hb dMO_lose_32 (by decide) E (fun c_32 E => ?_) (fun c_32 E => ?_)
    · have r_k3 : zr 1 1 k3 := zne_lo h5.2.2 c_32 (by decide)
      have r_x25_1 : zr 0 59 x25_1 := ((zor (zgoes_0 h5.1) cd25_0)).resolve_left (zrne r_k3 (by decide))
      have r_x25_2 : zr 0 1000 x25_2 := ((zor (zgoes_0 h5.1) cd25_1)).resolve_left (zrne r_k3 (by decide))
      refine lv_aload_n hx hb dMO_lose_37 rfl (lv_at hl 0 rfl) ?_
      refine m_getA_9 hx hb (hB.words zU_MO) hown hK hP (hB.word (zm4 k4_123) rfl) dMO_lose_38 ?_
      refine lv_iload_n hx hb dMO_lose_41 rfl (lv_at hl 1 rfl) ?_
      refine m_aldS hx hb hK hP 9 (by decide) rfl r_x25_1 (by decide) dMO_lose_42 E (fun k6 ek6 E => ?_)
      refine lv_istore_n (lv' := [(3, .int k6), (0, .ref (o 0)), (1, .int x25_1), (2, .int x25_2)]) hx hb dMO_lose_43 rfl hl (by decide) rfl (fun ls hl => ?_)
      refine lv_aload_n hx hb dMO_lose_44 rfl (lv_at hl 1 rfl) ?_
      refine m_getA_9 hx hb (hB.words zU_MO) hown hK hP (hB.word (zm4 k4_123) rfl) dMO_lose_45 ?_
      refine lv_iload_n hx hb dMO_lose_48 rfl (lv_at hl 2 rfl) ?_
      refine lv_iload_n hx hb dMO_lose_49 rfl (lv_at hl 3 rfl) ?_
      refine m_astS hx hb hK hP hD hS 9 (by decide) rfl r_x25_1 (by decide) dMO_lose_50 E (fun S7 H8 locs eS7 E hP hD hS => ?_)
      have gS7 : mok S7 := by rw [eS7]; exact gS4.setF (k := 9) (zr_any x25_2) (Or.inl (by decide))
      refine lv_iload_n hx hb dMO_lose_51 rfl (lv_at hl 0 rfl) ?_
      rw [hQe]
      exact W.iret (v := k6) hx hb hr (fun t ht hW => ⟨⟨k6, S7, rfl, ⟨E.symm.trans etg, gS7, trivial⟩, by rw [ht]; exact hP, hD⟩, hS.F ht⟩) hS.2.2 dMO_lose_52
    · have r_k3 : zr 0 0 k3 := zeq_x (show zr 0 0 0 from by decide) c_32
      refine lv_iconst (v := 0) hx hb dMO_lose_35 (by decide) ?_
      rw [hQe]
      exact W.iret (v := 0) hx hb hr (fun t ht hW => ⟨⟨0, S4, rfl, ⟨E.symm.trans etg, gS4, trivial⟩, by rw [ht]; exact hP, hD⟩, hS.F ht⟩) hS.2.2 dMO_lose_36
  have hJ24 : ∀ (H : Heap) (locs : List Loc) (ls : Array Slot) (S_24 : ZS) (x24_1 : Int32) (x24_2 : Int32), mok S_24 → tg = fMO_lose_24 P S_24 x24_1 x24_2 → va_P (dC, dI) zCl (MW cI cZ cA o b P S_24) H → va_D A (MW cI cZ cA o b P S_24) → va_S A s.heap H locs → lv_has ls 4 [(0, .ref (o 0)), (1, .int x24_1), (2, .int x24_2)] → W p l e ({ frames := 1, cells := 0, slots := 0, locals := 22 } : Room) s m ([.ref (o 0), .int x0, .int x1] : List Value).toArray below meth c H locs 0 0 Q (F0 m 24 ls [.ref (o 0)]) := by
    intro H locs ls S_24 x24_1 x24_2 gS_24 E hP hD hS hl
    unfold fMO_lose_24 at E
    refine lv_iconst (v := 0) hx hb dMO_lose_24 (by decide) ?_
    exact hJ25 H locs ls S_24 x24_1 x24_2 0 (show zr 0 1 0 from by decide) gS_24 (Or.inl rfl) (Or.inl rfl) E hP hD hS (lv_sub hl [0, 1, 2] rfl)
  refine lv_aload_n hx hb dMO_lose_0 rfl (lv_at hl 0 rfl) ?_
  refine lv_aload_n hx hb dMO_lose_1 rfl (lv_at hl 0 rfl) ?_
  refine lv_iload_n hx hb dMO_lose_2 rfl (lv_at hl 1 rfl) ?_
  refine zcallp (va_runV (As := [.int x0]) (rest := [.ref (o 0)]) ⟨hx, hb, hml, hown, zno⟩ (tMO_isLink l dC dI cI cZ cJ cA a0 s0 o b P S s.heap.size x0 gP gS) (zcw 1 (hB.word (zm5 k5_64) rfl) (hB.word (zm1 k1_9) rfl) (hB.word (zm5 k5_61) rfl) (hB.word (zm5 k5_63) rfl) (k2_selects_private (by decide) (hB.word (zm4 k4_109) rfl) (hB.word (zm5 k5_62) rfl) (hB.word (zm5 k5_63) rfl)) rfl rfl (by decide +kernel) ⟨Nat.le_of_ble_eq_true rfl, Nat.le_of_ble_eq_true rfl⟩) ⟨zP_blind, va_recv hK hP (ci := 7) (q0 := 0) rfl rfl, zP_pre hP hK hD hAD (zB_on hB hA0 hS)⟩ rfl rfl hl.1 rfl (lv_room (Nat.le_of_ble_eq_true rfl)) dMO_lose_3 ⟨Nat.le_of_ble_eq_true rfl, Nat.le_of_ble_eq_true rfl⟩) hS hA (fun k10 H9 locs hk10 hz1 hk1 hS => ?_)
  have hP := zKeep hP hk1
  have E := zl_s E hk10.1
  refine z_if_eq (tgt := 24) hx hb dMO_lose_6 (by decide) E (fun c_6 E => ?_) (fun c_6 E => ?_)
  · have r_k10 : zr 0 0 k10 := zeq_x (show zr 0 0 0 from by decide) c_6
    exact hJ24 H9 locs ls S x0 x1 gS E hP hD hS (lv_sub hl [0, 1, 2] rfl)
  · have r_k10 : zr 1 1 k10 := zne_lo hk10.2 c_6 (by decide)
    have r_x0 : zr 0 59 x0 := ((zc_isLink gP hk10.1)).resolve_left (zrne r_k10 (by decide))
    refine lv_iload_n hx hb dMO_lose_9 rfl (lv_at hl 2 rfl) ?_
    refine z_if_lt (tgt := 24) hx hb dMO_lose_10 (by decide) E (fun c_10 E => ?_) (fun c_10 E => ?_)
    · have r_x1 : zr (-2147483648) (-1) x1 := zlt_x (zr_any x1) (show zr 0 0 0 from by decide) c_10 (by decide)
      exact hJ24 H9 locs ls S x0 x1 gS E hP hD hS (lv_sub hl [0, 1, 2] rfl)
    · have r_x1 : zr 0 2147483647 x1 := zle_y (show zr 0 0 0 from by decide) (zr_any x1) (znlt c_10) (by decide)
      refine lv_iload_n hx hb dMO_lose_13 rfl (lv_at hl 2 rfl) ?_
      refine lv_sipush (v := 1000) hx hb dMO_lose_14 (by decide) ?_
      refine z_icmp_gt (tgt := 24) hx hb dMO_lose_17 (by decide) E (fun c_17 E => ?_) (fun c_17 E => ?_)
      · have r_x1 : zr 1001 2147483647 x1 := zlt_y (show zr 1000 1000 1000 from by decide) r_x1 c_17 (by decide)
        exact hJ24 H9 locs ls S x0 x1 gS E hP hD hS (lv_sub hl [0, 1, 2] rfl)
      · have r_x1 : zr 0 1000 x1 := zle_x r_x1 (show zr 1000 1000 1000 from by decide) (znlt c_17) (by decide)
        refine lv_iconst (v := 1) hx hb dMO_lose_20 (by decide) ?_
        refine lv_goto (tgt := 25) hx hb dMO_lose_21 (by decide) ?_
        exact hJ25 H9 locs ls S x0 x1 1 (show zr 0 1 1 from by decide) gS (Or.inr r_x0) (Or.inr r_x1) E hP hD hS (lv_sub hl [0, 1, 2] rfl)
noncomputable def fMO_order_175 (P : ZS) (S_175 : ZS) (x175_6 : Int32) : ZS × Int32 := zl (fMO_look P S_175) (fun S2 => (S2, x175_6))
noncomputable def fMO_order_94 (P : ZS) (S_94 : ZS) (x94_1 : Int32) (x94_2 : Int32) (x94_4 : Int32) (x94_5 : Int32) (y94_0 : Int32) : ZS × Int32 := (if y94_0 = 0 then fMO_order_175 P S_94 y94_0 else zl (P.F 2 (x94_2 : Int32).toNatClampNeg) (fun k4 => zl2 (fMO_endCommand P S_94 x94_1 k4) (fun S7 k6 => zl (S7.setF 15 (x94_4 : Int32).toNatClampNeg x94_5) (fun S9 => zl (S9.setF 16 (x94_4 : Int32).toNatClampNeg x94_2) (fun S11 => zl (fMO_begins P S11 x94_1 x94_2 x94_5) (fun S14 => zl (S14.F 17 (x94_1 : Int32).toNatClampNeg) (fun k16 => zl (k16 + 1) (fun k17 => zl (S14.setF 17 (x94_1 : Int32).toNatClampNeg k17) (fun S18 => zl (60 + x94_1) (fun k20 => zl (S18.F 17 (x94_1 : Int32).toNatClampNeg) (fun k21 => zl (P.F 2 (x94_2 : Int32).toNatClampNeg) (fun k22 => zl (fMO_news P S18 x94_1 k20 k21 k4) (fun S24 => zl (S24.setI 7 0) (fun S26 => fMO_order_175 P S26 y94_0))))))))))))))
noncomputable def fMO_order_89 (P : ZS) (S_89 : ZS) (x89_1 : Int32) (x89_2 : Int32) (x89_4 : Int32) (x89_5 : Int32) : ZS × Int32 := fMO_order_94 P S_89 x89_1 x89_2 x89_4 x89_5 1
noncomputable def fMO_order_64 (P : ZS) (S_64 : ZS) (x64_1 : Int32) (x64_2 : Int32) (x64_4 : Int32) (y64_0 : Int32) : ZS × Int32 := zl (S_64.F 15 (x64_4 : Int32).toNatClampNeg) (fun k28 => (if k28 = y64_0 then zl (S_64.F 16 (x64_4 : Int32).toNatClampNeg) (fun k29 => (if k29 = x64_2 then fMO_order_94 P S_64 x64_1 x64_2 x64_4 y64_0 0 else fMO_order_89 P S_64 x64_1 x64_2 x64_4 y64_0)) else fMO_order_89 P S_64 x64_1 x64_2 x64_4 y64_0))
noncomputable def fMO_order_31 (P : ZS) (S_31 : ZS) (x31_1 : Int32) (x31_2 : Int32) (x31_3 : Int32) (y31_0 : Int32) : ZS × Int32 := zl (P.I 0) (fun k30 => zl2 (fMO_goes P S_31 y31_0 k30) (fun S33 k32 => (if k32 = 0 then (S33, 0) else zl (P.F 2 (x31_2 : Int32).toNatClampNeg) (fun k35 => zl (fMO_at P S33 x31_1 k35) (fun k37 => (if x31_3 = 0 then fMO_order_64 P S33 x31_1 x31_2 k37 4 else fMO_order_64 P S33 x31_1 x31_2 k37 2))))))
noncomputable def fMO_order_30 (P : ZS) (S_30 : ZS) (x30_1 : Int32) (x30_2 : Int32) (x30_3 : Int32) : ZS × Int32 := fMO_order_31 P S_30 x30_1 x30_2 x30_3 0
noncomputable def fMO_order (P S : ZS) (x0 : Int32) (x1 : Int32) (x2 : Int32) : ZS × Int32 := zl (fMO_isBridge P S x0) (fun k39 => (if k39 = 0 then fMO_order_30 P S x0 x1 x2 else zl (fMO_isLink P S x1) (fun k41 => (if k41 = 0 then fMO_order_30 P S x0 x1 x2 else zl (fMO_isEnd P S x0 x1) (fun k43 => (if k43 = 0 then fMO_order_30 P S x0 x1 x2 else fMO_order_31 P S x0 x1 x2 1))))))
set_option maxHeartbeats 4000000 in
set_option maxRecDepth 100000 in
theorem tMO_order (l : Launch) (dC : Nat → ClassId) (dI : Nat → Nat → Nat) (cI cZ cJ cA : ClassId) (a0 : Array Value) (s0 : State) (o b : Nat → Nat) (P S : ZS) (sz : Nat) (x0 : Int32) (x1 : Int32) (x2 : Int32) (gP : mok P) (gS : mok S) (r_x2 : zr 0 1 x2) : Met l yMO_order [Cond.code yMO_order bMO_order 8 (some .boolean)] ({ frames := 4, cells := 0, slots := 0, locals := 94 } : Room) (zP zCl dC dI (zTZ cI cZ cJ cA) a0 s0 [.ref (o 0), .int x0, .int x1, .int x2] sz (MW cI cZ cA o b P S)) (zQH zCl dC dI (fun (r : Int32) (x9 : ZS) => (x9, r) = fMO_order P S x0 x1 x2 ∧ mok x9 ∧ zr 0 1 r) (fun x9 : ZS => (MW cI cZ cA o b P x9)) (va_A (MW cI cZ cA o b P S) sz)) 0 0 (va_A (MW cI cZ cA o b P S) sz) := by
  refine Met.ofW (cc := bMO_order) (maxL := 8) (ret := (some .boolean)) (by decide) rfl ?_
  intro p e s m args below meth c s₁ B hml hv
  obtain ⟨rfl, hsz, hP, hK, hD0, hB⟩ := hv
  have hx := B.exec
  have hb := B.bytes
  have hr := B.returns
  have hown : s.vm.findClass "RingGuardModel" = some m.cls := findClass_of_methodNamed B.named
  have hlocks := B.notSynchronized
  subst hsz
  have hD := hD0.self (sz := s.heap.size)
  have hA0 := zA0 hD0 hB
  generalize hAe : va_A (MW cI cZ cA o b P S) s.heap.size = A at hD hA0 ⊢
  have hAD := hA0
  have hA : ∀ q : Nat, s.heap.size ≤ q → A q := fun q h => by rw [← hAe]; exact Or.inr h
  have hS : va_S A s.heap s.heap [] := va_S.rf
  have hl := lv_entry ([.ref (o 0), .int x0, .int x1, .int x2]) (n := 8) (Nat.le_of_ble_eq_true rfl)
  rw [lg_entry_eq]
  generalize (lg_sl ([.ref (o 0), .int x0, .int x1, .int x2]) ++ List.replicate (8 - (lg_sl ([.ref (o 0), .int x0, .int x1, .int x2])).length) Slot.unset).toArray = ls at hl ⊢
  have hl : lv_has ls 8 [(0, .ref (o 0)), (1, .int x0), (2, .int x1), (3, .int x2)] := hl
  refine zgenQ (fun Q hQe => ?_)
  obtain ⟨tg, etg⟩ : ∃ z, z = fMO_order P S x0 x1 x2 := ⟨_, rfl⟩
  have E := etg
  unfold fMO_order at E
  have hJ31 : ∀ (H : Heap) (locs : List Loc) (ls : Array Slot) (S_31 : ZS) (x31_1 : Int32) (x31_2 : Int32) (x31_3 : Int32) (y31_0 : Int32), zr 0 1 x31_3 → zr 0 1 y31_0 → mok S_31 → (y31_0 = 0 ∨ zr 0 47 (x31_1)) → (y31_0 = 0 ∨ zr 0 59 (x31_2)) → tg = fMO_order_31 P S_31 x31_1 x31_2 x31_3 y31_0 → va_P (dC, dI) zCl (MW cI cZ cA o b P S_31) H → va_D A (MW cI cZ cA o b P S_31) → va_S A s.heap H locs → lv_has ls 8 [(0, .ref (o 0)), (1, .int x31_1), (2, .int x31_2), (3, .int x31_3)] → W p l e ({ frames := 4, cells := 0, slots := 0, locals := 94 } : Room) s m ([.ref (o 0), .int x0, .int x1, .int x2] : List Value).toArray below meth c H locs 0 0 Q (F0 m 31 ls [.int y31_0, .ref (o 0)]) := by
    intro H locs ls S_31 x31_1 x31_2 x31_3 y31_0 r_x31_3 r_y31_0 gS_31 cd31_0 cd31_1 E hP hD hS hl
    unfold fMO_order_31 at E
    have hJ64 : ∀ (H : Heap) (locs : List Loc) (ls : Array Slot) (S_64 : ZS) (x64_1 : Int32) (x64_2 : Int32) (x64_4 : Int32) (y64_0 : Int32), zr 0 47 x64_1 → zr 0 59 x64_2 → zr 0 287 x64_4 → zr 2 4 y64_0 → mok S_64 → tg = fMO_order_64 P S_64 x64_1 x64_2 x64_4 y64_0 → va_P (dC, dI) zCl (MW cI cZ cA o b P S_64) H → va_D A (MW cI cZ cA o b P S_64) → va_S A s.heap H locs → lv_has ls 8 [(0, .ref (o 0)), (1, .int x64_1), (2, .int x64_2), (4, .int x64_4)] → W p l e ({ frames := 4, cells := 0, slots := 0, locals := 94 } : Room) s m ([.ref (o 0), .int x0, .int x1, .int x2] : List Value).toArray below meth c H locs 0 0 Q (F0 m 64 ls [.int y64_0]) := by
      intro H locs ls S_64 x64_1 x64_2 x64_4 y64_0 r_x64_1 r_x64_2 r_x64_4 r_y64_0 gS_64 E hP hD hS hl
      unfold fMO_order_64 at E
      have hJ94 : ∀ (H : Heap) (locs : List Loc) (ls : Array Slot) (S_94 : ZS) (x94_1 : Int32) (x94_2 : Int32) (x94_4 : Int32) (x94_5 : Int32) (y94_0 : Int32), zr 0 47 x94_1 → zr 0 59 x94_2 → zr 0 287 x94_4 → zr 2 4 x94_5 → zr 0 1 y94_0 → mok S_94 → tg = fMO_order_94 P S_94 x94_1 x94_2 x94_4 x94_5 y94_0 → va_P (dC, dI) zCl (MW cI cZ cA o b P S_94) H → va_D A (MW cI cZ cA o b P S_94) → va_S A s.heap H locs → lv_has ls 8 [(0, .ref (o 0)), (1, .int x94_1), (2, .int x94_2), (4, .int x94_4), (5, .int x94_5)] → W p l e ({ frames := 4, cells := 0, slots := 0, locals := 94 } : Room) s m ([.ref (o 0), .int x0, .int x1, .int x2] : List Value).toArray below meth c H locs 0 0 Q (F0 m 94 ls [.int y94_0]) := by
        intro H locs ls S_94 x94_1 x94_2 x94_4 x94_5 y94_0 r_x94_1 r_x94_2 r_x94_4 r_x94_5 r_y94_0 gS_94 E hP hD hS hl
        unfold fMO_order_94 at E
        have hJ175 : ∀ (H : Heap) (locs : List Loc) (ls : Array Slot) (S_175 : ZS) (x175_6 : Int32), zr 0 1 x175_6 → mok S_175 → tg = fMO_order_175 P S_175 x175_6 → va_P (dC, dI) zCl (MW cI cZ cA o b P S_175) H → va_D A (MW cI cZ cA o b P S_175) → va_S A s.heap H locs → lv_has ls 8 [(0, .ref (o 0)), (6, .int x175_6)] → W p l e ({ frames := 4, cells := 0, slots := 0, locals := 94 } : Room) s m ([.ref (o 0), .int x0, .int x1, .int x2] : List Value).toArray below meth c H locs 0 0 Q (F0 m 175 ls []) := by
          intro H locs ls S_175 x175_6 r_x175_6 gS_175 E hP hD hS hl
          unfold fMO_order_175 at E
          refine lv_aload_n hx hb dMO_order_175 rfl (lv_at hl 0 rfl) ?_
          refine zcV (va_runV (As := []) (rest := []) ⟨hx, hb, hml, hown, zno⟩ (tMO_look l dC dI cI cZ cJ cA a0 s0 o b P S_175 H.size gP gS_175) (zcw 0 (hB.word (zm5 k5_143) rfl) (hB.word (zm1 k1_9) rfl) (hB.word (zm5 k5_140) rfl) (hB.word (zm5 k5_142) rfl) (k2_selects_private (by decide) (hB.word (zm4 k4_109) rfl) (hB.word (zm5 k5_141) rfl) (hB.word (zm5 k5_142) rfl)) rfl rfl (by decide +kernel) ⟨Nat.le_of_ble_eq_true rfl, Nat.le_of_ble_eq_true rfl⟩) ⟨zP_blind, va_recv hK hP (ci := 7) (q0 := 0) rfl rfl, zP_pre hP hK hD hAD (zB_on hB hA0 hS)⟩ rfl rfl hl.1 rfl (lv_room (Nat.le_of_ble_eq_true rfl)) dMO_order_176 ⟨Nat.le_of_ble_eq_true rfl, Nat.le_of_ble_eq_true rfl⟩) hD hS hA (fun S2 H1 locs h3 hP hD hS => ?_)
          have E := zl_s E h3.1
          have gS2 := h3.2
          refine lv_iload hx hb dMO_order_179 (lv_at hl 1 rfl) ?_
          rw [hQe]
          exact W.zret (v := x175_6) (ty := .boolean) hx hb hr (znar r_x175_6) (fun t ht hW => ⟨⟨x175_6, S2, rfl, ⟨E.symm.trans etg, gS2, r_x175_6⟩, by rw [ht]; exact hP, hD⟩, hS.F ht⟩) hS.2.2 dMO_order_181
        refine lv_istore (lv' := [(6, .int y94_0), (0, .ref (o 0)), (1, .int x94_1), (2, .int x94_2), (4, .int x94_4), (5, .int x94_5)]) hx hb dMO_order_94 hl (by decide) rfl (fun ls hl => ?_)
        refine lv_iload hx hb dMO_order_96 (lv_at hl 0 rfl) ?_
        refine z_if_eq (tgt := 175) hx hb dMO_order_98 (by decide) E (fun c_98 E => ?_) (fun c_98 E => ?_)
        · have r_y94_0 : zr 0 0 y94_0 := zeq_x (show zr 0 0 0 from by decide) c_98
          exact hJ175 H locs ls S_94 y94_0 (zr_mono r_y94_0 (by decide)) gS_94 E hP hD hS (lv_sub hl [1, 0] rfl)
        · have r_y94_0 : zr 1 1 y94_0 := zne_lo r_y94_0 c_98 (by decide)
          refine lv_aload_n hx hb dMO_order_101 rfl (lv_at hl 1 rfl) ?_
          refine lv_iload_n hx hb dMO_order_102 rfl (lv_at hl 2 rfl) ?_
          refine lv_aload_n hx hb dMO_order_103 rfl (lv_at hl 1 rfl) ?_
          refine m_getA_2 hx hb (hB.words zU_MO) hown hK hP (hB.word (zm4 k4_120) rfl) dMO_order_104 ?_
          refine lv_iload_n hx hb dMO_order_107 rfl (lv_at hl 3 rfl) ?_
          refine m_aldP hx hb hK hP 2 (by decide) rfl r_x94_2 (by decide) dMO_order_108 E (fun k4 ek4 E => ?_)
          have r_k4 : zr 0 5 k4 := by rw [ek4]; exact gP.1 2 _
          refine zcI (va_runV (As := [.int x94_1, .int k4]) (rest := []) ⟨hx, hb, hml, hown, zno⟩ (tMO_endCommand l dC dI cI cZ cJ cA a0 s0 o b P S_94 H.size x94_1 k4 gP gS_94 r_x94_1 r_k4) (zcw 2 (hB.word (zm5 k5_179) rfl) (hB.word (zm1 k1_9) rfl) (hB.word (zm5 k5_176) rfl) (hB.word (zm5 k5_178) rfl) (k2_selects_private (by decide) (hB.word (zm4 k4_109) rfl) (hB.word (zm5 k5_177) rfl) (hB.word (zm5 k5_178) rfl)) rfl rfl (by decide +kernel) ⟨Nat.le_of_ble_eq_true rfl, Nat.le_of_ble_eq_true rfl⟩) ⟨zP_blind, va_recv hK hP (ci := 7) (q0 := 0) rfl rfl, zP_pre hP hK hD hAD (zB_on hB hA0 hS)⟩ rfl rfl hl.1 rfl (lv_room (Nat.le_of_ble_eq_true rfl)) dMO_order_109 ⟨Nat.le_of_ble_eq_true rfl, Nat.le_of_ble_eq_true rfl⟩) hD hS hA (fun k6 S7 H5 locs h8 hP hD hS => ?_)
          have E := zl2_s E h8.1
          have gS7 := h8.2.1
          refine lv_istore (lv' := [(7, .int k6), (6, .int y94_0), (0, .ref (o 0)), (1, .int x94_1), (2, .int x94_2), (4, .int x94_4), (5, .int x94_5)]) hx hb dMO_order_112 hl (by decide) rfl (fun ls hl => ?_)
          refine lv_aload_n hx hb dMO_order_114 rfl (lv_at hl 2 rfl) ?_
          refine m_getA_15 hx hb (hB.words zU_MO) hown hK hP (hB.word (zm4 k4_133) rfl) dMO_order_115 ?_
          refine lv_iload hx hb dMO_order_118 (lv_at hl 5 rfl) ?_
          refine lv_iload hx hb dMO_order_120 (lv_at hl 6 rfl) ?_
          refine m_astS hx hb hK hP hD hS 15 (by decide) rfl r_x94_4 (by decide) dMO_order_122 E (fun S9 H10 locs eS9 E hP hD hS => ?_)
          have gS9 : mok S9 := by rw [eS9]; exact gS7.setF (k := 15) (zr_any x94_5) (Or.inl (by decide))
          refine lv_aload_n hx hb dMO_order_123 rfl (lv_at hl 2 rfl) ?_
          refine m_getA_16 hx hb (hB.words zU_MO) hown hK hP (hB.word (zm4 k4_134) rfl) dMO_order_124 ?_
          refine lv_iload hx hb dMO_order_127 (lv_at hl 5 rfl) ?_
          refine lv_iload_n hx hb dMO_order_129 rfl (lv_at hl 4 rfl) ?_
          refine m_astS hx hb hK hP hD hS 16 (by decide) rfl r_x94_4 (by decide) dMO_order_130 E (fun S11 H12 locs eS11 E hP hD hS => ?_)
          have gS11 : mok S11 := by rw [eS11]; exact gS9.setF (k := 16) r_x94_2 (Or.inl (by decide))
          refine lv_aload_n hx hb dMO_order_131 rfl (lv_at hl 2 rfl) ?_
          refine lv_iload_n hx hb dMO_order_132 rfl (lv_at hl 3 rfl) ?_
          refine lv_iload_n hx hb dMO_order_133 rfl (lv_at hl 4 rfl) ?_
          refine lv_iload hx hb dMO_order_134 (lv_at hl 6 rfl) ?_
          refine zcV (va_runV (As := [.int x94_1, .int x94_2, .int x94_5]) (rest := []) ⟨hx, hb, hml, hown, zno⟩ (tMO_begins l dC dI cI cZ cJ cA a0 s0 o b P S11 H12.size x94_1 x94_2 x94_5 gP gS11 r_x94_1 r_x94_2) (zcw 3 (hB.word (zm5 k5_151) rfl) (hB.word (zm1 k1_9) rfl) (hB.word (zm5 k5_148) rfl) (hB.word (zm5 k5_150) rfl) (k2_selects_private (by decide) (hB.word (zm4 k4_109) rfl) (hB.word (zm5 k5_149) rfl) (hB.word (zm5 k5_150) rfl)) rfl rfl (by decide +kernel) ⟨Nat.le_of_ble_eq_true rfl, Nat.le_of_ble_eq_true rfl⟩) ⟨zP_blind, va_recv hK hP (ci := 7) (q0 := 0) rfl rfl, zP_pre hP hK hD hAD (zB_on hB hA0 hS)⟩ rfl rfl hl.1 rfl (lv_room (Nat.le_of_ble_eq_true rfl)) dMO_order_136 ⟨Nat.le_of_ble_eq_true rfl, Nat.le_of_ble_eq_true rfl⟩) hD hS hA (fun S14 H13 locs h15 hP hD hS => ?_)
          have E := zl_s E h15.1
          have gS14 := h15.2
          refine lv_aload_n hx hb dMO_order_139 rfl (lv_at hl 2 rfl) ?_
          refine m_getA_17 hx hb (hB.words zU_MO) hown hK hP (hB.word (zm4 k4_135) rfl) dMO_order_140 ?_
          refine lv_iload_n hx hb dMO_order_143 rfl (lv_at hl 3 rfl) ?_
          refine lv_dup2_11 hx hb dMO_order_144 rfl rfl ?_
          refine m_aldS hx hb hK hP 17 (by decide) rfl r_x94_1 (by decide) dMO_order_145 E (fun k16 ek16 E => ?_)
          refine lv_iconst (v := 1) hx hb dMO_order_146 (by decide) ?_
          refine z_iadd hx hb dMO_order_147 E (fun k17 ek17 E => ?_)
          refine m_astS hx hb hK hP hD hS 17 (by decide) rfl r_x94_1 (by decide) dMO_order_148 E (fun S18 H19 locs eS18 E hP hD hS => ?_)
          have gS18 : mok S18 := by rw [eS18]; exact gS14.setF (k := 17) (zr_any k17) (Or.inl (by decide))
          refine lv_aload_n hx hb dMO_order_149 rfl (lv_at hl 2 rfl) ?_
          refine lv_iload_n hx hb dMO_order_150 rfl (lv_at hl 3 rfl) ?_
          refine lv_bipush (v := 60) hx hb dMO_order_151 (by decide) ?_
          refine lv_iload_n hx hb dMO_order_153 rfl (lv_at hl 3 rfl) ?_
          refine z_iadd hx hb dMO_order_154 E (fun k20 ek20 E => ?_)
          have r_k20 : zr 60 107 k20 := zr_add (show zr 60 60 60 from by decide) r_x94_1 ek20 (by decide)
          refine lv_aload_n hx hb dMO_order_155 rfl (lv_at hl 2 rfl) ?_
          refine m_getA_17 hx hb (hB.words zU_MO) hown hK hP (hB.word (zm4 k4_135) rfl) dMO_order_156 ?_
          refine lv_iload_n hx hb dMO_order_159 rfl (lv_at hl 3 rfl) ?_
          refine m_aldS hx hb hK hP 17 (by decide) rfl r_x94_1 (by decide) dMO_order_160 E (fun k21 ek21 E => ?_)
          refine lv_aload_n hx hb dMO_order_161 rfl (lv_at hl 2 rfl) ?_
          refine m_getA_2 hx hb (hB.words zU_MO) hown hK hP (hB.word (zm4 k4_120) rfl) dMO_order_162 ?_
          refine lv_iload_n hx hb dMO_order_165 rfl (lv_at hl 4 rfl) ?_
          refine m_aldP hx hb hK hP 2 (by decide) rfl r_x94_2 (by decide) dMO_order_166 E (fun k22 ek22 E => ?_)
          have x9 : k4 = k22 := by rw [ek4, ek22]
          subst x9
          refine zcV (va_runV (As := [.int x94_1, .int k20, .int k21, .int k4]) (rest := []) ⟨hx, hb, hml, hown, zno⟩ (tMO_news l dC dI cI cZ cJ cA a0 s0 o b P S18 H19.size x94_1 k20 k21 k4 gP gS18 r_x94_1 (zr_mono r_k20 (by decide))) (zcw 4 (hB.word (zm5 k5_123) rfl) (hB.word (zm1 k1_9) rfl) (hB.word (zm5 k5_120) rfl) (hB.word (zm5 k5_122) rfl) (k2_selects_private (by decide) (hB.word (zm4 k4_109) rfl) (hB.word (zm5 k5_121) rfl) (hB.word (zm5 k5_122) rfl)) rfl rfl (by decide +kernel) ⟨Nat.le_of_ble_eq_true rfl, Nat.le_of_ble_eq_true rfl⟩) ⟨zP_blind, va_recv hK hP (ci := 7) (q0 := 0) rfl rfl, zP_pre hP hK hD hAD (zB_on hB hA0 hS)⟩ rfl rfl hl.1 rfl (lv_room (Nat.le_of_ble_eq_true rfl)) dMO_order_167 ⟨Nat.le_of_ble_eq_true rfl, Nat.le_of_ble_eq_true rfl⟩) hD hS hA (fun S24 H23 locs h25 hP hD hS => ?_)
          have E := zl_s E h25.1
          have gS24 := h25.2
          refine lv_aload_n hx hb dMO_order_170 rfl (lv_at hl 2 rfl) ?_
          refine lv_iconst (v := 0) hx hb dMO_order_171 (by decide) ?_
          refine m_put_7 hx hb (hB.words zU_MO) hown hK hP hD hS (hB.word (zm4 k4_154) rfl) dMO_order_172 E (fun S26 H27 locs eS26 E hP hD hS => ?_)
          have gS26 : mok S26 := by rw [eS26]; exact gS24.setI (t := 7) (show zr (-2147483648) 2147483647 0 from by decide)
          exact hJ175 H27 locs ls S26 y94_0 (zr_mono r_y94_0 (by decide)) gS26 E hP hD hS (lv_sub hl [2, 1] rfl)
      have hJ89 : ∀ (H : Heap) (locs : List Loc) (ls : Array Slot) (S_89 : ZS) (x89_1 : Int32) (x89_2 : Int32) (x89_4 : Int32) (x89_5 : Int32), zr 0 47 x89_1 → zr 0 59 x89_2 → zr 0 287 x89_4 → zr 2 4 x89_5 → mok S_89 → tg = fMO_order_89 P S_89 x89_1 x89_2 x89_4 x89_5 → va_P (dC, dI) zCl (MW cI cZ cA o b P S_89) H → va_D A (MW cI cZ cA o b P S_89) → va_S A s.heap H locs → lv_has ls 8 [(0, .ref (o 0)), (1, .int x89_1), (2, .int x89_2), (4, .int x89_4), (5, .int x89_5)] → W p l e ({ frames := 4, cells := 0, slots := 0, locals := 94 } : Room) s m ([.ref (o 0), .int x0, .int x1, .int x2] : List Value).toArray below meth c H locs 0 0 Q (F0 m 89 ls []) := by
        intro H locs ls S_89 x89_1 x89_2 x89_4 x89_5 r_x89_1 r_x89_2 r_x89_4 r_x89_5 gS_89 E hP hD hS hl
        unfold fMO_order_89 at E
        refine lv_iconst (v := 1) hx hb dMO_order_89 (by decide) ?_
        refine lv_goto (tgt := 94) hx hb dMO_order_90 (by decide) ?_
        exact hJ94 H locs ls S_89 x89_1 x89_2 x89_4 x89_5 1 r_x89_1 r_x89_2 r_x89_4 r_x89_5 (show zr 0 1 1 from by decide) gS_89 E hP hD hS (lv_sub hl [0, 1, 2, 3, 4] rfl)
      refine lv_istore (lv' := [(5, .int y64_0), (0, .ref (o 0)), (1, .int x64_1), (2, .int x64_2), (4, .int x64_4)]) hx hb dMO_order_64 hl (by decide) rfl (fun ls hl => ?_)
      refine lv_aload_n hx hb dMO_order_66 rfl (lv_at hl 1 rfl) ?_
      refine m_getA_15 hx hb (hB.words zU_MO) hown hK hP (hB.word (zm4 k4_133) rfl) dMO_order_67 ?_
      refine lv_iload hx hb dMO_order_70 (lv_at hl 4 rfl) ?_
      refine m_aldS hx hb hK hP 15 (by decide) rfl r_x64_4 (by decide) dMO_order_72 E (fun k28 ek28 E => ?_)
      refine lv_iload hx hb dMO_order_73 (lv_at hl 0 rfl) ?_
      refine z_icmp_ne (tgt := 89) hx hb dMO_order_75 (by decide) E (fun c_75 E => ?_) (fun c_75 E => ?_)
      · exact hJ89 H locs ls S_64 x64_1 x64_2 x64_4 y64_0 r_x64_1 r_x64_2 r_x64_4 r_y64_0 gS_64 E hP hD hS (lv_sub hl [1, 2, 3, 4, 0] rfl)
      · have r_k28 : zr 2 4 k28 := zeq_x r_y64_0 c_75
        refine lv_aload_n hx hb dMO_order_78 rfl (lv_at hl 1 rfl) ?_
        refine m_getA_16 hx hb (hB.words zU_MO) hown hK hP (hB.word (zm4 k4_134) rfl) dMO_order_79 ?_
        refine lv_iload hx hb dMO_order_82 (lv_at hl 4 rfl) ?_
        refine m_aldS hx hb hK hP 16 (by decide) rfl r_x64_4 (by decide) dMO_order_84 E (fun k29 ek29 E => ?_)
        have r_k29 : zr 0 59 k29 := by rw [ek29]; exact gS_64.1 16 _
        refine lv_iload_n hx hb dMO_order_85 rfl (lv_at hl 3 rfl) ?_
        refine z_icmp_eq (tgt := 93) hx hb dMO_order_86 (by decide) E (fun c_86 E => ?_) (fun c_86 E => ?_)
        · refine lv_iconst (v := 0) hx hb dMO_order_93 (by decide) ?_
          exact hJ94 H locs ls S_64 x64_1 x64_2 x64_4 y64_0 0 r_x64_1 r_x64_2 r_x64_4 r_y64_0 (show zr 0 1 0 from by decide) gS_64 E hP hD hS (lv_sub hl [1, 2, 3, 4, 0] rfl)
        · exact hJ89 H locs ls S_64 x64_1 x64_2 x64_4 y64_0 r_x64_1 r_x64_2 r_x64_4 r_y64_0 gS_64 E hP hD hS (lv_sub hl [1, 2, 3, 4, 0] rfl)
    refine lv_aload_n hx hb dMO_order_31 rfl (lv_at hl 0 rfl) ?_
    refine m_get_0 hx hb (hB.words zU_MO) hown hK hP (hB.word (zm4 k4_115) rfl) dMO_order_32 E (fun k30 ek30 E => ?_)
    have r_k30 : zr 0 1 k30 := by rw [ek30]; exact gP.2.1 0
    refine zcI (va_runV (As := [.int y31_0, .int k30]) (rest := []) ⟨hx, hb, hml, hown, zno⟩ (tMO_goes l dC dI cI cZ cJ cA a0 s0 o b P S_31 H.size y31_0 k30 gP gS_31 r_y31_0 r_k30) (zcw 2 (hB.word (zm5 k5_56) rfl) (hB.word (zm1 k1_9) rfl) (hB.word (zm5 k5_53) rfl) (hB.word (zm5 k5_55) rfl) (k2_selects_private (by decide) (hB.word (zm4 k4_109) rfl) (hB.word (zm5 k5_54) rfl) (hB.word (zm5 k5_55) rfl)) rfl rfl (by decide +kernel) ⟨Nat.le_of_ble_eq_true rfl, Nat.le_of_ble_eq_true rfl⟩) ⟨zP_blind, va_recv hK hP (ci := 7) (q0 := 0) rfl rfl, zP_pre hP hK hD hAD (zB_on hB hA0 hS)⟩ rfl rfl hl.1 rfl (lv_room (Nat.le_of_ble_eq_true rfl)) dMO_order_35 ⟨Nat.le_of_ble_eq_true rfl, Nat.le_of_ble_eq_true rfl⟩) hD hS hA (fun k32 S33 H31 locs h34 hP hD hS => ?_)
    have E := zl2_s E h34.1
    have gS33 := h34.2.1
    obtain ⟨v_S33, eS33⟩ := zgoes_S h34.1
    refine z_if_ne (tgt := 43) hx hb dMO_order_38 (by decide) E (fun c_38 E => ?_) (fun c_38 E => ?_)
    · have r_k32 : zr 1 1 k32 := zne_lo h34.2.2 c_38 (by decide)
      have r_x31_1 : zr 0 47 x31_1 := ((zor (zgoes_0 h34.1) cd31_0)).resolve_left (zrne r_k32 (by decide))
      have r_x31_2 : zr 0 59 x31_2 := ((zor (zgoes_0 h34.1) cd31_1)).resolve_left (zrne r_k32 (by decide))
      refine lv_iload_n hx hb dMO_order_43 rfl (lv_at hl 1 rfl) ?_
      refine lv_aload_n hx hb dMO_order_44 rfl (lv_at hl 0 rfl) ?_
      refine m_getA_2 hx hb (hB.words zU_MO) hown hK hP (hB.word (zm4 k4_120) rfl) dMO_order_45 ?_
      refine lv_iload_n hx hb dMO_order_48 rfl (lv_at hl 2 rfl) ?_
      refine m_aldP hx hb hK hP 2 (by decide) rfl r_x31_2 (by decide) dMO_order_49 E (fun k35 ek35 E => ?_)
      have r_k35 : zr 0 5 k35 := by rw [ek35]; exact gP.1 2 _
      refine zcallp (va_runS (As := [.int x31_1, .int k35]) (rest := []) ⟨hx, hb, hml, hown, zno⟩ (tMO_at l dC dI cI cZ cJ cA a0 s0 o b P S33 H31.size x31_1 k35 gP gS33 r_x31_1 r_k35) ⟨zcb 2 (hB.word (zm5 k5_119) rfl) (hB.word (zm1 k1_9) rfl) (hB.word (zm5 k5_117) rfl) rfl rfl (by decide +kernel) ⟨Nat.le_of_ble_eq_true rfl, Nat.le_of_ble_eq_true rfl⟩, hB.word (zm5 k5_118) rfl⟩ ⟨zP_blind, zP_pre hP hK hD hAD (zB_on hB hA0 hS)⟩ rfl rfl hl.1 rfl (lv_room (Nat.le_of_ble_eq_true rfl)) dMO_order_50 ⟨Nat.le_of_ble_eq_true rfl, Nat.le_of_ble_eq_true rfl⟩) hS hA (fun k37 H36 locs hk37 hz1 hk1 hS => ?_)
      have hP := zKeep hP hk1
      have E := zl_s E hk37.1
      refine lv_istore (lv' := [(4, .int k37), (0, .ref (o 0)), (1, .int x31_1), (2, .int x31_2), (3, .int x31_3)]) hx hb dMO_order_53 hl (by decide) rfl (fun ls hl => ?_)
      refine lv_iload_n hx hb dMO_order_55 rfl (lv_at hl 4 rfl) ?_
      refine z_if_eq (tgt := 63) hx hb dMO_order_56 (by decide) E (fun c_56 E => ?_) (fun c_56 E => ?_)
      · have r_x31_3 : zr 0 0 x31_3 := zeq_x (show zr 0 0 0 from by decide) c_56
        refine lv_iconst (v := 4) hx hb dMO_order_63 (by decide) ?_
        exact hJ64 H36 locs ls S33 x31_1 x31_2 k37 4 r_x31_1 r_x31_2 hk37.2 (show zr 2 4 4 from by decide) gS33 E hP hD hS (lv_sub hl [1, 2, 3, 0] rfl)
      · have r_x31_3 : zr 1 1 x31_3 := zne_lo r_x31_3 c_56 (by decide)
        refine lv_iconst (v := 2) hx hb dMO_order_59 (by decide) ?_
        refine lv_goto (tgt := 64) hx hb dMO_order_60 (by decide) ?_
        exact hJ64 H36 locs ls S33 x31_1 x31_2 k37 2 r_x31_1 r_x31_2 hk37.2 (show zr 2 4 2 from by decide) gS33 E hP hD hS (lv_sub hl [1, 2, 3, 0] rfl)
    · have r_k32 : zr 0 0 k32 := zeq_x (show zr 0 0 0 from by decide) c_38
      refine lv_iconst (v := 0) hx hb dMO_order_41 (by decide) ?_
      rw [hQe]
      exact W.zret (v := 0) (ty := .boolean) hx hb hr (znar (show zr 0 1 0 from by decide)) (fun t ht hW => ⟨⟨0, S33, rfl, ⟨E.symm.trans etg, gS33, (show zr 0 1 0 from by decide)⟩, by rw [ht]; exact hP, hD⟩, hS.F ht⟩) hS.2.2 dMO_order_42
  have hJ30 : ∀ (H : Heap) (locs : List Loc) (ls : Array Slot) (S_30 : ZS) (x30_1 : Int32) (x30_2 : Int32) (x30_3 : Int32), zr 0 1 x30_3 → mok S_30 → tg = fMO_order_30 P S_30 x30_1 x30_2 x30_3 → va_P (dC, dI) zCl (MW cI cZ cA o b P S_30) H → va_D A (MW cI cZ cA o b P S_30) → va_S A s.heap H locs → lv_has ls 8 [(0, .ref (o 0)), (1, .int x30_1), (2, .int x30_2), (3, .int x30_3)] → W p l e ({ frames := 4, cells := 0, slots := 0, locals := 94 } : Room) s m ([.ref (o 0), .int x0, .int x1, .int x2] : List Value).toArray below meth c H locs 0 0 Q (F0 m 30 ls [.ref (o 0)]) := by
    intro H locs ls S_30 x30_1 x30_2 x30_3 r_x30_3 gS_30 E hP hD hS hl
    unfold fMO_order_30 at E
    refine lv_iconst (v := 0) hx hb dMO_order_30 (by decide) ?_
    exact hJ31 H locs ls S_30 x30_1 x30_2 x30_3 0 r_x30_3 (show zr 0 1 0 from by decide) gS_30 (Or.inl rfl) (Or.inl rfl) E hP hD hS (lv_sub hl [0, 1, 2, 3] rfl)
  refine lv_aload_n hx hb dMO_order_0 rfl (lv_at hl 0 rfl) ?_
  refine lv_aload_n hx hb dMO_order_1 rfl (lv_at hl 0 rfl) ?_
  refine lv_iload_n hx hb dMO_order_2 rfl (lv_at hl 1 rfl) ?_
  refine zcallp (va_runV (As := [.int x0]) (rest := [.ref (o 0)]) ⟨hx, hb, hml, hown, zno⟩ (tMO_isBridge l dC dI cI cZ cJ cA a0 s0 o b P S s.heap.size x0 gP gS) (zcw 1 (hB.word (zm5 k5_49) rfl) (hB.word (zm1 k1_9) rfl) (hB.word (zm5 k5_46) rfl) (hB.word (zm5 k5_48) rfl) (k2_selects_private (by decide) (hB.word (zm4 k4_109) rfl) (hB.word (zm5 k5_47) rfl) (hB.word (zm5 k5_48) rfl)) rfl rfl (by decide +kernel) ⟨Nat.le_of_ble_eq_true rfl, Nat.le_of_ble_eq_true rfl⟩) ⟨zP_blind, va_recv hK hP (ci := 7) (q0 := 0) rfl rfl, zP_pre hP hK hD hAD (zB_on hB hA0 hS)⟩ rfl rfl hl.1 rfl (lv_room (Nat.le_of_ble_eq_true rfl)) dMO_order_3 ⟨Nat.le_of_ble_eq_true rfl, Nat.le_of_ble_eq_true rfl⟩) hS hA (fun k39 H38 locs hk39 hz1 hk1 hS => ?_)
  have hP := zKeep hP hk1
  have E := zl_s E hk39.1
  refine z_if_eq (tgt := 30) hx hb dMO_order_6 (by decide) E (fun c_6 E => ?_) (fun c_6 E => ?_)
  · have r_k39 : zr 0 0 k39 := zeq_x (show zr 0 0 0 from by decide) c_6
    exact hJ30 H38 locs ls S x0 x1 x2 r_x2 gS E hP hD hS (lv_sub hl [0, 1, 2, 3] rfl)
  · have r_k39 : zr 1 1 k39 := zne_lo hk39.2 c_6 (by decide)
    have r_x0 : zr 0 47 x0 := ((zc_isBridge gP hk39.1)).resolve_left (zrne r_k39 (by decide))
    refine lv_aload_n hx hb dMO_order_9 rfl (lv_at hl 0 rfl) ?_
    refine lv_iload_n hx hb dMO_order_10 rfl (lv_at hl 2 rfl) ?_
    refine zcallp (va_runV (As := [.int x1]) (rest := [.ref (o 0)]) ⟨hx, hb, hml, hown, zno⟩ (tMO_isLink l dC dI cI cZ cJ cA a0 s0 o b P S H38.size x1 gP gS) (zcw 1 (hB.word (zm5 k5_64) rfl) (hB.word (zm1 k1_9) rfl) (hB.word (zm5 k5_61) rfl) (hB.word (zm5 k5_63) rfl) (k2_selects_private (by decide) (hB.word (zm4 k4_109) rfl) (hB.word (zm5 k5_62) rfl) (hB.word (zm5 k5_63) rfl)) rfl rfl (by decide +kernel) ⟨Nat.le_of_ble_eq_true rfl, Nat.le_of_ble_eq_true rfl⟩) ⟨zP_blind, va_recv hK hP (ci := 7) (q0 := 0) rfl rfl, zP_pre hP hK hD hAD (zB_on hB hA0 hS)⟩ rfl rfl hl.1 rfl (lv_room (Nat.le_of_ble_eq_true rfl)) dMO_order_11 ⟨Nat.le_of_ble_eq_true rfl, Nat.le_of_ble_eq_true rfl⟩) hS hA (fun k41 H40 locs hk41 hz1 hk1 hS => ?_)
    have hP := zKeep hP hk1
    have E := zl_s E hk41.1
    refine z_if_eq (tgt := 30) hx hb dMO_order_14 (by decide) E (fun c_14 E => ?_) (fun c_14 E => ?_)
    · have r_k41 : zr 0 0 k41 := zeq_x (show zr 0 0 0 from by decide) c_14
      exact hJ30 H40 locs ls S x0 x1 x2 r_x2 gS E hP hD hS (lv_sub hl [0, 1, 2, 3] rfl)
    · have r_k41 : zr 1 1 k41 := zne_lo hk41.2 c_14 (by decide)
      have r_x1 : zr 0 59 x1 := ((zc_isLink gP hk41.1)).resolve_left (zrne r_k41 (by decide))
      refine lv_aload_n hx hb dMO_order_17 rfl (lv_at hl 0 rfl) ?_
      refine lv_iload_n hx hb dMO_order_18 rfl (lv_at hl 1 rfl) ?_
      refine lv_iload_n hx hb dMO_order_19 rfl (lv_at hl 2 rfl) ?_
      refine zcallp (va_runV (As := [.int x0, .int x1]) (rest := [.ref (o 0)]) ⟨hx, hb, hml, hown, zno⟩ (tMO_isEnd l dC dI cI cZ cJ cA a0 s0 o b P S H40.size x0 x1 gP gS r_x1) (zcw 2 (hB.word (zm5 k5_80) rfl) (hB.word (zm1 k1_9) rfl) (hB.word (zm5 k5_77) rfl) (hB.word (zm5 k5_79) rfl) (k2_selects_private (by decide) (hB.word (zm4 k4_109) rfl) (hB.word (zm5 k5_78) rfl) (hB.word (zm5 k5_79) rfl)) rfl rfl (by decide +kernel) ⟨Nat.le_of_ble_eq_true rfl, Nat.le_of_ble_eq_true rfl⟩) ⟨zP_blind, va_recv hK hP (ci := 7) (q0 := 0) rfl rfl, zP_pre hP hK hD hAD (zB_on hB hA0 hS)⟩ rfl rfl hl.1 rfl (lv_room (Nat.le_of_ble_eq_true rfl)) dMO_order_20 ⟨Nat.le_of_ble_eq_true rfl, Nat.le_of_ble_eq_true rfl⟩) hS hA (fun k43 H42 locs hk43 hz1 hk1 hS => ?_)
      have hP := zKeep hP hk1
      have E := zl_s E hk43.1
      refine z_if_eq (tgt := 30) hx hb dMO_order_23 (by decide) E (fun c_23 E => ?_) (fun c_23 E => ?_)
      · have r_k43 : zr 0 0 k43 := zeq_x (show zr 0 0 0 from by decide) c_23
        exact hJ30 H42 locs ls S x0 x1 x2 r_x2 gS E hP hD hS (lv_sub hl [0, 1, 2, 3] rfl)
      · have r_k43 : zr 1 1 k43 := zne_lo hk43.2 c_23 (by decide)
        refine lv_iconst (v := 1) hx hb dMO_order_26 (by decide) ?_
        refine lv_goto (tgt := 31) hx hb dMO_order_27 (by decide) ?_
        exact hJ31 H42 locs ls S x0 x1 x2 1 r_x2 (show zr 0 1 1 from by decide) gS (Or.inr r_x0) (Or.inr r_x1) E hP hD hS (lv_sub hl [0, 1, 2, 3] rfl)
noncomputable def fMO_clear_53 (P : ZS) (S_53 : ZS) (x53_3 : Int32) (y53_0 : Int32) : ZS × Int32 := zl (S_53.setI 7 y53_0) (fun S1 => zl (fMO_look P S1) (fun S4 => (S4, x53_3)))
noncomputable def fMO_clear_21 (P : ZS) (S_21 : ZS) (x21_1 : Int32) (x21_2 : Int32) (y21_0 : Int32) : ZS × Int32 := zl (P.I 0) (fun k6 => zl2 (fMO_goes P S_21 y21_0 k6) (fun S9 k8 => (if k8 = 0 then (S9, 0) else zl2 (fMO_endCommand P S9 x21_1 x21_2) (fun S13 k12 => (if k12 = 0 then zl (S13.I 7) (fun k15 => fMO_clear_53 P S13 k12 k15) else fMO_clear_53 P S13 k12 0)))))
noncomputable def fMO_clear_20 (P : ZS) (S_20 : ZS) (x20_1 : Int32) (x20_2 : Int32) : ZS × Int32 := fMO_clear_21 P S_20 x20_1 x20_2 0
noncomputable def fMO_clear (P S : ZS) (x0 : Int32) (x1 : Int32) : ZS × Int32 := zl (fMO_isBridge P S x0) (fun k17 => (if k17 = 0 then fMO_clear_20 P S x0 x1 else zl (fMO_isRing P S x1) (fun k19 => (if k19 = 0 then fMO_clear_20 P S x0 x1 else fMO_clear_21 P S x0 x1 1))))
set_option maxHeartbeats 4000000 in
set_option maxRecDepth 100000 in
theorem tMO_clear (l : Launch) (dC : Nat → ClassId) (dI : Nat → Nat → Nat) (cI cZ cJ cA : ClassId) (a0 : Array Value) (s0 : State) (o b : Nat → Nat) (P S : ZS) (sz : Nat) (x0 : Int32) (x1 : Int32) (gP : mok P) (gS : mok S) : Met l yMO_clear [Cond.code yMO_clear bMO_clear 4 (some .boolean)] ({ frames := 4, cells := 0, slots := 0, locals := 91 } : Room) (zP zCl dC dI (zTZ cI cZ cJ cA) a0 s0 [.ref (o 0), .int x0, .int x1] sz (MW cI cZ cA o b P S)) (zQH zCl dC dI (fun (r : Int32) (x9 : ZS) => (x9, r) = fMO_clear P S x0 x1 ∧ mok x9 ∧ zr 0 1 r) (fun x9 : ZS => (MW cI cZ cA o b P x9)) (va_A (MW cI cZ cA o b P S) sz)) 0 0 (va_A (MW cI cZ cA o b P S) sz) := by
  refine Met.ofW (cc := bMO_clear) (maxL := 4) (ret := (some .boolean)) (by decide) rfl ?_
  intro p e s m args below meth c s₁ B hml hv
  obtain ⟨rfl, hsz, hP, hK, hD0, hB⟩ := hv
  have hx := B.exec
  have hb := B.bytes
  have hr := B.returns
  have hown : s.vm.findClass "RingGuardModel" = some m.cls := findClass_of_methodNamed B.named
  have hlocks := B.notSynchronized
  subst hsz
  have hD := hD0.self (sz := s.heap.size)
  have hA0 := zA0 hD0 hB
  generalize hAe : va_A (MW cI cZ cA o b P S) s.heap.size = A at hD hA0 ⊢
  have hAD := hA0
  have hA : ∀ q : Nat, s.heap.size ≤ q → A q := fun q h => by rw [← hAe]; exact Or.inr h
  have hS : va_S A s.heap s.heap [] := va_S.rf
  have hl := lv_entry ([.ref (o 0), .int x0, .int x1]) (n := 4) (Nat.le_of_ble_eq_true rfl)
  rw [lg_entry_eq]
  generalize (lg_sl ([.ref (o 0), .int x0, .int x1]) ++ List.replicate (4 - (lg_sl ([.ref (o 0), .int x0, .int x1])).length) Slot.unset).toArray = ls at hl ⊢
  have hl : lv_has ls 4 [(0, .ref (o 0)), (1, .int x0), (2, .int x1)] := hl
  refine zgenQ (fun Q hQe => ?_)
  obtain ⟨tg, etg⟩ : ∃ z, z = fMO_clear P S x0 x1 := ⟨_, rfl⟩
  have E := etg
  unfold fMO_clear at E
  have hJ21 : ∀ (H : Heap) (locs : List Loc) (ls : Array Slot) (S_21 : ZS) (x21_1 : Int32) (x21_2 : Int32) (y21_0 : Int32), zr 0 1 y21_0 → mok S_21 → (y21_0 = 0 ∨ zr 0 47 (x21_1)) → (y21_0 = 0 ∨ zr 0 5 (x21_2)) → tg = fMO_clear_21 P S_21 x21_1 x21_2 y21_0 → va_P (dC, dI) zCl (MW cI cZ cA o b P S_21) H → va_D A (MW cI cZ cA o b P S_21) → va_S A s.heap H locs → lv_has ls 4 [(0, .ref (o 0)), (1, .int x21_1), (2, .int x21_2)] → W p l e ({ frames := 4, cells := 0, slots := 0, locals := 91 } : Room) s m ([.ref (o 0), .int x0, .int x1] : List Value).toArray below meth c H locs 0 0 Q (F0 m 21 ls [.int y21_0, .ref (o 0)]) := by
    intro H locs ls S_21 x21_1 x21_2 y21_0 r_y21_0 gS_21 cd21_0 cd21_1 E hP hD hS hl
    unfold fMO_clear_21 at E
    have hJ53 : ∀ (H : Heap) (locs : List Loc) (ls : Array Slot) (S_53 : ZS) (x53_3 : Int32) (y53_0 : Int32), zr 0 1 x53_3 → mok S_53 → tg = fMO_clear_53 P S_53 x53_3 y53_0 → va_P (dC, dI) zCl (MW cI cZ cA o b P S_53) H → va_D A (MW cI cZ cA o b P S_53) → va_S A s.heap H locs → lv_has ls 4 [(0, .ref (o 0)), (3, .int x53_3)] → W p l e ({ frames := 4, cells := 0, slots := 0, locals := 91 } : Room) s m ([.ref (o 0), .int x0, .int x1] : List Value).toArray below meth c H locs 0 0 Q (F0 m 53 ls [.int y53_0, .ref (o 0)]) := by
      intro H locs ls S_53 x53_3 y53_0 r_x53_3 gS_53 E hP hD hS hl
      unfold fMO_clear_53 at E
      refine m_put_7 hx hb (hB.words zU_MO) hown hK hP hD hS (hB.word (zm4 k4_154) rfl) dMO_clear_53 E (fun S1 H2 locs eS1 E hP hD hS => ?_)
      have gS1 : mok S1 := by rw [eS1]; exact gS_53.setI (t := 7) (zr_any y53_0)
      refine lv_aload_n hx hb dMO_clear_56 rfl (lv_at hl 0 rfl) ?_
      refine zcV (va_runV (As := []) (rest := []) ⟨hx, hb, hml, hown, zno⟩ (tMO_look l dC dI cI cZ cJ cA a0 s0 o b P S1 H2.size gP gS1) (zcw 0 (hB.word (zm5 k5_143) rfl) (hB.word (zm1 k1_9) rfl) (hB.word (zm5 k5_140) rfl) (hB.word (zm5 k5_142) rfl) (k2_selects_private (by decide) (hB.word (zm4 k4_109) rfl) (hB.word (zm5 k5_141) rfl) (hB.word (zm5 k5_142) rfl)) rfl rfl (by decide +kernel) ⟨Nat.le_of_ble_eq_true rfl, Nat.le_of_ble_eq_true rfl⟩) ⟨zP_blind, va_recv hK hP (ci := 7) (q0 := 0) rfl rfl, zP_pre hP hK hD hAD (zB_on hB hA0 hS)⟩ rfl rfl hl.1 rfl (lv_room (Nat.le_of_ble_eq_true rfl)) dMO_clear_57 ⟨Nat.le_of_ble_eq_true rfl, Nat.le_of_ble_eq_true rfl⟩) hD hS hA (fun S4 H3 locs h5 hP hD hS => ?_)
      have E := zl_s E h5.1
      have gS4 := h5.2
      refine lv_iload_n hx hb dMO_clear_60 rfl (lv_at hl 1 rfl) ?_
      rw [hQe]
      exact W.zret (v := x53_3) (ty := .boolean) hx hb hr (znar r_x53_3) (fun t ht hW => ⟨⟨x53_3, S4, rfl, ⟨E.symm.trans etg, gS4, r_x53_3⟩, by rw [ht]; exact hP, hD⟩, hS.F ht⟩) hS.2.2 dMO_clear_61
    refine lv_aload_n hx hb dMO_clear_21 rfl (lv_at hl 0 rfl) ?_
    refine m_get_0 hx hb (hB.words zU_MO) hown hK hP (hB.word (zm4 k4_115) rfl) dMO_clear_22 E (fun k6 ek6 E => ?_)
    have r_k6 : zr 0 1 k6 := by rw [ek6]; exact gP.2.1 0
    refine zcI (va_runV (As := [.int y21_0, .int k6]) (rest := []) ⟨hx, hb, hml, hown, zno⟩ (tMO_goes l dC dI cI cZ cJ cA a0 s0 o b P S_21 H.size y21_0 k6 gP gS_21 r_y21_0 r_k6) (zcw 2 (hB.word (zm5 k5_56) rfl) (hB.word (zm1 k1_9) rfl) (hB.word (zm5 k5_53) rfl) (hB.word (zm5 k5_55) rfl) (k2_selects_private (by decide) (hB.word (zm4 k4_109) rfl) (hB.word (zm5 k5_54) rfl) (hB.word (zm5 k5_55) rfl)) rfl rfl (by decide +kernel) ⟨Nat.le_of_ble_eq_true rfl, Nat.le_of_ble_eq_true rfl⟩) ⟨zP_blind, va_recv hK hP (ci := 7) (q0 := 0) rfl rfl, zP_pre hP hK hD hAD (zB_on hB hA0 hS)⟩ rfl rfl hl.1 rfl (lv_room (Nat.le_of_ble_eq_true rfl)) dMO_clear_25 ⟨Nat.le_of_ble_eq_true rfl, Nat.le_of_ble_eq_true rfl⟩) hD hS hA (fun k8 S9 H7 locs h10 hP hD hS => ?_)
    have E := zl2_s E h10.1
    have gS9 := h10.2.1
    obtain ⟨v_S9, eS9⟩ := zgoes_S h10.1
    refine z_if_ne (tgt := 33) hx hb dMO_clear_28 (by decide) E (fun c_28 E => ?_) (fun c_28 E => ?_)
    · have r_k8 : zr 1 1 k8 := zne_lo h10.2.2 c_28 (by decide)
      have r_x21_1 : zr 0 47 x21_1 := ((zor (zgoes_0 h10.1) cd21_0)).resolve_left (zrne r_k8 (by decide))
      have r_x21_2 : zr 0 5 x21_2 := ((zor (zgoes_0 h10.1) cd21_1)).resolve_left (zrne r_k8 (by decide))
      refine lv_aload_n hx hb dMO_clear_33 rfl (lv_at hl 0 rfl) ?_
      refine lv_iload_n hx hb dMO_clear_34 rfl (lv_at hl 1 rfl) ?_
      refine lv_iload_n hx hb dMO_clear_35 rfl (lv_at hl 2 rfl) ?_
      refine zcI (va_runV (As := [.int x21_1, .int x21_2]) (rest := []) ⟨hx, hb, hml, hown, zno⟩ (tMO_endCommand l dC dI cI cZ cJ cA a0 s0 o b P S9 H7.size x21_1 x21_2 gP gS9 r_x21_1 r_x21_2) (zcw 2 (hB.word (zm5 k5_179) rfl) (hB.word (zm1 k1_9) rfl) (hB.word (zm5 k5_176) rfl) (hB.word (zm5 k5_178) rfl) (k2_selects_private (by decide) (hB.word (zm4 k4_109) rfl) (hB.word (zm5 k5_177) rfl) (hB.word (zm5 k5_178) rfl)) rfl rfl (by decide +kernel) ⟨Nat.le_of_ble_eq_true rfl, Nat.le_of_ble_eq_true rfl⟩) ⟨zP_blind, va_recv hK hP (ci := 7) (q0 := 0) rfl rfl, zP_pre hP hK hD hAD (zB_on hB hA0 hS)⟩ rfl rfl hl.1 rfl (lv_room (Nat.le_of_ble_eq_true rfl)) dMO_clear_36 ⟨Nat.le_of_ble_eq_true rfl, Nat.le_of_ble_eq_true rfl⟩) hD hS hA (fun k12 S13 H11 locs h14 hP hD hS => ?_)
      have E := zl2_s E h14.1
      have gS13 := h14.2.1
      refine lv_istore_n (lv' := [(3, .int k12), (0, .ref (o 0)), (1, .int x21_1), (2, .int x21_2)]) hx hb dMO_clear_39 rfl hl (by decide) rfl (fun ls hl => ?_)
      refine lv_aload_n hx hb dMO_clear_40 rfl (lv_at hl 1 rfl) ?_
      refine lv_iload_n hx hb dMO_clear_41 rfl (lv_at hl 0 rfl) ?_
      refine z_if_eq (tgt := 49) hx hb dMO_clear_42 (by decide) E (fun c_42 E => ?_) (fun c_42 E => ?_)
      · have r_k12 : zr 0 0 k12 := zeq_x (show zr 0 0 0 from by decide) c_42
        refine lv_aload_n hx hb dMO_clear_49 rfl (lv_at hl 1 rfl) ?_
        refine m_get_7 hx hb (hB.words zU_MO) hown hK hP (hB.word (zm4 k4_154) rfl) dMO_clear_50 E (fun k15 ek15 E => ?_)
        exact hJ53 H11 locs ls S13 k12 k15 (zr_mono r_k12 (by decide)) gS13 E hP hD hS (lv_sub hl [1, 0] rfl)
      · have r_k12 : zr 1 1 k12 := zne_lo h14.2.2 c_42 (by decide)
        refine lv_iconst (v := 0) hx hb dMO_clear_45 (by decide) ?_
        refine lv_goto (tgt := 53) hx hb dMO_clear_46 (by decide) ?_
        exact hJ53 H11 locs ls S13 k12 0 (zr_mono r_k12 (by decide)) gS13 E hP hD hS (lv_sub hl [1, 0] rfl)
    · have r_k8 : zr 0 0 k8 := zeq_x (show zr 0 0 0 from by decide) c_28
      refine lv_iconst (v := 0) hx hb dMO_clear_31 (by decide) ?_
      rw [hQe]
      exact W.zret (v := 0) (ty := .boolean) hx hb hr (znar (show zr 0 1 0 from by decide)) (fun t ht hW => ⟨⟨0, S9, rfl, ⟨E.symm.trans etg, gS9, (show zr 0 1 0 from by decide)⟩, by rw [ht]; exact hP, hD⟩, hS.F ht⟩) hS.2.2 dMO_clear_32
  have hJ20 : ∀ (H : Heap) (locs : List Loc) (ls : Array Slot) (S_20 : ZS) (x20_1 : Int32) (x20_2 : Int32), mok S_20 → tg = fMO_clear_20 P S_20 x20_1 x20_2 → va_P (dC, dI) zCl (MW cI cZ cA o b P S_20) H → va_D A (MW cI cZ cA o b P S_20) → va_S A s.heap H locs → lv_has ls 4 [(0, .ref (o 0)), (1, .int x20_1), (2, .int x20_2)] → W p l e ({ frames := 4, cells := 0, slots := 0, locals := 91 } : Room) s m ([.ref (o 0), .int x0, .int x1] : List Value).toArray below meth c H locs 0 0 Q (F0 m 20 ls [.ref (o 0)]) := by
    intro H locs ls S_20 x20_1 x20_2 gS_20 E hP hD hS hl
    unfold fMO_clear_20 at E
    refine lv_iconst (v := 0) hx hb dMO_clear_20 (by decide) ?_
    exact hJ21 H locs ls S_20 x20_1 x20_2 0 (show zr 0 1 0 from by decide) gS_20 (Or.inl rfl) (Or.inl rfl) E hP hD hS (lv_sub hl [0, 1, 2] rfl)
  refine lv_aload_n hx hb dMO_clear_0 rfl (lv_at hl 0 rfl) ?_
  refine lv_aload_n hx hb dMO_clear_1 rfl (lv_at hl 0 rfl) ?_
  refine lv_iload_n hx hb dMO_clear_2 rfl (lv_at hl 1 rfl) ?_
  refine zcallp (va_runV (As := [.int x0]) (rest := [.ref (o 0)]) ⟨hx, hb, hml, hown, zno⟩ (tMO_isBridge l dC dI cI cZ cJ cA a0 s0 o b P S s.heap.size x0 gP gS) (zcw 1 (hB.word (zm5 k5_49) rfl) (hB.word (zm1 k1_9) rfl) (hB.word (zm5 k5_46) rfl) (hB.word (zm5 k5_48) rfl) (k2_selects_private (by decide) (hB.word (zm4 k4_109) rfl) (hB.word (zm5 k5_47) rfl) (hB.word (zm5 k5_48) rfl)) rfl rfl (by decide +kernel) ⟨Nat.le_of_ble_eq_true rfl, Nat.le_of_ble_eq_true rfl⟩) ⟨zP_blind, va_recv hK hP (ci := 7) (q0 := 0) rfl rfl, zP_pre hP hK hD hAD (zB_on hB hA0 hS)⟩ rfl rfl hl.1 rfl (lv_room (Nat.le_of_ble_eq_true rfl)) dMO_clear_3 ⟨Nat.le_of_ble_eq_true rfl, Nat.le_of_ble_eq_true rfl⟩) hS hA (fun k17 H16 locs hk17 hz1 hk1 hS => ?_)
  have hP := zKeep hP hk1
  have E := zl_s E hk17.1
  refine z_if_eq (tgt := 20) hx hb dMO_clear_6 (by decide) E (fun c_6 E => ?_) (fun c_6 E => ?_)
  · have r_k17 : zr 0 0 k17 := zeq_x (show zr 0 0 0 from by decide) c_6
    exact hJ20 H16 locs ls S x0 x1 gS E hP hD hS (lv_sub hl [0, 1, 2] rfl)
  · have r_k17 : zr 1 1 k17 := zne_lo hk17.2 c_6 (by decide)
    have r_x0 : zr 0 47 x0 := ((zc_isBridge gP hk17.1)).resolve_left (zrne r_k17 (by decide))
    refine lv_iload_n hx hb dMO_clear_9 rfl (lv_at hl 2 rfl) ?_
    refine zcallp (va_runS (As := [.int x1]) (rest := [.ref (o 0)]) ⟨hx, hb, hml, hown, zno⟩ (tMO_isRing l dC dI cI cZ cJ cA a0 s0 o b P S H16.size x1 gP gS) ⟨zcb 1 (hB.word (zm5 k5_52) rfl) (hB.word (zm1 k1_9) rfl) (hB.word (zm5 k5_50) rfl) rfl rfl (by decide +kernel) ⟨Nat.le_of_ble_eq_true rfl, Nat.le_of_ble_eq_true rfl⟩, hB.word (zm5 k5_51) rfl⟩ ⟨zP_blind, zP_pre hP hK hD hAD (zB_on hB hA0 hS)⟩ rfl rfl hl.1 rfl (lv_room (Nat.le_of_ble_eq_true rfl)) dMO_clear_10 ⟨Nat.le_of_ble_eq_true rfl, Nat.le_of_ble_eq_true rfl⟩) hS hA (fun k19 H18 locs hk19 hz1 hk1 hS => ?_)
    have hP := zKeep hP hk1
    have E := zl_s E hk19.1
    refine z_if_eq (tgt := 20) hx hb dMO_clear_13 (by decide) E (fun c_13 E => ?_) (fun c_13 E => ?_)
    · have r_k19 : zr 0 0 k19 := zeq_x (show zr 0 0 0 from by decide) c_13
      exact hJ20 H18 locs ls S x0 x1 gS E hP hD hS (lv_sub hl [0, 1, 2] rfl)
    · have r_k19 : zr 1 1 k19 := zne_lo hk19.2 c_13 (by decide)
      have r_x1 : zr 0 5 x1 := ((zc_isRing gP hk19.1)).resolve_left (zrne r_k19 (by decide))
      refine lv_iconst (v := 1) hx hb dMO_clear_16 (by decide) ?_
      refine lv_goto (tgt := 21) hx hb dMO_clear_17 (by decide) ?_
      exact hJ21 H18 locs ls S x0 x1 1 (show zr 0 1 1 from by decide) gS (Or.inr r_x0) (Or.inr r_x1) E hP hD hS (lv_sub hl [0, 1, 2] rfl)
noncomputable def fMO_host_65 (P : ZS) (rc53 : ZS → Int32 → Int32 → Int32 → (ZS × Int32)) (rc65 : ZS → Int32 → Int32 → Int32 → Int32 → (ZS × Int32)) (S_65 : ZS) (x65_1 : Int32) (x65_3 : Int32) (x65_4 : Int32) (x65_5 : Int32) : ZS × Int32 := (if 4 ≤ x65_5 then zl (x65_4 + 1) (fun k1 => rc53 S_65 x65_1 x65_3 k1) else zl (256 * x65_4) (fun k2 => zl (64 * x65_5) (fun k3 => zl (k2 + k3) (fun k4 => zl (k4 + x65_1) (fun k5 => zl (S_65.setF 20 (k5 : Int32).toNatClampNeg (-1)) (fun S6 => zl (x65_5 + 1) (fun k8 => rc65 S6 x65_1 x65_3 x65_4 k8)))))))
noncomputable def fMO_host_53 (P : ZS) (rc53 : ZS → Int32 → Int32 → Int32 → (ZS × Int32)) (S_53 : ZS) (x53_1 : Int32) (x53_3 : Int32) (x53_4 : Int32) : ZS × Int32 := zl (P.I 1) (fun k9 => (if k9 ≤ x53_4 then (S_53, x53_3) else zfix (fun S9 _ _ _ _ => (S9, 0)) (fMO_host_65 P rc53) 5 S_53 x53_1 x53_3 x53_4 0))
noncomputable def fMO_host_24 (P : ZS) (S_24 : ZS) (x24_1 : Int32) (x24_2 : Int32) (y24_0 : Int32) : ZS × Int32 := zl (P.I 0) (fun k10 => zl2 (fMO_goes P S_24 y24_0 k10) (fun S13 k12 => (if k12 = 0 then (S13, 0) else zl (S13.F 22 (x24_1 : Int32).toNatClampNeg) (fun k15 => zl (S13.setF 22 (x24_1 : Int32).toNatClampNeg x24_2) (fun S16 => zfix (fun S9 _ _ _ => (S9, 0)) (fMO_host_53 P) 49 S16 x24_1 k15 0)))))
noncomputable def fMO_host_23 (P : ZS) (S_23 : ZS) (x23_1 : Int32) (x23_2 : Int32) : ZS × Int32 := fMO_host_24 P S_23 x23_1 x23_2 0
noncomputable def fMO_host (P S : ZS) (x0 : Int32) (x1 : Int32) : ZS × Int32 := (if x0 < 0 then fMO_host_23 P S x0 x1 else (if 64 ≤ x0 then fMO_host_23 P S x0 x1 else zl (fMO_isBridge P S x1) (fun k19 => (if k19 = 0 then fMO_host_23 P S x0 x1 else fMO_host_24 P S x0 x1 1))))
set_option maxHeartbeats 4000000 in
set_option maxRecDepth 100000 in
theorem tMO_host (l : Launch) (dC : Nat → ClassId) (dI : Nat → Nat → Nat) (cI cZ cJ cA : ClassId) (a0 : Array Value) (s0 : State) (o b : Nat → Nat) (P S : ZS) (sz : Nat) (x0 : Int32) (x1 : Int32) (gP : mok P) (gS : mok S) : Met l yMO_host [Cond.code yMO_host bMO_host 6 (some .int)] ({ frames := 1, cells := 0, slots := 0, locals := 22 } : Room) (zP zCl dC dI (zTZ cI cZ cJ cA) a0 s0 [.ref (o 0), .int x0, .int x1] sz (MW cI cZ cA o b P S)) (zQH zCl dC dI (fun (r : Int32) (x9 : ZS) => (x9, r) = fMO_host P S x0 x1 ∧ mok x9 ∧ zr (-1) 47 r) (fun x9 : ZS => (MW cI cZ cA o b P x9)) (va_A (MW cI cZ cA o b P S) sz)) 0 0 (va_A (MW cI cZ cA o b P S) sz) := by
  refine Met.ofW (cc := bMO_host) (maxL := 6) (ret := (some .int)) (by decide) rfl ?_
  intro p e s m args below meth c s₁ B hml hv
  obtain ⟨rfl, hsz, hP, hK, hD0, hB⟩ := hv
  have hx := B.exec
  have hb := B.bytes
  have hr := B.returns
  have hown : s.vm.findClass "RingGuardModel" = some m.cls := findClass_of_methodNamed B.named
  have hlocks := B.notSynchronized
  subst hsz
  have hD := hD0.self (sz := s.heap.size)
  have hA0 := zA0 hD0 hB
  generalize hAe : va_A (MW cI cZ cA o b P S) s.heap.size = A at hD hA0 ⊢
  have hAD := hA0
  have hA : ∀ q : Nat, s.heap.size ≤ q → A q := fun q h => by rw [← hAe]; exact Or.inr h
  have hS : va_S A s.heap s.heap [] := va_S.rf
  have hl := lv_entry ([.ref (o 0), .int x0, .int x1]) (n := 6) (Nat.le_of_ble_eq_true rfl)
  rw [lg_entry_eq]
  generalize (lg_sl ([.ref (o 0), .int x0, .int x1]) ++ List.replicate (6 - (lg_sl ([.ref (o 0), .int x0, .int x1])).length) Slot.unset).toArray = ls at hl ⊢
  have hl : lv_has ls 6 [(0, .ref (o 0)), (1, .int x0), (2, .int x1)] := hl
  refine zgenQ (fun Q hQe => ?_)
  obtain ⟨tg, etg⟩ : ∃ z, z = fMO_host P S x0 x1 := ⟨_, rfl⟩
  have E := etg
  unfold fMO_host at E
  have hJ24 : ∀ (H : Heap) (locs : List Loc) (ls : Array Slot) (S_24 : ZS) (x24_1 : Int32) (x24_2 : Int32) (y24_0 : Int32), zr 0 1 y24_0 → mok S_24 → (y24_0 = 0 ∨ zr 0 63 (x24_1)) → (y24_0 = 0 ∨ zr 0 47 (x24_2)) → tg = fMO_host_24 P S_24 x24_1 x24_2 y24_0 → va_P (dC, dI) zCl (MW cI cZ cA o b P S_24) H → va_D A (MW cI cZ cA o b P S_24) → va_S A s.heap H locs → lv_has ls 6 [(0, .ref (o 0)), (1, .int x24_1), (2, .int x24_2)] → W p l e ({ frames := 1, cells := 0, slots := 0, locals := 22 } : Room) s m ([.ref (o 0), .int x0, .int x1] : List Value).toArray below meth c H locs 0 0 Q (F0 m 24 ls [.int y24_0, .ref (o 0)]) := by
    intro H locs ls S_24 x24_1 x24_2 y24_0 r_y24_0 gS_24 cd24_0 cd24_1 E hP hD hS hl
    unfold fMO_host_24 at E
    have hL53 : ∀ (n53 : Nat) (H : Heap) (locs : List Loc) (ls : Array Slot) (S_53 : ZS) (x53_1 : Int32) (x53_3 : Int32) (x53_4 : Int32), zr 0 63 x53_1 → zr (-1) 47 x53_3 → zr 0 48 x53_4 → mok S_53 → 48 + 1 - x53_4.toInt ≤ (n53 : Int) → tg = zfix (fun S9 _ _ _ => (S9, 0)) (fMO_host_53 P) n53 S_53 x53_1 x53_3 x53_4 → va_P (dC, dI) zCl (MW cI cZ cA o b P S_53) H → va_D A (MW cI cZ cA o b P S_53) → va_S A s.heap H locs → lv_has ls 6 [(0, .ref (o 0)), (1, .int x53_1), (3, .int x53_3), (4, .int x53_4)] → W p l e ({ frames := 1, cells := 0, slots := 0, locals := 22 } : Room) s m ([.ref (o 0), .int x0, .int x1] : List Value).toArray below meth c H locs 0 0 Q (F0 m 53 ls []) := by
      intro n53
      induction n53 with
      | zero => intro H locs ls S_53 x53_1 x53_3 x53_4 r_x53_1 r_x53_3 r_x53_4 gS_53 hm53 E hP hD hS hl; exact absurd hm53 (zfuel0U r_x53_4)
      | succ n53 ih53 =>
        intro H locs ls S_53 x53_1 x53_3 x53_4 r_x53_1 r_x53_3 r_x53_4 gS_53 hm53 E hP hD hS hl
        rw [zfix_s] at E
        generalize zfix (fun S9 _ _ _ => (S9, 0)) (fMO_host_53 P) n53 = rc53 at ih53 E
        unfold fMO_host_53 at E
        have hL65 : ∀ (n65 : Nat) (H : Heap) (locs : List Loc) (ls : Array Slot) (S_65 : ZS) (x65_1 : Int32) (x65_3 : Int32) (x65_4 : Int32) (x65_5 : Int32), zr 0 63 x65_1 → zr (-1) 47 x65_3 → zr 0 47 x65_4 → zr 0 4 x65_5 → mok S_65 → 48 + 1 - x65_4.toInt ≤ ((n53 + 1 : Nat) : Int) → 4 + 1 - x65_5.toInt ≤ (n65 : Int) → tg = zfix (fun S9 _ _ _ _ => (S9, 0)) (fMO_host_65 P rc53) n65 S_65 x65_1 x65_3 x65_4 x65_5 → va_P (dC, dI) zCl (MW cI cZ cA o b P S_65) H → va_D A (MW cI cZ cA o b P S_65) → va_S A s.heap H locs → lv_has ls 6 [(0, .ref (o 0)), (1, .int x65_1), (3, .int x65_3), (4, .int x65_4), (5, .int x65_5)] → W p l e ({ frames := 1, cells := 0, slots := 0, locals := 22 } : Room) s m ([.ref (o 0), .int x0, .int x1] : List Value).toArray below meth c H locs 0 0 Q (F0 m 65 ls []) := by
          intro n65
          induction n65 with
          | zero => intro H locs ls S_65 x65_1 x65_3 x65_4 x65_5 r_x65_1 r_x65_3 r_x65_4 r_x65_5 gS_65 hm53_65 hm65 E hP hD hS hl; exact absurd hm65 (zfuel0U r_x65_5)
          | succ n65 ih65 =>
            intro H locs ls S_65 x65_1 x65_3 x65_4 x65_5 r_x65_1 r_x65_3 r_x65_4 r_x65_5 gS_65 hm53_65 hm65 E hP hD hS hl
            rw [zfix_s] at E
            generalize zfix (fun S9 _ _ _ _ => (S9, 0)) (fMO_host_65 P rc53) n65 = rc65 at ih65 E
            unfold fMO_host_65 at E
            refine lv_iload hx hb dMO_host_65 (lv_at hl 4 rfl) ?_
            refine lv_iconst (v := 4) hx hb dMO_host_67 (by decide) ?_
            refine z_icmp_ge (tgt := 97) hx hb dMO_host_68 (by decide) E (fun c_68 E => ?_) (fun c_68 E => ?_)
            · have r_x65_5 : zr 4 4 x65_5 := zle_y (show zr 4 4 4 from by decide) r_x65_5 c_68 (by decide)
              refine z_iinc (lv' := fun v9 => [(4, .int v9), (0, .ref (o 0)), (1, .int x65_1), (3, .int x65_3), (5, .int x65_5)]) (cst := 1) hx hb dMO_host_97 hl (k := 3) rfl (by decide) (by decide) (fun _ => rfl) E (fun k1 ls ek1 E hl => ?_)
              have r_k1 : zr 1 48 k1 := zr_add r_x65_4 (show zr 1 1 1 from by decide) ek1 (by decide)
              refine lv_goto (tgt := 53) hx hb dMO_host_100 (by decide) ?_
              exact ih53 H locs ls S_65 x65_1 x65_3 k1 r_x65_1 r_x65_3 (zr_mono r_k1 (by decide)) gS_65 (zstepU ek1 r_x65_4 (by decide) hm53_65) E hP hD hS (lv_sub hl [1, 2, 3, 0] rfl)
            · have r_x65_5 : zr 0 3 x65_5 := zlt_x r_x65_5 (show zr 4 4 4 from by decide) (znle c_68) (by decide)
              refine lv_aload_n hx hb dMO_host_71 rfl (lv_at hl 0 rfl) ?_
              refine m_getA_20 hx hb (hB.words zU_MO) hown hK hP (hB.word (zm4 k4_138) rfl) dMO_host_72 ?_
              refine lv_sipush (v := 256) hx hb dMO_host_75 (by decide) ?_
              refine lv_iload hx hb dMO_host_78 (lv_at hl 3 rfl) ?_
              refine z_imul hx hb dMO_host_80 E (fun k2 ek2 E => ?_)
              have r_k2 : zr 0 12032 k2 := zr_mul (show zr 256 256 256 from by decide) r_x65_4 ek2 (by decide)
              refine lv_bipush (v := 64) hx hb dMO_host_81 (by decide) ?_
              refine lv_iload hx hb dMO_host_83 (lv_at hl 4 rfl) ?_
              refine z_imul hx hb dMO_host_85 E (fun k3 ek3 E => ?_)
              have r_k3 : zr 0 192 k3 := zr_mul (show zr 64 64 64 from by decide) r_x65_5 ek3 (by decide)
              refine z_iadd hx hb dMO_host_86 E (fun k4 ek4 E => ?_)
              have r_k4 : zr 0 12224 k4 := zr_add r_k2 r_k3 ek4 (by decide)
              refine lv_iload_n hx hb dMO_host_87 rfl (lv_at hl 1 rfl) ?_
              refine z_iadd hx hb dMO_host_88 E (fun k5 ek5 E => ?_)
              have r_k5 : zr 0 12287 k5 := zr_add r_k4 r_x65_1 ek5 (by decide)
              refine lv_iconst (v := (-1)) hx hb dMO_host_89 (by decide) ?_
              refine m_astS hx hb hK hP hD hS 20 (by decide) rfl r_k5 (by decide) dMO_host_90 E (fun S6 H7 locs eS6 E hP hD hS => ?_)
              have gS6 : mok S6 := by rw [eS6]; exact gS_65.setF (k := 20) (show zr (-2147483648) 2147483647 (-1) from by decide) (Or.inl (by decide))
              refine z_iinc (lv' := fun v9 => [(5, .int v9), (0, .ref (o 0)), (1, .int x65_1), (3, .int x65_3), (4, .int x65_4)]) (cst := 1) hx hb dMO_host_91 hl (k := 4) rfl (by decide) (by decide) (fun _ => rfl) E (fun k8 ls ek8 E hl => ?_)
              have r_k8 : zr 1 4 k8 := zr_add r_x65_5 (show zr 1 1 1 from by decide) ek8 (by decide)
              refine lv_goto (tgt := 65) hx hb dMO_host_94 (by decide) ?_
              exact ih65 H7 locs ls S6 x65_1 x65_3 x65_4 k8 r_x65_1 r_x65_3 r_x65_4 (zr_mono r_k8 (by decide)) gS6 hm53_65 (zstepU ek8 r_x65_5 (by decide) hm65) E hP hD hS (lv_sub hl [1, 2, 3, 4, 0] rfl)
        refine lv_iload hx hb dMO_host_53 (lv_at hl 3 rfl) ?_
        refine lv_aload_n hx hb dMO_host_55 rfl (lv_at hl 0 rfl) ?_
        refine m_get_1 hx hb (hB.words zU_MO) hown hK hP (hB.word (zm4 k4_116) rfl) dMO_host_56 E (fun k9 ek9 E => ?_)
        have r_k9 : zr 0 48 k9 := by rw [ek9]; exact gP.2.1 1
        refine z_icmp_ge (tgt := 103) hx hb dMO_host_59 (by decide) E (fun c_59 E => ?_) (fun c_59 E => ?_)
        · refine lv_iload_n hx hb dMO_host_103 rfl (lv_at hl 2 rfl) ?_
          rw [hQe]
          exact W.iret (v := x53_3) hx hb hr (fun t ht hW => ⟨⟨x53_3, S_53, rfl, ⟨E.symm.trans etg, gS_53, r_x53_3⟩, by rw [ht]; exact hP, hD⟩, hS.F ht⟩) hS.2.2 dMO_host_104
        · have r_x53_4 : zr 0 47 x53_4 := zlt_x r_x53_4 r_k9 (znle c_59) (by decide)
          have r_k9 : zr 1 48 k9 := zlt_y r_x53_4 r_k9 (znle c_59) (by decide)
          refine lv_iconst (v := 0) hx hb dMO_host_62 (by decide) ?_
          refine lv_istore (lv' := [(5, .int 0), (0, .ref (o 0)), (1, .int x53_1), (3, .int x53_3), (4, .int x53_4)]) hx hb dMO_host_63 hl (by decide) rfl (fun ls hl => ?_)
          exact hL65 5 H locs ls S_53 x53_1 x53_3 x53_4 0 r_x53_1 r_x53_3 r_x53_4 (show zr 0 4 0 from by decide) gS_53 hm53 (by have h9 := (show zr 0 0 0 from by decide); exact zfuelU h9 (by decide)) E hP hD hS (lv_sub hl [1, 2, 3, 4, 0] rfl)
    refine lv_aload_n hx hb dMO_host_24 rfl (lv_at hl 0 rfl) ?_
    refine m_get_0 hx hb (hB.words zU_MO) hown hK hP (hB.word (zm4 k4_115) rfl) dMO_host_25 E (fun k10 ek10 E => ?_)
    have r_k10 : zr 0 1 k10 := by rw [ek10]; exact gP.2.1 0
    refine zcI (va_runV (As := [.int y24_0, .int k10]) (rest := []) ⟨hx, hb, hml, hown, zno⟩ (tMO_goes l dC dI cI cZ cJ cA a0 s0 o b P S_24 H.size y24_0 k10 gP gS_24 r_y24_0 r_k10) (zcw 2 (hB.word (zm5 k5_56) rfl) (hB.word (zm1 k1_9) rfl) (hB.word (zm5 k5_53) rfl) (hB.word (zm5 k5_55) rfl) (k2_selects_private (by decide) (hB.word (zm4 k4_109) rfl) (hB.word (zm5 k5_54) rfl) (hB.word (zm5 k5_55) rfl)) rfl rfl (by decide +kernel) ⟨Nat.le_of_ble_eq_true rfl, Nat.le_of_ble_eq_true rfl⟩) ⟨zP_blind, va_recv hK hP (ci := 7) (q0 := 0) rfl rfl, zP_pre hP hK hD hAD (zB_on hB hA0 hS)⟩ rfl rfl hl.1 rfl (lv_room (Nat.le_of_ble_eq_true rfl)) dMO_host_28 ⟨Nat.le_of_ble_eq_true rfl, Nat.le_of_ble_eq_true rfl⟩) hD hS hA (fun k12 S13 H11 locs h14 hP hD hS => ?_)
    have E := zl2_s E h14.1
    have gS13 := h14.2.1
    obtain ⟨v_S13, eS13⟩ := zgoes_S h14.1
    refine z_if_ne (tgt := 36) hx hb dMO_host_31 (by decide) E (fun c_31 E => ?_) (fun c_31 E => ?_)
    · have r_k12 : zr 1 1 k12 := zne_lo h14.2.2 c_31 (by decide)
      have r_x24_1 : zr 0 63 x24_1 := ((zor (zgoes_0 h14.1) cd24_0)).resolve_left (zrne r_k12 (by decide))
      have r_x24_2 : zr 0 47 x24_2 := ((zor (zgoes_0 h14.1) cd24_1)).resolve_left (zrne r_k12 (by decide))
      refine lv_aload_n hx hb dMO_host_36 rfl (lv_at hl 0 rfl) ?_
      refine m_getA_22 hx hb (hB.words zU_MO) hown hK hP (hB.word (zm4 k4_140) rfl) dMO_host_37 ?_
      refine lv_iload_n hx hb dMO_host_40 rfl (lv_at hl 1 rfl) ?_
      refine m_aldS hx hb hK hP 22 (by decide) rfl r_x24_1 (by decide) dMO_host_41 E (fun k15 ek15 E => ?_)
      have r_k15 : zr (-1) 47 k15 := by rw [ek15]; exact gS13.1 22 _
      refine lv_istore_n (lv' := [(3, .int k15), (0, .ref (o 0)), (1, .int x24_1), (2, .int x24_2)]) hx hb dMO_host_42 rfl hl (by decide) rfl (fun ls hl => ?_)
      refine lv_aload_n hx hb dMO_host_43 rfl (lv_at hl 1 rfl) ?_
      refine m_getA_22 hx hb (hB.words zU_MO) hown hK hP (hB.word (zm4 k4_140) rfl) dMO_host_44 ?_
      refine lv_iload_n hx hb dMO_host_47 rfl (lv_at hl 2 rfl) ?_
      refine lv_iload_n hx hb dMO_host_48 rfl (lv_at hl 3 rfl) ?_
      refine m_astS hx hb hK hP hD hS 22 (by decide) rfl r_x24_1 (by decide) dMO_host_49 E (fun S16 H17 locs eS16 E hP hD hS => ?_)
      have gS16 : mok S16 := by rw [eS16]; exact gS13.setF (k := 22) (zr_mono r_x24_2 (by decide)) (Or.inl (by decide))
      refine lv_iconst (v := 0) hx hb dMO_host_50 (by decide) ?_
      refine lv_istore (lv' := [(4, .int 0), (3, .int k15), (0, .ref (o 0)), (1, .int x24_1), (2, .int x24_2)]) hx hb dMO_host_51 hl (by decide) rfl (fun ls hl => ?_)
      exact hL53 49 H17 locs ls S16 x24_1 k15 0 r_x24_1 r_k15 (show zr 0 48 0 from by decide) gS16 (by have h9 := (show zr 0 0 0 from by decide); exact zfuelU h9 (by decide)) E hP hD hS (lv_sub hl [2, 3, 1, 0] rfl)
    · have r_k12 : zr 0 0 k12 := zeq_x (show zr 0 0 0 from by decide) c_31
      refine lv_iconst (v := 0) hx hb dMO_host_34 (by decide) ?_
      rw [hQe]
      exact W.iret (v := 0) hx hb hr (fun t ht hW => ⟨⟨0, S13, rfl, ⟨E.symm.trans etg, gS13, (show zr (-1) 47 0 from by decide)⟩, by rw [ht]; exact hP, hD⟩, hS.F ht⟩) hS.2.2 dMO_host_35
  have hJ23 : ∀ (H : Heap) (locs : List Loc) (ls : Array Slot) (S_23 : ZS) (x23_1 : Int32) (x23_2 : Int32), mok S_23 → tg = fMO_host_23 P S_23 x23_1 x23_2 → va_P (dC, dI) zCl (MW cI cZ cA o b P S_23) H → va_D A (MW cI cZ cA o b P S_23) → va_S A s.heap H locs → lv_has ls 6 [(0, .ref (o 0)), (1, .int x23_1), (2, .int x23_2)] → W p l e ({ frames := 1, cells := 0, slots := 0, locals := 22 } : Room) s m ([.ref (o 0), .int x0, .int x1] : List Value).toArray below meth c H locs 0 0 Q (F0 m 23 ls [.ref (o 0)]) := by
    intro H locs ls S_23 x23_1 x23_2 gS_23 E hP hD hS hl
    unfold fMO_host_23 at E
    refine lv_iconst (v := 0) hx hb dMO_host_23 (by decide) ?_
    exact hJ24 H locs ls S_23 x23_1 x23_2 0 (show zr 0 1 0 from by decide) gS_23 (Or.inl rfl) (Or.inl rfl) E hP hD hS (lv_sub hl [0, 1, 2] rfl)
  refine lv_aload_n hx hb dMO_host_0 rfl (lv_at hl 0 rfl) ?_
  refine lv_iload_n hx hb dMO_host_1 rfl (lv_at hl 1 rfl) ?_
  refine z_if_lt (tgt := 23) hx hb dMO_host_2 (by decide) E (fun c_2 E => ?_) (fun c_2 E => ?_)
  · have r_x0 : zr (-2147483648) (-1) x0 := zlt_x (zr_any x0) (show zr 0 0 0 from by decide) c_2 (by decide)
    exact hJ23 s.heap [] ls S x0 x1 gS E hP hD hS (lv_sub hl [0, 1, 2] rfl)
  · have r_x0 : zr 0 2147483647 x0 := zle_y (show zr 0 0 0 from by decide) (zr_any x0) (znlt c_2) (by decide)
    refine lv_iload_n hx hb dMO_host_5 rfl (lv_at hl 1 rfl) ?_
    refine lv_bipush (v := 64) hx hb dMO_host_6 (by decide) ?_
    refine z_icmp_ge (tgt := 23) hx hb dMO_host_8 (by decide) E (fun c_8 E => ?_) (fun c_8 E => ?_)
    · have r_x0 : zr 64 2147483647 x0 := zle_y (show zr 64 64 64 from by decide) r_x0 c_8 (by decide)
      exact hJ23 s.heap [] ls S x0 x1 gS E hP hD hS (lv_sub hl [0, 1, 2] rfl)
    · have r_x0 : zr 0 63 x0 := zlt_x r_x0 (show zr 64 64 64 from by decide) (znle c_8) (by decide)
      refine lv_aload_n hx hb dMO_host_11 rfl (lv_at hl 0 rfl) ?_
      refine lv_iload_n hx hb dMO_host_12 rfl (lv_at hl 2 rfl) ?_
      refine zcallp (va_runV (As := [.int x1]) (rest := [.ref (o 0)]) ⟨hx, hb, hml, hown, zno⟩ (tMO_isBridge l dC dI cI cZ cJ cA a0 s0 o b P S s.heap.size x1 gP gS) (zcw 1 (hB.word (zm5 k5_49) rfl) (hB.word (zm1 k1_9) rfl) (hB.word (zm5 k5_46) rfl) (hB.word (zm5 k5_48) rfl) (k2_selects_private (by decide) (hB.word (zm4 k4_109) rfl) (hB.word (zm5 k5_47) rfl) (hB.word (zm5 k5_48) rfl)) rfl rfl (by decide +kernel) ⟨Nat.le_of_ble_eq_true rfl, Nat.le_of_ble_eq_true rfl⟩) ⟨zP_blind, va_recv hK hP (ci := 7) (q0 := 0) rfl rfl, zP_pre hP hK hD hAD (zB_on hB hA0 hS)⟩ rfl rfl hl.1 rfl (lv_room (Nat.le_of_ble_eq_true rfl)) dMO_host_13 ⟨Nat.le_of_ble_eq_true rfl, Nat.le_of_ble_eq_true rfl⟩) hS hA (fun k19 H18 locs hk19 hz1 hk1 hS => ?_)
      have hP := zKeep hP hk1
      have E := zl_s E hk19.1
      refine z_if_eq (tgt := 23) hx hb dMO_host_16 (by decide) E (fun c_16 E => ?_) (fun c_16 E => ?_)
      · have r_k19 : zr 0 0 k19 := zeq_x (show zr 0 0 0 from by decide) c_16
        exact hJ23 H18 locs ls S x0 x1 gS E hP hD hS (lv_sub hl [0, 1, 2] rfl)
      · have r_k19 : zr 1 1 k19 := zne_lo hk19.2 c_16 (by decide)
        have r_x1 : zr 0 47 x1 := ((zc_isBridge gP hk19.1)).resolve_left (zrne r_k19 (by decide))
        refine lv_iconst (v := 1) hx hb dMO_host_19 (by decide) ?_
        refine lv_goto (tgt := 24) hx hb dMO_host_20 (by decide) ?_
        exact hJ24 H18 locs ls S x0 x1 1 (show zr 0 1 1 from by decide) gS (Or.inr r_x0) (Or.inr r_x1) E hP hD hS (lv_sub hl [0, 1, 2] rfl)
noncomputable def fMO_visits (P S : ZS) : ZS × Int32 := zl (S.setI 3 0) (fun S1 => zl (S1.I 6) (fun k3 => (S1, k3)))
set_option maxHeartbeats 4000000 in
set_option maxRecDepth 100000 in
theorem tMO_visits (l : Launch) (dC : Nat → ClassId) (dI : Nat → Nat → Nat) (cI cZ cJ cA : ClassId) (a0 : Array Value) (s0 : State) (o b : Nat → Nat) (P S : ZS) (sz : Nat) (gP : mok P) (gS : mok S) : Met l yMO_visits [Cond.code yMO_visits bMO_visits 1 (some .int)] ({ frames := 0, cells := 0, slots := 0, locals := 0 } : Room) (zP zCl dC dI (zTZ cI cZ cJ cA) a0 s0 [.ref (o 0)] sz (MW cI cZ cA o b P S)) (zQH zCl dC dI (fun (r : Int32) (x9 : ZS) => (x9, r) = fMO_visits P S  ∧ mok x9 ∧ True) (fun x9 : ZS => (MW cI cZ cA o b P x9)) (va_A (MW cI cZ cA o b P S) sz)) 0 0 (va_A (MW cI cZ cA o b P S) sz) := by
  refine Met.ofW (cc := bMO_visits) (maxL := 1) (ret := (some .int)) (by decide) rfl ?_
  intro p e s m args below meth c s₁ B hml hv
  obtain ⟨rfl, hsz, hP, hK, hD0, hB⟩ := hv
  have hx := B.exec
  have hb := B.bytes
  have hr := B.returns
  have hown : s.vm.findClass "RingGuardModel" = some m.cls := findClass_of_methodNamed B.named
  have hlocks := B.notSynchronized
  subst hsz
  have hD := hD0.self (sz := s.heap.size)
  have hA0 := zA0 hD0 hB
  generalize hAe : va_A (MW cI cZ cA o b P S) s.heap.size = A at hD hA0 ⊢
  have hAD := hA0
  have hA : ∀ q : Nat, s.heap.size ≤ q → A q := fun q h => by rw [← hAe]; exact Or.inr h
  have hS : va_S A s.heap s.heap [] := va_S.rf
  have hl := lv_entry ([.ref (o 0)]) (n := 1) (Nat.le_of_ble_eq_true rfl)
  rw [lg_entry_eq]
  generalize (lg_sl ([.ref (o 0)]) ++ List.replicate (1 - (lg_sl ([.ref (o 0)])).length) Slot.unset).toArray = ls at hl ⊢
  have hl : lv_has ls 1 [(0, .ref (o 0))] := hl
  refine zgenQ (fun Q hQe => ?_)
  obtain ⟨tg, etg⟩ : ∃ z, z = fMO_visits P S  := ⟨_, rfl⟩
  have E := etg
  unfold fMO_visits at E
  refine lv_aload_n hx hb dMO_visits_0 rfl (lv_at hl 0 rfl) ?_
  refine lv_iconst (v := 0) hx hb dMO_visits_1 (by decide) ?_
  refine m_put_3 hx hb (hB.words zU_MO) hown hK hP hD hS (hB.word (zm4 k4_114) rfl) dMO_visits_2 E (fun S1 H2 locs eS1 E hP hD hS => ?_)
  have gS1 : mok S1 := by rw [eS1]; exact gS.setI (t := 3) (show zr 0 2 0 from by decide)
  refine lv_aload_n hx hb dMO_visits_5 rfl (lv_at hl 0 rfl) ?_
  refine m_get_6 hx hb (hB.words zU_MO) hown hK hP (hB.word (zm4 k4_153) rfl) dMO_visits_6 E (fun k3 ek3 E => ?_)
  rw [hQe]
  exact W.iret (v := k3) hx hb hr (fun t ht hW => ⟨⟨k3, S1, rfl, ⟨E.symm.trans etg, gS1, trivial⟩, by rw [ht]; exact hP, hD⟩, hS.F ht⟩) hS.2.2 dMO_visits_9
noncomputable def fMO_holds_31 (P : ZS) (S_31 : ZS) (x31_1 : Int32) (x31_2 : Int32) (y31_0 : Int32) : ZS × Int32 := zl (S_31.setI 3 y31_0) (fun S1 => zl (S1.I 3) (fun k3 => (if y31_0 ≤ 0 then zl (fMO_end P S1 x31_1 x31_2) (fun k5 => zl (S1.F 10 (k5 : Int32).toNatClampNeg) (fun k6 => (S1, k6))) else (S1, 0))))
noncomputable def fMO_holds_30 (P : ZS) (S_30 : ZS) (x30_1 : Int32) (x30_2 : Int32) : ZS × Int32 := fMO_holds_31 P S_30 x30_1 x30_2 1
noncomputable def fMO_holds (P S : ZS) (x0 : Int32) (x1 : Int32) : ZS × Int32 := zl (fMO_isBridge P S x0) (fun k8 => (if k8 = 0 then fMO_holds_30 P S x0 x1 else zl (fMO_isLink P S x1) (fun k10 => (if k10 = 0 then fMO_holds_30 P S x0 x1 else zl (fMO_isEnd P S x0 x1) (fun k12 => (if k12 = 0 then fMO_holds_30 P S x0 x1 else fMO_holds_31 P S x0 x1 0))))))
set_option maxHeartbeats 4000000 in
set_option maxRecDepth 100000 in
theorem tMO_holds (l : Launch) (dC : Nat → ClassId) (dI : Nat → Nat → Nat) (cI cZ cJ cA : ClassId) (a0 : Array Value) (s0 : State) (o b : Nat → Nat) (P S : ZS) (sz : Nat) (x0 : Int32) (x1 : Int32) (gP : mok P) (gS : mok S) : Met l yMO_holds [Cond.code yMO_holds bMO_holds 3 (some .int)] ({ frames := 1, cells := 0, slots := 0, locals := 22 } : Room) (zP zCl dC dI (zTZ cI cZ cJ cA) a0 s0 [.ref (o 0), .int x0, .int x1] sz (MW cI cZ cA o b P S)) (zQH zCl dC dI (fun (r : Int32) (x9 : ZS) => (x9, r) = fMO_holds P S x0 x1 ∧ mok x9 ∧ True) (fun x9 : ZS => (MW cI cZ cA o b P x9)) (va_A (MW cI cZ cA o b P S) sz)) 0 0 (va_A (MW cI cZ cA o b P S) sz) := by
  refine Met.ofW (cc := bMO_holds) (maxL := 3) (ret := (some .int)) (by decide) rfl ?_
  intro p e s m args below meth c s₁ B hml hv
  obtain ⟨rfl, hsz, hP, hK, hD0, hB⟩ := hv
  have hx := B.exec
  have hb := B.bytes
  have hr := B.returns
  have hown : s.vm.findClass "RingGuardModel" = some m.cls := findClass_of_methodNamed B.named
  have hlocks := B.notSynchronized
  subst hsz
  have hD := hD0.self (sz := s.heap.size)
  have hA0 := zA0 hD0 hB
  generalize hAe : va_A (MW cI cZ cA o b P S) s.heap.size = A at hD hA0 ⊢
  have hAD := hA0
  have hA : ∀ q : Nat, s.heap.size ≤ q → A q := fun q h => by rw [← hAe]; exact Or.inr h
  have hS : va_S A s.heap s.heap [] := va_S.rf
  have hl := lv_entry ([.ref (o 0), .int x0, .int x1]) (n := 3) (Nat.le_of_ble_eq_true rfl)
  rw [lg_entry_eq]
  generalize (lg_sl ([.ref (o 0), .int x0, .int x1]) ++ List.replicate (3 - (lg_sl ([.ref (o 0), .int x0, .int x1])).length) Slot.unset).toArray = ls at hl ⊢
  have hl : lv_has ls 3 [(0, .ref (o 0)), (1, .int x0), (2, .int x1)] := hl
  refine zgenQ (fun Q hQe => ?_)
  obtain ⟨tg, etg⟩ : ∃ z, z = fMO_holds P S x0 x1 := ⟨_, rfl⟩
  have E := etg
  unfold fMO_holds at E
  have hJ31 : ∀ (H : Heap) (locs : List Loc) (ls : Array Slot) (S_31 : ZS) (x31_1 : Int32) (x31_2 : Int32) (y31_0 : Int32), zr 0 1 y31_0 → mok S_31 → (y31_0 = 1 ∨ zr 0 47 (x31_1)) → (y31_0 = 1 ∨ zr 0 59 (x31_2)) → tg = fMO_holds_31 P S_31 x31_1 x31_2 y31_0 → va_P (dC, dI) zCl (MW cI cZ cA o b P S_31) H → va_D A (MW cI cZ cA o b P S_31) → va_S A s.heap H locs → lv_has ls 3 [(0, .ref (o 0)), (1, .int x31_1), (2, .int x31_2)] → W p l e ({ frames := 1, cells := 0, slots := 0, locals := 22 } : Room) s m ([.ref (o 0), .int x0, .int x1] : List Value).toArray below meth c H locs 0 0 Q (F0 m 31 ls [.int y31_0, .ref (o 0)]) := by
    intro H locs ls S_31 x31_1 x31_2 y31_0 r_y31_0 gS_31 cd31_0 cd31_1 E hP hD hS hl
    unfold fMO_holds_31 at E
    refine m_put_3 hx hb (hB.words zU_MO) hown hK hP hD hS (hB.word (zm4 k4_114) rfl) dMO_holds_31 E (fun S1 H2 locs eS1 E hP hD hS => ?_)
    have gS1 : mok S1 := by rw [eS1]; exact gS_31.setI (t := 3) (zr_mono r_y31_0 (by decide))
    refine lv_aload_n hx hb dMO_holds_34 rfl (lv_at hl 0 rfl) ?_
    refine m_get_3 hx hb (hB.words zU_MO) hown hK hP (hB.word (zm4 k4_114) rfl) dMO_holds_35 E (fun k3 ek3 E => ?_)
    have x9 : y31_0 = k3 := by rw [ek3, eS1]; rfl
    subst x9
    refine z_if_le (tgt := 45) hx hb dMO_holds_38 (by decide) E (fun c_38 E => ?_) (fun c_38 E => ?_)
    · have r_y31_0 : zr 0 0 y31_0 := zle_x r_y31_0 (show zr 0 0 0 from by decide) c_38 (by decide)
      have r_x31_1 : zr 0 47 x31_1 := (cd31_0).resolve_left (zrne r_y31_0 (by decide))
      have r_x31_2 : zr 0 59 x31_2 := (cd31_1).resolve_left (zrne r_y31_0 (by decide))
      refine lv_aload_n hx hb dMO_holds_45 rfl (lv_at hl 0 rfl) ?_
      refine m_getA_10 hx hb (hB.words zU_MO) hown hK hP (hB.word (zm4 k4_124) rfl) dMO_holds_46 ?_
      refine lv_aload_n hx hb dMO_holds_49 rfl (lv_at hl 0 rfl) ?_
      refine lv_iload_n hx hb dMO_holds_50 rfl (lv_at hl 1 rfl) ?_
      refine lv_iload_n hx hb dMO_holds_51 rfl (lv_at hl 2 rfl) ?_
      refine zcallp (va_runV (As := [.int x31_1, .int x31_2]) (rest := [.ref (b 10)]) ⟨hx, hb, hml, hown, zno⟩ (tMO_end l dC dI cI cZ cJ cA a0 s0 o b P S1 H2.size x31_1 x31_2 gP gS1 r_x31_2) (zcw 2 (hB.word (zm5 k5_112) rfl) (hB.word (zm1 k1_9) rfl) (hB.word (zm5 k5_109) rfl) (hB.word (zm5 k5_111) rfl) (k2_selects_private (by decide) (hB.word (zm4 k4_109) rfl) (hB.word (zm5 k5_110) rfl) (hB.word (zm5 k5_111) rfl)) rfl rfl (by decide +kernel) ⟨Nat.le_of_ble_eq_true rfl, Nat.le_of_ble_eq_true rfl⟩) ⟨zP_blind, va_recv hK hP (ci := 7) (q0 := 0) rfl rfl, zP_pre hP hK hD hAD (zB_on hB hA0 hS)⟩ rfl rfl hl.1 rfl (lv_room (Nat.le_of_ble_eq_true rfl)) dMO_holds_52 ⟨Nat.le_of_ble_eq_true rfl, Nat.le_of_ble_eq_true rfl⟩) hS hA (fun k5 H4 locs hk5 hz1 hk1 hS => ?_)
      have hP := zKeep hP hk1
      have E := zl_s E hk5.1
      refine m_aldS hx hb hK hP 10 (by decide) rfl hk5.2 (by decide) dMO_holds_55 E (fun k6 ek6 E => ?_)
      rw [hQe]
      exact W.iret (v := k6) hx hb hr (fun t ht hW => ⟨⟨k6, S1, rfl, ⟨E.symm.trans etg, gS1, trivial⟩, by rw [ht]; exact hP, hD⟩, hS.F ht⟩) hS.2.2 dMO_holds_56
    · have r_y31_0 : zr 1 1 y31_0 := zlt_y (show zr 0 0 0 from by decide) r_y31_0 (znle c_38) (by decide)
      refine lv_iconst (v := 0) hx hb dMO_holds_41 (by decide) ?_
      refine lv_goto (tgt := 56) hx hb dMO_holds_42 (by decide) ?_
      rw [hQe]
      exact W.iret (v := 0) hx hb hr (fun t ht hW => ⟨⟨0, S1, rfl, ⟨E.symm.trans etg, gS1, trivial⟩, by rw [ht]; exact hP, hD⟩, hS.F ht⟩) hS.2.2 dMO_holds_56
  have hJ30 : ∀ (H : Heap) (locs : List Loc) (ls : Array Slot) (S_30 : ZS) (x30_1 : Int32) (x30_2 : Int32), mok S_30 → tg = fMO_holds_30 P S_30 x30_1 x30_2 → va_P (dC, dI) zCl (MW cI cZ cA o b P S_30) H → va_D A (MW cI cZ cA o b P S_30) → va_S A s.heap H locs → lv_has ls 3 [(0, .ref (o 0)), (1, .int x30_1), (2, .int x30_2)] → W p l e ({ frames := 1, cells := 0, slots := 0, locals := 22 } : Room) s m ([.ref (o 0), .int x0, .int x1] : List Value).toArray below meth c H locs 0 0 Q (F0 m 30 ls [.ref (o 0)]) := by
    intro H locs ls S_30 x30_1 x30_2 gS_30 E hP hD hS hl
    unfold fMO_holds_30 at E
    refine lv_iconst (v := 1) hx hb dMO_holds_30 (by decide) ?_
    exact hJ31 H locs ls S_30 x30_1 x30_2 1 (show zr 0 1 1 from by decide) gS_30 (Or.inl rfl) (Or.inl rfl) E hP hD hS (lv_sub hl [0, 1, 2] rfl)
  refine lv_aload_n hx hb dMO_holds_0 rfl (lv_at hl 0 rfl) ?_
  refine lv_aload_n hx hb dMO_holds_1 rfl (lv_at hl 0 rfl) ?_
  refine lv_iload_n hx hb dMO_holds_2 rfl (lv_at hl 1 rfl) ?_
  refine zcallp (va_runV (As := [.int x0]) (rest := [.ref (o 0)]) ⟨hx, hb, hml, hown, zno⟩ (tMO_isBridge l dC dI cI cZ cJ cA a0 s0 o b P S s.heap.size x0 gP gS) (zcw 1 (hB.word (zm5 k5_49) rfl) (hB.word (zm1 k1_9) rfl) (hB.word (zm5 k5_46) rfl) (hB.word (zm5 k5_48) rfl) (k2_selects_private (by decide) (hB.word (zm4 k4_109) rfl) (hB.word (zm5 k5_47) rfl) (hB.word (zm5 k5_48) rfl)) rfl rfl (by decide +kernel) ⟨Nat.le_of_ble_eq_true rfl, Nat.le_of_ble_eq_true rfl⟩) ⟨zP_blind, va_recv hK hP (ci := 7) (q0 := 0) rfl rfl, zP_pre hP hK hD hAD (zB_on hB hA0 hS)⟩ rfl rfl hl.1 rfl (lv_room (Nat.le_of_ble_eq_true rfl)) dMO_holds_3 ⟨Nat.le_of_ble_eq_true rfl, Nat.le_of_ble_eq_true rfl⟩) hS hA (fun k8 H7 locs hk8 hz1 hk1 hS => ?_)
  have hP := zKeep hP hk1
  have E := zl_s E hk8.1
  refine z_if_eq (tgt := 30) hx hb dMO_holds_6 (by decide) E (fun c_6 E => ?_) (fun c_6 E => ?_)
  · have r_k8 : zr 0 0 k8 := zeq_x (show zr 0 0 0 from by decide) c_6
    exact hJ30 H7 locs ls S x0 x1 gS E hP hD hS (lv_sub hl [0, 1, 2] rfl)
  · have r_k8 : zr 1 1 k8 := zne_lo hk8.2 c_6 (by decide)
    have r_x0 : zr 0 47 x0 := ((zc_isBridge gP hk8.1)).resolve_left (zrne r_k8 (by decide))
    refine lv_aload_n hx hb dMO_holds_9 rfl (lv_at hl 0 rfl) ?_
    refine lv_iload_n hx hb dMO_holds_10 rfl (lv_at hl 2 rfl) ?_
    refine zcallp (va_runV (As := [.int x1]) (rest := [.ref (o 0)]) ⟨hx, hb, hml, hown, zno⟩ (tMO_isLink l dC dI cI cZ cJ cA a0 s0 o b P S H7.size x1 gP gS) (zcw 1 (hB.word (zm5 k5_64) rfl) (hB.word (zm1 k1_9) rfl) (hB.word (zm5 k5_61) rfl) (hB.word (zm5 k5_63) rfl) (k2_selects_private (by decide) (hB.word (zm4 k4_109) rfl) (hB.word (zm5 k5_62) rfl) (hB.word (zm5 k5_63) rfl)) rfl rfl (by decide +kernel) ⟨Nat.le_of_ble_eq_true rfl, Nat.le_of_ble_eq_true rfl⟩) ⟨zP_blind, va_recv hK hP (ci := 7) (q0 := 0) rfl rfl, zP_pre hP hK hD hAD (zB_on hB hA0 hS)⟩ rfl rfl hl.1 rfl (lv_room (Nat.le_of_ble_eq_true rfl)) dMO_holds_11 ⟨Nat.le_of_ble_eq_true rfl, Nat.le_of_ble_eq_true rfl⟩) hS hA (fun k10 H9 locs hk10 hz1 hk1 hS => ?_)
    have hP := zKeep hP hk1
    have E := zl_s E hk10.1
    refine z_if_eq (tgt := 30) hx hb dMO_holds_14 (by decide) E (fun c_14 E => ?_) (fun c_14 E => ?_)
    · have r_k10 : zr 0 0 k10 := zeq_x (show zr 0 0 0 from by decide) c_14
      exact hJ30 H9 locs ls S x0 x1 gS E hP hD hS (lv_sub hl [0, 1, 2] rfl)
    · have r_k10 : zr 1 1 k10 := zne_lo hk10.2 c_14 (by decide)
      have r_x1 : zr 0 59 x1 := ((zc_isLink gP hk10.1)).resolve_left (zrne r_k10 (by decide))
      refine lv_aload_n hx hb dMO_holds_17 rfl (lv_at hl 0 rfl) ?_
      refine lv_iload_n hx hb dMO_holds_18 rfl (lv_at hl 1 rfl) ?_
      refine lv_iload_n hx hb dMO_holds_19 rfl (lv_at hl 2 rfl) ?_
      refine zcallp (va_runV (As := [.int x0, .int x1]) (rest := [.ref (o 0)]) ⟨hx, hb, hml, hown, zno⟩ (tMO_isEnd l dC dI cI cZ cJ cA a0 s0 o b P S H9.size x0 x1 gP gS r_x1) (zcw 2 (hB.word (zm5 k5_80) rfl) (hB.word (zm1 k1_9) rfl) (hB.word (zm5 k5_77) rfl) (hB.word (zm5 k5_79) rfl) (k2_selects_private (by decide) (hB.word (zm4 k4_109) rfl) (hB.word (zm5 k5_78) rfl) (hB.word (zm5 k5_79) rfl)) rfl rfl (by decide +kernel) ⟨Nat.le_of_ble_eq_true rfl, Nat.le_of_ble_eq_true rfl⟩) ⟨zP_blind, va_recv hK hP (ci := 7) (q0 := 0) rfl rfl, zP_pre hP hK hD hAD (zB_on hB hA0 hS)⟩ rfl rfl hl.1 rfl (lv_room (Nat.le_of_ble_eq_true rfl)) dMO_holds_20 ⟨Nat.le_of_ble_eq_true rfl, Nat.le_of_ble_eq_true rfl⟩) hS hA (fun k12 H11 locs hk12 hz1 hk1 hS => ?_)
      have hP := zKeep hP hk1
      have E := zl_s E hk12.1
      refine z_if_eq (tgt := 30) hx hb dMO_holds_23 (by decide) E (fun c_23 E => ?_) (fun c_23 E => ?_)
      · have r_k12 : zr 0 0 k12 := zeq_x (show zr 0 0 0 from by decide) c_23
        exact hJ30 H11 locs ls S x0 x1 gS E hP hD hS (lv_sub hl [0, 1, 2] rfl)
      · have r_k12 : zr 1 1 k12 := zne_lo hk12.2 c_23 (by decide)
        refine lv_iconst (v := 0) hx hb dMO_holds_26 (by decide) ?_
        refine lv_goto (tgt := 31) hx hb dMO_holds_27 (by decide) ?_
        exact hJ31 H11 locs ls S x0 x1 0 (show zr 0 1 0 from by decide) gS (Or.inr r_x0) (Or.inr r_x1) E hP hD hS (lv_sub hl [0, 1, 2] rfl)
noncomputable def fMO_told_30 (P : ZS) (S_30 : ZS) (x30_1 : Int32) (x30_2 : Int32) (x30_3 : Int32) (y30_0 : Int32) : ZS × Int32 := zl (S_30.setI 3 y30_0) (fun S1 => zl (S1.I 3) (fun k3 => (if y30_0 ≤ 0 then (if x30_3 = 0 then zl (S1.F 18 (x30_1 : Int32).toNatClampNeg) (fun k10 => (S1, k10)) else (if x30_3 = 1 then zl (fMO_at P S1 x30_1 x30_2) (fun k8 => zl (S1.F 13 (k8 : Int32).toNatClampNeg) (fun k9 => (S1, k9))) else zl (fMO_owns P S1 x30_1 x30_2) (fun k5 => (if k5 = 0 then (S1, 0) else zl (S1.F 11 (x30_2 : Int32).toNatClampNeg) (fun k6 => (S1, k6)))))) else (S1, 0))))
noncomputable def fMO_told_29 (P : ZS) (S_29 : ZS) (x29_1 : Int32) (x29_2 : Int32) (x29_3 : Int32) : ZS × Int32 := fMO_told_30 P S_29 x29_1 x29_2 x29_3 1
noncomputable def fMO_told (P S : ZS) (x0 : Int32) (x1 : Int32) (x2 : Int32) : ZS × Int32 := zl (fMO_isBridge P S x0) (fun k12 => (if k12 = 0 then fMO_told_29 P S x0 x1 x2 else zl (fMO_isRing P S x1) (fun k14 => (if k14 = 0 then fMO_told_29 P S x0 x1 x2 else (if x2 < 0 then fMO_told_29 P S x0 x1 x2 else (if 2 < x2 then fMO_told_29 P S x0 x1 x2 else fMO_told_30 P S x0 x1 x2 0))))))
set_option maxHeartbeats 4000000 in
set_option maxRecDepth 100000 in
theorem tMO_told (l : Launch) (dC : Nat → ClassId) (dI : Nat → Nat → Nat) (cI cZ cJ cA : ClassId) (a0 : Array Value) (s0 : State) (o b : Nat → Nat) (P S : ZS) (sz : Nat) (x0 : Int32) (x1 : Int32) (x2 : Int32) (gP : mok P) (gS : mok S) : Met l yMO_told [Cond.code yMO_told bMO_told 4 (some .int)] ({ frames := 1, cells := 0, slots := 0, locals := 22 } : Room) (zP zCl dC dI (zTZ cI cZ cJ cA) a0 s0 [.ref (o 0), .int x0, .int x1, .int x2] sz (MW cI cZ cA o b P S)) (zQH zCl dC dI (fun (r : Int32) (x9 : ZS) => (x9, r) = fMO_told P S x0 x1 x2 ∧ mok x9 ∧ True) (fun x9 : ZS => (MW cI cZ cA o b P x9)) (va_A (MW cI cZ cA o b P S) sz)) 0 0 (va_A (MW cI cZ cA o b P S) sz) := by
  refine Met.ofW (cc := bMO_told) (maxL := 4) (ret := (some .int)) (by decide) rfl ?_
  intro p e s m args below meth c s₁ B hml hv
  obtain ⟨rfl, hsz, hP, hK, hD0, hB⟩ := hv
  have hx := B.exec
  have hb := B.bytes
  have hr := B.returns
  have hown : s.vm.findClass "RingGuardModel" = some m.cls := findClass_of_methodNamed B.named
  have hlocks := B.notSynchronized
  subst hsz
  have hD := hD0.self (sz := s.heap.size)
  have hA0 := zA0 hD0 hB
  generalize hAe : va_A (MW cI cZ cA o b P S) s.heap.size = A at hD hA0 ⊢
  have hAD := hA0
  have hA : ∀ q : Nat, s.heap.size ≤ q → A q := fun q h => by rw [← hAe]; exact Or.inr h
  have hS : va_S A s.heap s.heap [] := va_S.rf
  have hl := lv_entry ([.ref (o 0), .int x0, .int x1, .int x2]) (n := 4) (Nat.le_of_ble_eq_true rfl)
  rw [lg_entry_eq]
  generalize (lg_sl ([.ref (o 0), .int x0, .int x1, .int x2]) ++ List.replicate (4 - (lg_sl ([.ref (o 0), .int x0, .int x1, .int x2])).length) Slot.unset).toArray = ls at hl ⊢
  have hl : lv_has ls 4 [(0, .ref (o 0)), (1, .int x0), (2, .int x1), (3, .int x2)] := hl
  refine zgenQ (fun Q hQe => ?_)
  obtain ⟨tg, etg⟩ : ∃ z, z = fMO_told P S x0 x1 x2 := ⟨_, rfl⟩
  have E := etg
  unfold fMO_told at E
  have hJ30 : ∀ (H : Heap) (locs : List Loc) (ls : Array Slot) (S_30 : ZS) (x30_1 : Int32) (x30_2 : Int32) (x30_3 : Int32) (y30_0 : Int32), zr 0 1 y30_0 → mok S_30 → (y30_0 = 1 ∨ zr 0 47 (x30_1)) → (y30_0 = 1 ∨ zr 0 5 (x30_2)) → (y30_0 = 1 ∨ zr 0 2 (x30_3)) → tg = fMO_told_30 P S_30 x30_1 x30_2 x30_3 y30_0 → va_P (dC, dI) zCl (MW cI cZ cA o b P S_30) H → va_D A (MW cI cZ cA o b P S_30) → va_S A s.heap H locs → lv_has ls 4 [(0, .ref (o 0)), (1, .int x30_1), (2, .int x30_2), (3, .int x30_3)] → W p l e ({ frames := 1, cells := 0, slots := 0, locals := 22 } : Room) s m ([.ref (o 0), .int x0, .int x1, .int x2] : List Value).toArray below meth c H locs 0 0 Q (F0 m 30 ls [.int y30_0, .ref (o 0)]) := by
    intro H locs ls S_30 x30_1 x30_2 x30_3 y30_0 r_y30_0 gS_30 cd30_0 cd30_1 cd30_2 E hP hD hS hl
    unfold fMO_told_30 at E
    refine m_put_3 hx hb (hB.words zU_MO) hown hK hP hD hS (hB.word (zm4 k4_114) rfl) dMO_told_30 E (fun S1 H2 locs eS1 E hP hD hS => ?_)
    have gS1 : mok S1 := by rw [eS1]; exact gS_30.setI (t := 3) (zr_mono r_y30_0 (by decide))
    refine lv_aload_n hx hb dMO_told_33 rfl (lv_at hl 0 rfl) ?_
    refine m_get_3 hx hb (hB.words zU_MO) hown hK hP (hB.word (zm4 k4_114) rfl) dMO_told_34 E (fun k3 ek3 E => ?_)
    have x9 : y30_0 = k3 := by rw [ek3, eS1]; rfl
    subst x9
    refine z_if_le (tgt := 42) hx hb dMO_told_37 (by decide) E (fun c_37 E => ?_) (fun c_37 E => ?_)
    · have r_y30_0 : zr 0 0 y30_0 := zle_x r_y30_0 (show zr 0 0 0 from by decide) c_37 (by decide)
      have r_x30_1 : zr 0 47 x30_1 := (cd30_0).resolve_left (zrne r_y30_0 (by decide))
      have r_x30_2 : zr 0 5 x30_2 := (cd30_1).resolve_left (zrne r_y30_0 (by decide))
      have r_x30_3 : zr 0 2 x30_3 := (cd30_2).resolve_left (zrne r_y30_0 (by decide))
      refine lv_iload_n hx hb dMO_told_42 rfl (lv_at hl 3 rfl) ?_
      refine z_if_ne (tgt := 55) hx hb dMO_told_43 (by decide) E (fun c_43 E => ?_) (fun c_43 E => ?_)
      · have r_x30_3 : zr 1 2 x30_3 := zne_lo r_x30_3 c_43 (by decide)
        refine lv_iload_n hx hb dMO_told_55 rfl (lv_at hl 3 rfl) ?_
        refine lv_iconst (v := 1) hx hb dMO_told_56 (by decide) ?_
        refine z_icmp_ne (tgt := 73) hx hb dMO_told_57 (by decide) E (fun c_57 E => ?_) (fun c_57 E => ?_)
        · have r_x30_3 : zr 2 2 x30_3 := zne_lo r_x30_3 c_57 (by decide)
          refine lv_aload_n hx hb dMO_told_73 rfl (lv_at hl 0 rfl) ?_
          refine lv_iload_n hx hb dMO_told_74 rfl (lv_at hl 1 rfl) ?_
          refine lv_iload_n hx hb dMO_told_75 rfl (lv_at hl 2 rfl) ?_
          refine zcallp (va_runV (As := [.int x30_1, .int x30_2]) (rest := []) ⟨hx, hb, hml, hown, zno⟩ (tMO_owns l dC dI cI cZ cJ cA a0 s0 o b P S1 H2.size x30_1 x30_2 gP gS1 r_x30_2) (zcw 2 (hB.word (zm5 k5_155) rfl) (hB.word (zm1 k1_9) rfl) (hB.word (zm5 k5_152) rfl) (hB.word (zm5 k5_154) rfl) (k2_selects_private (by decide) (hB.word (zm4 k4_109) rfl) (hB.word (zm5 k5_153) rfl) (hB.word (zm5 k5_154) rfl)) rfl rfl (by decide +kernel) ⟨Nat.le_of_ble_eq_true rfl, Nat.le_of_ble_eq_true rfl⟩) ⟨zP_blind, va_recv hK hP (ci := 7) (q0 := 0) rfl rfl, zP_pre hP hK hD hAD (zB_on hB hA0 hS)⟩ rfl rfl hl.1 rfl (lv_room (Nat.le_of_ble_eq_true rfl)) dMO_told_76 ⟨Nat.le_of_ble_eq_true rfl, Nat.le_of_ble_eq_true rfl⟩) hS hA (fun k5 H4 locs hk5 hz1 hk1 hS => ?_)
          have hP := zKeep hP hk1
          have E := zl_s E hk5.1
          refine z_if_eq (tgt := 91) hx hb dMO_told_79 (by decide) E (fun c_79 E => ?_) (fun c_79 E => ?_)
          · have r_k5 : zr 0 0 k5 := zeq_x (show zr 0 0 0 from by decide) c_79
            refine lv_iconst (v := 0) hx hb dMO_told_91 (by decide) ?_
            rw [hQe]
            exact W.iret (v := 0) hx hb hr (fun t ht hW => ⟨⟨0, S1, rfl, ⟨E.symm.trans etg, gS1, trivial⟩, by rw [ht]; exact hP, hD⟩, hS.F ht⟩) hS.2.2 dMO_told_92
          · have r_k5 : zr 1 1 k5 := zne_lo hk5.2 c_79 (by decide)
            refine lv_aload_n hx hb dMO_told_82 rfl (lv_at hl 0 rfl) ?_
            refine m_getA_11 hx hb (hB.words zU_MO) hown hK hP (hB.word (zm4 k4_128) rfl) dMO_told_83 ?_
            refine lv_iload_n hx hb dMO_told_86 rfl (lv_at hl 2 rfl) ?_
            refine m_aldS hx hb hK hP 11 (by decide) rfl r_x30_2 (by decide) dMO_told_87 E (fun k6 ek6 E => ?_)
            refine lv_goto (tgt := 92) hx hb dMO_told_88 (by decide) ?_
            rw [hQe]
            exact W.iret (v := k6) hx hb hr (fun t ht hW => ⟨⟨k6, S1, rfl, ⟨E.symm.trans etg, gS1, trivial⟩, by rw [ht]; exact hP, hD⟩, hS.F ht⟩) hS.2.2 dMO_told_92
        · have r_x30_3 : zr 1 1 x30_3 := zeq_x (show zr 1 1 1 from by decide) c_57
          refine lv_aload_n hx hb dMO_told_60 rfl (lv_at hl 0 rfl) ?_
          refine m_getA_13 hx hb (hB.words zU_MO) hown hK hP (hB.word (zm4 k4_131) rfl) dMO_told_61 ?_
          refine lv_iload_n hx hb dMO_told_64 rfl (lv_at hl 1 rfl) ?_
          refine lv_iload_n hx hb dMO_told_65 rfl (lv_at hl 2 rfl) ?_
          refine zcallp (va_runS (As := [.int x30_1, .int x30_2]) (rest := [.ref (b 13)]) ⟨hx, hb, hml, hown, zno⟩ (tMO_at l dC dI cI cZ cJ cA a0 s0 o b P S1 H2.size x30_1 x30_2 gP gS1 r_x30_1 r_x30_2) ⟨zcb 2 (hB.word (zm5 k5_119) rfl) (hB.word (zm1 k1_9) rfl) (hB.word (zm5 k5_117) rfl) rfl rfl (by decide +kernel) ⟨Nat.le_of_ble_eq_true rfl, Nat.le_of_ble_eq_true rfl⟩, hB.word (zm5 k5_118) rfl⟩ ⟨zP_blind, zP_pre hP hK hD hAD (zB_on hB hA0 hS)⟩ rfl rfl hl.1 rfl (lv_room (Nat.le_of_ble_eq_true rfl)) dMO_told_66 ⟨Nat.le_of_ble_eq_true rfl, Nat.le_of_ble_eq_true rfl⟩) hS hA (fun k8 H7 locs hk8 hz1 hk1 hS => ?_)
          have hP := zKeep hP hk1
          have E := zl_s E hk8.1
          refine m_aldS hx hb hK hP 13 (by decide) rfl hk8.2 (by decide) dMO_told_69 E (fun k9 ek9 E => ?_)
          refine lv_goto (tgt := 92) hx hb dMO_told_70 (by decide) ?_
          rw [hQe]
          exact W.iret (v := k9) hx hb hr (fun t ht hW => ⟨⟨k9, S1, rfl, ⟨E.symm.trans etg, gS1, trivial⟩, by rw [ht]; exact hP, hD⟩, hS.F ht⟩) hS.2.2 dMO_told_92
      · have r_x30_3 : zr 0 0 x30_3 := zeq_x (show zr 0 0 0 from by decide) c_43
        refine lv_aload_n hx hb dMO_told_46 rfl (lv_at hl 0 rfl) ?_
        refine m_getA_18 hx hb (hB.words zU_MO) hown hK hP (hB.word (zm4 k4_136) rfl) dMO_told_47 ?_
        refine lv_iload_n hx hb dMO_told_50 rfl (lv_at hl 1 rfl) ?_
        refine m_aldS hx hb hK hP 18 (by decide) rfl r_x30_1 (by decide) dMO_told_51 E (fun k10 ek10 E => ?_)
        refine lv_goto (tgt := 92) hx hb dMO_told_52 (by decide) ?_
        rw [hQe]
        exact W.iret (v := k10) hx hb hr (fun t ht hW => ⟨⟨k10, S1, rfl, ⟨E.symm.trans etg, gS1, trivial⟩, by rw [ht]; exact hP, hD⟩, hS.F ht⟩) hS.2.2 dMO_told_92
    · have r_y30_0 : zr 1 1 y30_0 := zlt_y (show zr 0 0 0 from by decide) r_y30_0 (znle c_37) (by decide)
      refine lv_iconst (v := 0) hx hb dMO_told_40 (by decide) ?_
      rw [hQe]
      exact W.iret (v := 0) hx hb hr (fun t ht hW => ⟨⟨0, S1, rfl, ⟨E.symm.trans etg, gS1, trivial⟩, by rw [ht]; exact hP, hD⟩, hS.F ht⟩) hS.2.2 dMO_told_41
  have hJ29 : ∀ (H : Heap) (locs : List Loc) (ls : Array Slot) (S_29 : ZS) (x29_1 : Int32) (x29_2 : Int32) (x29_3 : Int32), mok S_29 → tg = fMO_told_29 P S_29 x29_1 x29_2 x29_3 → va_P (dC, dI) zCl (MW cI cZ cA o b P S_29) H → va_D A (MW cI cZ cA o b P S_29) → va_S A s.heap H locs → lv_has ls 4 [(0, .ref (o 0)), (1, .int x29_1), (2, .int x29_2), (3, .int x29_3)] → W p l e ({ frames := 1, cells := 0, slots := 0, locals := 22 } : Room) s m ([.ref (o 0), .int x0, .int x1, .int x2] : List Value).toArray below meth c H locs 0 0 Q (F0 m 29 ls [.ref (o 0)]) := by
    intro H locs ls S_29 x29_1 x29_2 x29_3 gS_29 E hP hD hS hl
    unfold fMO_told_29 at E
    refine lv_iconst (v := 1) hx hb dMO_told_29 (by decide) ?_
    exact hJ30 H locs ls S_29 x29_1 x29_2 x29_3 1 (show zr 0 1 1 from by decide) gS_29 (Or.inl rfl) (Or.inl rfl) (Or.inl rfl) E hP hD hS (lv_sub hl [0, 1, 2, 3] rfl)
  refine lv_aload_n hx hb dMO_told_0 rfl (lv_at hl 0 rfl) ?_
  refine lv_aload_n hx hb dMO_told_1 rfl (lv_at hl 0 rfl) ?_
  refine lv_iload_n hx hb dMO_told_2 rfl (lv_at hl 1 rfl) ?_
  refine zcallp (va_runV (As := [.int x0]) (rest := [.ref (o 0)]) ⟨hx, hb, hml, hown, zno⟩ (tMO_isBridge l dC dI cI cZ cJ cA a0 s0 o b P S s.heap.size x0 gP gS) (zcw 1 (hB.word (zm5 k5_49) rfl) (hB.word (zm1 k1_9) rfl) (hB.word (zm5 k5_46) rfl) (hB.word (zm5 k5_48) rfl) (k2_selects_private (by decide) (hB.word (zm4 k4_109) rfl) (hB.word (zm5 k5_47) rfl) (hB.word (zm5 k5_48) rfl)) rfl rfl (by decide +kernel) ⟨Nat.le_of_ble_eq_true rfl, Nat.le_of_ble_eq_true rfl⟩) ⟨zP_blind, va_recv hK hP (ci := 7) (q0 := 0) rfl rfl, zP_pre hP hK hD hAD (zB_on hB hA0 hS)⟩ rfl rfl hl.1 rfl (lv_room (Nat.le_of_ble_eq_true rfl)) dMO_told_3 ⟨Nat.le_of_ble_eq_true rfl, Nat.le_of_ble_eq_true rfl⟩) hS hA (fun k12 H11 locs hk12 hz1 hk1 hS => ?_)
  have hP := zKeep hP hk1
  have E := zl_s E hk12.1
  refine z_if_eq (tgt := 29) hx hb dMO_told_6 (by decide) E (fun c_6 E => ?_) (fun c_6 E => ?_)
  · have r_k12 : zr 0 0 k12 := zeq_x (show zr 0 0 0 from by decide) c_6
    exact hJ29 H11 locs ls S x0 x1 x2 gS E hP hD hS (lv_sub hl [0, 1, 2, 3] rfl)
  · have r_k12 : zr 1 1 k12 := zne_lo hk12.2 c_6 (by decide)
    have r_x0 : zr 0 47 x0 := ((zc_isBridge gP hk12.1)).resolve_left (zrne r_k12 (by decide))
    refine lv_iload_n hx hb dMO_told_9 rfl (lv_at hl 2 rfl) ?_
    refine zcallp (va_runS (As := [.int x1]) (rest := [.ref (o 0)]) ⟨hx, hb, hml, hown, zno⟩ (tMO_isRing l dC dI cI cZ cJ cA a0 s0 o b P S H11.size x1 gP gS) ⟨zcb 1 (hB.word (zm5 k5_52) rfl) (hB.word (zm1 k1_9) rfl) (hB.word (zm5 k5_50) rfl) rfl rfl (by decide +kernel) ⟨Nat.le_of_ble_eq_true rfl, Nat.le_of_ble_eq_true rfl⟩, hB.word (zm5 k5_51) rfl⟩ ⟨zP_blind, zP_pre hP hK hD hAD (zB_on hB hA0 hS)⟩ rfl rfl hl.1 rfl (lv_room (Nat.le_of_ble_eq_true rfl)) dMO_told_10 ⟨Nat.le_of_ble_eq_true rfl, Nat.le_of_ble_eq_true rfl⟩) hS hA (fun k14 H13 locs hk14 hz1 hk1 hS => ?_)
    have hP := zKeep hP hk1
    have E := zl_s E hk14.1
    refine z_if_eq (tgt := 29) hx hb dMO_told_13 (by decide) E (fun c_13 E => ?_) (fun c_13 E => ?_)
    · have r_k14 : zr 0 0 k14 := zeq_x (show zr 0 0 0 from by decide) c_13
      exact hJ29 H13 locs ls S x0 x1 x2 gS E hP hD hS (lv_sub hl [0, 1, 2, 3] rfl)
    · have r_k14 : zr 1 1 k14 := zne_lo hk14.2 c_13 (by decide)
      have r_x1 : zr 0 5 x1 := ((zc_isRing gP hk14.1)).resolve_left (zrne r_k14 (by decide))
      refine lv_iload_n hx hb dMO_told_16 rfl (lv_at hl 3 rfl) ?_
      refine z_if_lt (tgt := 29) hx hb dMO_told_17 (by decide) E (fun c_17 E => ?_) (fun c_17 E => ?_)
      · have r_x2 : zr (-2147483648) (-1) x2 := zlt_x (zr_any x2) (show zr 0 0 0 from by decide) c_17 (by decide)
        exact hJ29 H13 locs ls S x0 x1 x2 gS E hP hD hS (lv_sub hl [0, 1, 2, 3] rfl)
      · have r_x2 : zr 0 2147483647 x2 := zle_y (show zr 0 0 0 from by decide) (zr_any x2) (znlt c_17) (by decide)
        refine lv_iload_n hx hb dMO_told_20 rfl (lv_at hl 3 rfl) ?_
        refine lv_iconst (v := 2) hx hb dMO_told_21 (by decide) ?_
        refine z_icmp_gt (tgt := 29) hx hb dMO_told_22 (by decide) E (fun c_22 E => ?_) (fun c_22 E => ?_)
        · have r_x2 : zr 3 2147483647 x2 := zlt_y (show zr 2 2 2 from by decide) r_x2 c_22 (by decide)
          exact hJ29 H13 locs ls S x0 x1 x2 gS E hP hD hS (lv_sub hl [0, 1, 2, 3] rfl)
        · have r_x2 : zr 0 2 x2 := zle_x r_x2 (show zr 2 2 2 from by decide) (znlt c_22) (by decide)
          refine lv_iconst (v := 0) hx hb dMO_told_25 (by decide) ?_
          refine lv_goto (tgt := 30) hx hb dMO_told_26 (by decide) ?_
          exact hJ30 H13 locs ls S x0 x1 x2 0 (show zr 0 1 0 from by decide) gS (Or.inr r_x0) (Or.inr r_x1) (Or.inr r_x2) E hP hD hS (lv_sub hl [0, 1, 2, 3] rfl)
noncomputable def fMO_learned_33 (P : ZS) (S_33 : ZS) (x33_1 : Int32) (x33_2 : Int32) (x33_3 : Int32) (y33_0 : Int32) : ZS × Int32 := zl (S_33.setI 3 y33_0) (fun S1 => zl (S1.I 3) (fun k3 => (if y33_0 ≤ 0 then zl (fMO_known P S1 x33_1 x33_2 x33_3) (fun k5 => (S1, k5)) else (S1, (-1)))))
noncomputable def fMO_learned_32 (P : ZS) (S_32 : ZS) (x32_1 : Int32) (x32_2 : Int32) (x32_3 : Int32) : ZS × Int32 := fMO_learned_33 P S_32 x32_1 x32_2 x32_3 1
noncomputable def fMO_learned (P S : ZS) (x0 : Int32) (x1 : Int32) (x2 : Int32) : ZS × Int32 := zl (fMO_isBridge P S x0) (fun k7 => (if k7 = 0 then fMO_learned_32 P S x0 x1 x2 else (if x1 < 0 then fMO_learned_32 P S x0 x1 x2 else (if 4 ≤ x1 then fMO_learned_32 P S x0 x1 x2 else (if x2 < 0 then fMO_learned_32 P S x0 x1 x2 else (if 64 ≤ x2 then fMO_learned_32 P S x0 x1 x2 else fMO_learned_33 P S x0 x1 x2 0))))))
set_option maxHeartbeats 4000000 in
set_option maxRecDepth 100000 in
theorem tMO_learned (l : Launch) (dC : Nat → ClassId) (dI : Nat → Nat → Nat) (cI cZ cJ cA : ClassId) (a0 : Array Value) (s0 : State) (o b : Nat → Nat) (P S : ZS) (sz : Nat) (x0 : Int32) (x1 : Int32) (x2 : Int32) (gP : mok P) (gS : mok S) : Met l yMO_learned [Cond.code yMO_learned bMO_learned 4 (some .int)] ({ frames := 1, cells := 0, slots := 0, locals := 24 } : Room) (zP zCl dC dI (zTZ cI cZ cJ cA) a0 s0 [.ref (o 0), .int x0, .int x1, .int x2] sz (MW cI cZ cA o b P S)) (zQH zCl dC dI (fun (r : Int32) (x9 : ZS) => (x9, r) = fMO_learned P S x0 x1 x2 ∧ mok x9 ∧ True) (fun x9 : ZS => (MW cI cZ cA o b P x9)) (va_A (MW cI cZ cA o b P S) sz)) 0 0 (va_A (MW cI cZ cA o b P S) sz) := by
  refine Met.ofW (cc := bMO_learned) (maxL := 4) (ret := (some .int)) (by decide) rfl ?_
  intro p e s m args below meth c s₁ B hml hv
  obtain ⟨rfl, hsz, hP, hK, hD0, hB⟩ := hv
  have hx := B.exec
  have hb := B.bytes
  have hr := B.returns
  have hown : s.vm.findClass "RingGuardModel" = some m.cls := findClass_of_methodNamed B.named
  have hlocks := B.notSynchronized
  subst hsz
  have hD := hD0.self (sz := s.heap.size)
  have hA0 := zA0 hD0 hB
  generalize hAe : va_A (MW cI cZ cA o b P S) s.heap.size = A at hD hA0 ⊢
  have hAD := hA0
  have hA : ∀ q : Nat, s.heap.size ≤ q → A q := fun q h => by rw [← hAe]; exact Or.inr h
  have hS : va_S A s.heap s.heap [] := va_S.rf
  have hl := lv_entry ([.ref (o 0), .int x0, .int x1, .int x2]) (n := 4) (Nat.le_of_ble_eq_true rfl)
  rw [lg_entry_eq]
  generalize (lg_sl ([.ref (o 0), .int x0, .int x1, .int x2]) ++ List.replicate (4 - (lg_sl ([.ref (o 0), .int x0, .int x1, .int x2])).length) Slot.unset).toArray = ls at hl ⊢
  have hl : lv_has ls 4 [(0, .ref (o 0)), (1, .int x0), (2, .int x1), (3, .int x2)] := hl
  refine zgenQ (fun Q hQe => ?_)
  obtain ⟨tg, etg⟩ : ∃ z, z = fMO_learned P S x0 x1 x2 := ⟨_, rfl⟩
  have E := etg
  unfold fMO_learned at E
  have hJ33 : ∀ (H : Heap) (locs : List Loc) (ls : Array Slot) (S_33 : ZS) (x33_1 : Int32) (x33_2 : Int32) (x33_3 : Int32) (y33_0 : Int32), zr 0 1 y33_0 → mok S_33 → (y33_0 = 1 ∨ zr 0 47 (x33_1)) → (y33_0 = 1 ∨ zr 0 3 (x33_2)) → (y33_0 = 1 ∨ zr 0 63 (x33_3)) → tg = fMO_learned_33 P S_33 x33_1 x33_2 x33_3 y33_0 → va_P (dC, dI) zCl (MW cI cZ cA o b P S_33) H → va_D A (MW cI cZ cA o b P S_33) → va_S A s.heap H locs → lv_has ls 4 [(0, .ref (o 0)), (1, .int x33_1), (2, .int x33_2), (3, .int x33_3)] → W p l e ({ frames := 1, cells := 0, slots := 0, locals := 24 } : Room) s m ([.ref (o 0), .int x0, .int x1, .int x2] : List Value).toArray below meth c H locs 0 0 Q (F0 m 33 ls [.int y33_0, .ref (o 0)]) := by
    intro H locs ls S_33 x33_1 x33_2 x33_3 y33_0 r_y33_0 gS_33 cd33_0 cd33_1 cd33_2 E hP hD hS hl
    unfold fMO_learned_33 at E
    refine m_put_3 hx hb (hB.words zU_MO) hown hK hP hD hS (hB.word (zm4 k4_114) rfl) dMO_learned_33 E (fun S1 H2 locs eS1 E hP hD hS => ?_)
    have gS1 : mok S1 := by rw [eS1]; exact gS_33.setI (t := 3) (zr_mono r_y33_0 (by decide))
    refine lv_aload_n hx hb dMO_learned_36 rfl (lv_at hl 0 rfl) ?_
    refine m_get_3 hx hb (hB.words zU_MO) hown hK hP (hB.word (zm4 k4_114) rfl) dMO_learned_37 E (fun k3 ek3 E => ?_)
    have x9 : y33_0 = k3 := by rw [ek3, eS1]; rfl
    subst x9
    refine z_if_le (tgt := 47) hx hb dMO_learned_40 (by decide) E (fun c_40 E => ?_) (fun c_40 E => ?_)
    · have r_y33_0 : zr 0 0 y33_0 := zle_x r_y33_0 (show zr 0 0 0 from by decide) c_40 (by decide)
      have r_x33_1 : zr 0 47 x33_1 := (cd33_0).resolve_left (zrne r_y33_0 (by decide))
      have r_x33_2 : zr 0 3 x33_2 := (cd33_1).resolve_left (zrne r_y33_0 (by decide))
      have r_x33_3 : zr 0 63 x33_3 := (cd33_2).resolve_left (zrne r_y33_0 (by decide))
      refine lv_aload_n hx hb dMO_learned_47 rfl (lv_at hl 0 rfl) ?_
      refine lv_iload_n hx hb dMO_learned_48 rfl (lv_at hl 1 rfl) ?_
      refine lv_iload_n hx hb dMO_learned_49 rfl (lv_at hl 2 rfl) ?_
      refine lv_iload_n hx hb dMO_learned_50 rfl (lv_at hl 3 rfl) ?_
      refine zcallp (va_runV (As := [.int x33_1, .int x33_2, .int x33_3]) (rest := []) ⟨hx, hb, hml, hown, zno⟩ (tMO_known l dC dI cI cZ cJ cA a0 s0 o b P S1 H2.size x33_1 x33_2 x33_3 gP gS1 r_x33_1 r_x33_2 r_x33_3) (zcw 3 (hB.word (zm5 k5_235) rfl) (hB.word (zm1 k1_9) rfl) (hB.word (zm5 k5_232) rfl) (hB.word (zm5 k5_234) rfl) (k2_selects_private (by decide) (hB.word (zm4 k4_109) rfl) (hB.word (zm5 k5_233) rfl) (hB.word (zm5 k5_234) rfl)) rfl rfl (by decide +kernel) ⟨Nat.le_of_ble_eq_true rfl, Nat.le_of_ble_eq_true rfl⟩) ⟨zP_blind, va_recv hK hP (ci := 7) (q0 := 0) rfl rfl, zP_pre hP hK hD hAD (zB_on hB hA0 hS)⟩ rfl rfl hl.1 rfl (lv_room (Nat.le_of_ble_eq_true rfl)) dMO_learned_51 ⟨Nat.le_of_ble_eq_true rfl, Nat.le_of_ble_eq_true rfl⟩) hS hA (fun k5 H4 locs hk5 hz1 hk1 hS => ?_)
      have hP := zKeep hP hk1
      have E := zl_s E hk5.1
      rw [hQe]
      exact W.iret (v := k5) hx hb hr (fun t ht hW => ⟨⟨k5, S1, rfl, ⟨E.symm.trans etg, gS1, trivial⟩, by rw [ht]; exact hP, hD⟩, hS.F ht⟩) hS.2.2 dMO_learned_54
    · have r_y33_0 : zr 1 1 y33_0 := zlt_y (show zr 0 0 0 from by decide) r_y33_0 (znle c_40) (by decide)
      refine lv_iconst (v := (-1)) hx hb dMO_learned_43 (by decide) ?_
      refine lv_goto (tgt := 54) hx hb dMO_learned_44 (by decide) ?_
      rw [hQe]
      exact W.iret (v := (-1)) hx hb hr (fun t ht hW => ⟨⟨(-1), S1, rfl, ⟨E.symm.trans etg, gS1, trivial⟩, by rw [ht]; exact hP, hD⟩, hS.F ht⟩) hS.2.2 dMO_learned_54
  have hJ32 : ∀ (H : Heap) (locs : List Loc) (ls : Array Slot) (S_32 : ZS) (x32_1 : Int32) (x32_2 : Int32) (x32_3 : Int32), mok S_32 → tg = fMO_learned_32 P S_32 x32_1 x32_2 x32_3 → va_P (dC, dI) zCl (MW cI cZ cA o b P S_32) H → va_D A (MW cI cZ cA o b P S_32) → va_S A s.heap H locs → lv_has ls 4 [(0, .ref (o 0)), (1, .int x32_1), (2, .int x32_2), (3, .int x32_3)] → W p l e ({ frames := 1, cells := 0, slots := 0, locals := 24 } : Room) s m ([.ref (o 0), .int x0, .int x1, .int x2] : List Value).toArray below meth c H locs 0 0 Q (F0 m 32 ls [.ref (o 0)]) := by
    intro H locs ls S_32 x32_1 x32_2 x32_3 gS_32 E hP hD hS hl
    unfold fMO_learned_32 at E
    refine lv_iconst (v := 1) hx hb dMO_learned_32 (by decide) ?_
    exact hJ33 H locs ls S_32 x32_1 x32_2 x32_3 1 (show zr 0 1 1 from by decide) gS_32 (Or.inl rfl) (Or.inl rfl) (Or.inl rfl) E hP hD hS (lv_sub hl [0, 1, 2, 3] rfl)
  refine lv_aload_n hx hb dMO_learned_0 rfl (lv_at hl 0 rfl) ?_
  refine lv_aload_n hx hb dMO_learned_1 rfl (lv_at hl 0 rfl) ?_
  refine lv_iload_n hx hb dMO_learned_2 rfl (lv_at hl 1 rfl) ?_
  refine zcallp (va_runV (As := [.int x0]) (rest := [.ref (o 0)]) ⟨hx, hb, hml, hown, zno⟩ (tMO_isBridge l dC dI cI cZ cJ cA a0 s0 o b P S s.heap.size x0 gP gS) (zcw 1 (hB.word (zm5 k5_49) rfl) (hB.word (zm1 k1_9) rfl) (hB.word (zm5 k5_46) rfl) (hB.word (zm5 k5_48) rfl) (k2_selects_private (by decide) (hB.word (zm4 k4_109) rfl) (hB.word (zm5 k5_47) rfl) (hB.word (zm5 k5_48) rfl)) rfl rfl (by decide +kernel) ⟨Nat.le_of_ble_eq_true rfl, Nat.le_of_ble_eq_true rfl⟩) ⟨zP_blind, va_recv hK hP (ci := 7) (q0 := 0) rfl rfl, zP_pre hP hK hD hAD (zB_on hB hA0 hS)⟩ rfl rfl hl.1 rfl (lv_room (Nat.le_of_ble_eq_true rfl)) dMO_learned_3 ⟨Nat.le_of_ble_eq_true rfl, Nat.le_of_ble_eq_true rfl⟩) hS hA (fun k7 H6 locs hk7 hz1 hk1 hS => ?_)
  have hP := zKeep hP hk1
  have E := zl_s E hk7.1
  refine z_if_eq (tgt := 32) hx hb dMO_learned_6 (by decide) E (fun c_6 E => ?_) (fun c_6 E => ?_)
  · have r_k7 : zr 0 0 k7 := zeq_x (show zr 0 0 0 from by decide) c_6
    exact hJ32 H6 locs ls S x0 x1 x2 gS E hP hD hS (lv_sub hl [0, 1, 2, 3] rfl)
  · have r_k7 : zr 1 1 k7 := zne_lo hk7.2 c_6 (by decide)
    have r_x0 : zr 0 47 x0 := ((zc_isBridge gP hk7.1)).resolve_left (zrne r_k7 (by decide))
    refine lv_iload_n hx hb dMO_learned_9 rfl (lv_at hl 2 rfl) ?_
    refine z_if_lt (tgt := 32) hx hb dMO_learned_10 (by decide) E (fun c_10 E => ?_) (fun c_10 E => ?_)
    · have r_x1 : zr (-2147483648) (-1) x1 := zlt_x (zr_any x1) (show zr 0 0 0 from by decide) c_10 (by decide)
      exact hJ32 H6 locs ls S x0 x1 x2 gS E hP hD hS (lv_sub hl [0, 1, 2, 3] rfl)
    · have r_x1 : zr 0 2147483647 x1 := zle_y (show zr 0 0 0 from by decide) (zr_any x1) (znlt c_10) (by decide)
      refine lv_iload_n hx hb dMO_learned_13 rfl (lv_at hl 2 rfl) ?_
      refine lv_iconst (v := 4) hx hb dMO_learned_14 (by decide) ?_
      refine z_icmp_ge (tgt := 32) hx hb dMO_learned_15 (by decide) E (fun c_15 E => ?_) (fun c_15 E => ?_)
      · have r_x1 : zr 4 2147483647 x1 := zle_y (show zr 4 4 4 from by decide) r_x1 c_15 (by decide)
        exact hJ32 H6 locs ls S x0 x1 x2 gS E hP hD hS (lv_sub hl [0, 1, 2, 3] rfl)
      · have r_x1 : zr 0 3 x1 := zlt_x r_x1 (show zr 4 4 4 from by decide) (znle c_15) (by decide)
        refine lv_iload_n hx hb dMO_learned_18 rfl (lv_at hl 3 rfl) ?_
        refine z_if_lt (tgt := 32) hx hb dMO_learned_19 (by decide) E (fun c_19 E => ?_) (fun c_19 E => ?_)
        · have r_x2 : zr (-2147483648) (-1) x2 := zlt_x (zr_any x2) (show zr 0 0 0 from by decide) c_19 (by decide)
          exact hJ32 H6 locs ls S x0 x1 x2 gS E hP hD hS (lv_sub hl [0, 1, 2, 3] rfl)
        · have r_x2 : zr 0 2147483647 x2 := zle_y (show zr 0 0 0 from by decide) (zr_any x2) (znlt c_19) (by decide)
          refine lv_iload_n hx hb dMO_learned_22 rfl (lv_at hl 3 rfl) ?_
          refine lv_bipush (v := 64) hx hb dMO_learned_23 (by decide) ?_
          refine z_icmp_ge (tgt := 32) hx hb dMO_learned_25 (by decide) E (fun c_25 E => ?_) (fun c_25 E => ?_)
          · have r_x2 : zr 64 2147483647 x2 := zle_y (show zr 64 64 64 from by decide) r_x2 c_25 (by decide)
            exact hJ32 H6 locs ls S x0 x1 x2 gS E hP hD hS (lv_sub hl [0, 1, 2, 3] rfl)
          · have r_x2 : zr 0 63 x2 := zlt_x r_x2 (show zr 64 64 64 from by decide) (znle c_25) (by decide)
            refine lv_iconst (v := 0) hx hb dMO_learned_28 (by decide) ?_
            refine lv_goto (tgt := 33) hx hb dMO_learned_29 (by decide) ?_
            exact hJ33 H6 locs ls S x0 x1 x2 0 (show zr 0 1 0 from by decide) gS (Or.inr r_x0) (Or.inr r_x1) (Or.inr r_x2) E hP hD hS (lv_sub hl [0, 1, 2, 3] rfl)
noncomputable def fMO_joined_99 (P : ZS) (rc59 : ZS → Int32 → Int32 → Int32 → (ZS × Int32)) (S_99 : ZS) (x99_1 : Int32) (x99_2 : Int32) (x99_3 : Int32) (y99_0 : Int32) : ZS × Int32 := zl (x99_3 + 1) (fun k1 => rc59 S_99 x99_1 x99_2 k1)
noncomputable def fMO_joined_98 (P : ZS) (rc59 : ZS → Int32 → Int32 → Int32 → (ZS × Int32)) (S_98 : ZS) (x98_1 : Int32) (x98_2 : Int32) (x98_3 : Int32) : ZS × Int32 := fMO_joined_99 P rc59 S_98 x98_1 x98_2 x98_3 0
noncomputable def fMO_joined_59 (P : ZS) (rc59 : ZS → Int32 → Int32 → Int32 → (ZS × Int32)) (S_59 : ZS) (x59_1 : Int32) (x59_2 : Int32) (x59_3 : Int32) : ZS × Int32 := zl (P.I 2) (fun k2 => (if k2 ≤ x59_3 then zl (S_59.F 33 (x59_1 : Int32).toNatClampNeg) (fun k3 => zl (S_59.F 33 (x59_2 : Int32).toNatClampNeg) (fun k4 => (if k3 = k4 then (S_59, 1) else (S_59, 0)))) else zl (fMO_isOpen P S_59 x59_3) (fun k6 => (if k6 = 0 then fMO_joined_98 P rc59 S_59 x59_1 x59_2 x59_3 else zl (P.F 0 (x59_3 : Int32).toNatClampNeg) (fun k7 => zl (P.F 1 (x59_3 : Int32).toNatClampNeg) (fun k8 => zl2 (fMO_join P S_59 k7 k8) (fun S11 k10 => (if k10 = 0 then fMO_joined_98 P rc59 S11 x59_1 x59_2 x59_3 else fMO_joined_99 P rc59 S11 x59_1 x59_2 x59_3 1))))))))
noncomputable def fMO_joined_36 (P : ZS) (rc36 : ZS → Int32 → Int32 → Int32 → (ZS × Int32)) (S_36 : ZS) (x36_1 : Int32) (x36_2 : Int32) (x36_3 : Int32) : ZS × Int32 := zl (P.I 1) (fun k13 => (if k13 ≤ x36_3 then zfix (fun S9 _ _ _ => (S9, 0)) (fMO_joined_59 P) 61 S_36 x36_1 x36_2 0 else zl (S_36.setF 33 (x36_3 : Int32).toNatClampNeg x36_3) (fun S14 => zl (x36_3 + 1) (fun k16 => rc36 S14 x36_1 x36_2 k16))))
noncomputable def fMO_joined_22 (P : ZS) (S_22 : ZS) (x22_1 : Int32) (x22_2 : Int32) (y22_0 : Int32) : ZS × Int32 := zl (S_22.setI 3 y22_0) (fun S17 => zl (S17.I 3) (fun k19 => (if y22_0 ≤ 0 then zfix (fun S9 _ _ _ => (S9, 0)) (fMO_joined_36 P) 49 S17 x22_1 x22_2 0 else (S17, 0))))
noncomputable def fMO_joined_21 (P : ZS) (S_21 : ZS) (x21_1 : Int32) (x21_2 : Int32) : ZS × Int32 := fMO_joined_22 P S_21 x21_1 x21_2 1
noncomputable def fMO_joined (P S : ZS) (x0 : Int32) (x1 : Int32) : ZS × Int32 := zl (fMO_isBridge P S x0) (fun k21 => (if k21 = 0 then fMO_joined_21 P S x0 x1 else zl (fMO_isBridge P S x1) (fun k23 => (if k23 = 0 then fMO_joined_21 P S x0 x1 else fMO_joined_22 P S x0 x1 0))))
set_option maxHeartbeats 4000000 in
set_option maxRecDepth 100000 in
theorem tMO_joined (l : Launch) (dC : Nat → ClassId) (dI : Nat → Nat → Nat) (cI cZ cJ cA : ClassId) (a0 : Array Value) (s0 : State) (o b : Nat → Nat) (P S : ZS) (sz : Nat) (x0 : Int32) (x1 : Int32) (gP : mok P) (gS : mok S) : Met l yMO_joined [Cond.code yMO_joined bMO_joined 5 (some .boolean)] ({ frames := 1, cells := 0, slots := 0, locals := 25 } : Room) (zP zCl dC dI (zTZ cI cZ cJ cA) a0 s0 [.ref (o 0), .int x0, .int x1] sz (MW cI cZ cA o b P S)) (zQH zCl dC dI (fun (r : Int32) (x9 : ZS) => (x9, r) = fMO_joined P S x0 x1 ∧ mok x9 ∧ zr 0 1 r) (fun x9 : ZS => (MW cI cZ cA o b P x9)) (va_A (MW cI cZ cA o b P S) sz)) 0 0 (va_A (MW cI cZ cA o b P S) sz) := by
  refine Met.ofW (cc := bMO_joined) (maxL := 5) (ret := (some .boolean)) (by decide) rfl ?_
  intro p e s m args below meth c s₁ B hml hv
  obtain ⟨rfl, hsz, hP, hK, hD0, hB⟩ := hv
  have hx := B.exec
  have hb := B.bytes
  have hr := B.returns
  have hown : s.vm.findClass "RingGuardModel" = some m.cls := findClass_of_methodNamed B.named
  have hlocks := B.notSynchronized
  subst hsz
  have hD := hD0.self (sz := s.heap.size)
  have hA0 := zA0 hD0 hB
  generalize hAe : va_A (MW cI cZ cA o b P S) s.heap.size = A at hD hA0 ⊢
  have hAD := hA0
  have hA : ∀ q : Nat, s.heap.size ≤ q → A q := fun q h => by rw [← hAe]; exact Or.inr h
  have hS : va_S A s.heap s.heap [] := va_S.rf
  have hl := lv_entry ([.ref (o 0), .int x0, .int x1]) (n := 5) (Nat.le_of_ble_eq_true rfl)
  rw [lg_entry_eq]
  generalize (lg_sl ([.ref (o 0), .int x0, .int x1]) ++ List.replicate (5 - (lg_sl ([.ref (o 0), .int x0, .int x1])).length) Slot.unset).toArray = ls at hl ⊢
  have hl : lv_has ls 5 [(0, .ref (o 0)), (1, .int x0), (2, .int x1)] := hl
  refine zgenQ (fun Q hQe => ?_)
  obtain ⟨tg, etg⟩ : ∃ z, z = fMO_joined P S x0 x1 := ⟨_, rfl⟩
  have E := etg
  unfold fMO_joined at E
  have hJ22 : ∀ (H : Heap) (locs : List Loc) (ls : Array Slot) (S_22 : ZS) (x22_1 : Int32) (x22_2 : Int32) (y22_0 : Int32), zr 0 1 y22_0 → mok S_22 → (y22_0 = 1 ∨ zr 0 47 (x22_1)) → (y22_0 = 1 ∨ zr 0 47 (x22_2)) → tg = fMO_joined_22 P S_22 x22_1 x22_2 y22_0 → va_P (dC, dI) zCl (MW cI cZ cA o b P S_22) H → va_D A (MW cI cZ cA o b P S_22) → va_S A s.heap H locs → lv_has ls 5 [(0, .ref (o 0)), (1, .int x22_1), (2, .int x22_2)] → W p l e ({ frames := 1, cells := 0, slots := 0, locals := 25 } : Room) s m ([.ref (o 0), .int x0, .int x1] : List Value).toArray below meth c H locs 0 0 Q (F0 m 22 ls [.int y22_0, .ref (o 0)]) := by
    intro H locs ls S_22 x22_1 x22_2 y22_0 r_y22_0 gS_22 cd22_0 cd22_1 E hP hD hS hl
    unfold fMO_joined_22 at E
    have hL36 : ∀ (n36 : Nat) (H : Heap) (locs : List Loc) (ls : Array Slot) (S_36 : ZS) (x36_1 : Int32) (x36_2 : Int32) (x36_3 : Int32), zr 0 47 x36_1 → zr 0 47 x36_2 → zr 0 48 x36_3 → mok S_36 → 48 + 1 - x36_3.toInt ≤ (n36 : Int) → tg = zfix (fun S9 _ _ _ => (S9, 0)) (fMO_joined_36 P) n36 S_36 x36_1 x36_2 x36_3 → va_P (dC, dI) zCl (MW cI cZ cA o b P S_36) H → va_D A (MW cI cZ cA o b P S_36) → va_S A s.heap H locs → lv_has ls 5 [(0, .ref (o 0)), (1, .int x36_1), (2, .int x36_2), (3, .int x36_3)] → W p l e ({ frames := 1, cells := 0, slots := 0, locals := 25 } : Room) s m ([.ref (o 0), .int x0, .int x1] : List Value).toArray below meth c H locs 0 0 Q (F0 m 36 ls []) := by
      intro n36
      induction n36 with
      | zero => intro H locs ls S_36 x36_1 x36_2 x36_3 r_x36_1 r_x36_2 r_x36_3 gS_36 hm36 E hP hD hS hl; exact absurd hm36 (zfuel0U r_x36_3)
      | succ n36 ih36 =>
        intro H locs ls S_36 x36_1 x36_2 x36_3 r_x36_1 r_x36_2 r_x36_3 gS_36 hm36 E hP hD hS hl
        rw [zfix_s] at E
        generalize zfix (fun S9 _ _ _ => (S9, 0)) (fMO_joined_36 P) n36 = rc36 at ih36 E
        unfold fMO_joined_36 at E
        have hL59 : ∀ (n59 : Nat) (H : Heap) (locs : List Loc) (ls : Array Slot) (S_59 : ZS) (x59_1 : Int32) (x59_2 : Int32) (x59_3 : Int32), zr 0 47 x59_1 → zr 0 47 x59_2 → zr 0 60 x59_3 → mok S_59 → 60 + 1 - x59_3.toInt ≤ (n59 : Int) → tg = zfix (fun S9 _ _ _ => (S9, 0)) (fMO_joined_59 P) n59 S_59 x59_1 x59_2 x59_3 → va_P (dC, dI) zCl (MW cI cZ cA o b P S_59) H → va_D A (MW cI cZ cA o b P S_59) → va_S A s.heap H locs → lv_has ls 5 [(0, .ref (o 0)), (1, .int x59_1), (2, .int x59_2), (3, .int x59_3)] → W p l e ({ frames := 1, cells := 0, slots := 0, locals := 25 } : Room) s m ([.ref (o 0), .int x0, .int x1] : List Value).toArray below meth c H locs 0 0 Q (F0 m 59 ls []) := by
          intro n59
          induction n59 with
          | zero => intro H locs ls S_59 x59_1 x59_2 x59_3 r_x59_1 r_x59_2 r_x59_3 gS_59 hm59 E hP hD hS hl; exact absurd hm59 (zfuel0U r_x59_3)
          | succ n59 ih59 =>
            intro H locs ls S_59 x59_1 x59_2 x59_3 r_x59_1 r_x59_2 r_x59_3 gS_59 hm59 E hP hD hS hl
            rw [zfix_s] at E
            generalize zfix (fun S9 _ _ _ => (S9, 0)) (fMO_joined_59 P) n59 = rc59 at ih59 E
            unfold fMO_joined_59 at E
            have hJ99 : ∀ (H : Heap) (locs : List Loc) (ls : Array Slot) (S_99 : ZS) (x99_1 : Int32) (x99_2 : Int32) (x99_3 : Int32) (y99_0 : Int32), zr 0 47 x99_1 → zr 0 47 x99_2 → zr 0 59 x99_3 → zr 0 1 y99_0 → mok S_99 → 60 + 1 - x99_3.toInt ≤ ((n59 + 1 : Nat) : Int) → tg = fMO_joined_99 P rc59 S_99 x99_1 x99_2 x99_3 y99_0 → va_P (dC, dI) zCl (MW cI cZ cA o b P S_99) H → va_D A (MW cI cZ cA o b P S_99) → va_S A s.heap H locs → lv_has ls 5 [(0, .ref (o 0)), (1, .int x99_1), (2, .int x99_2), (3, .int x99_3)] → W p l e ({ frames := 1, cells := 0, slots := 0, locals := 25 } : Room) s m ([.ref (o 0), .int x0, .int x1] : List Value).toArray below meth c H locs 0 0 Q (F0 m 99 ls [.int y99_0]) := by
              intro H locs ls S_99 x99_1 x99_2 x99_3 y99_0 r_x99_1 r_x99_2 r_x99_3 r_y99_0 gS_99 hm59_99 E hP hD hS hl
              unfold fMO_joined_99 at E
              refine lv_istore (lv' := [(4, .int y99_0), (0, .ref (o 0)), (1, .int x99_1), (2, .int x99_2), (3, .int x99_3)]) hx hb dMO_joined_99 hl (by decide) rfl (fun ls hl => ?_)
              refine z_iinc (lv' := fun v9 => [(3, .int v9), (4, .int y99_0), (0, .ref (o 0)), (1, .int x99_1), (2, .int x99_2)]) (cst := 1) hx hb dMO_joined_101 hl (k := 4) rfl (by decide) (by decide) (fun _ => rfl) E (fun k1 ls ek1 E hl => ?_)
              have r_k1 : zr 1 60 k1 := zr_add r_x99_3 (show zr 1 1 1 from by decide) ek1 (by decide)
              refine lv_goto (tgt := 59) hx hb dMO_joined_104 (by decide) ?_
              exact ih59 H locs ls S_99 x99_1 x99_2 k1 r_x99_1 r_x99_2 (zr_mono r_k1 (by decide)) gS_99 (zstepU ek1 r_x99_3 (by decide) hm59_99) E hP hD hS (lv_sub hl [2, 3, 4, 0] rfl)
            have hJ98 : ∀ (H : Heap) (locs : List Loc) (ls : Array Slot) (S_98 : ZS) (x98_1 : Int32) (x98_2 : Int32) (x98_3 : Int32), zr 0 47 x98_1 → zr 0 47 x98_2 → zr 0 59 x98_3 → mok S_98 → 60 + 1 - x98_3.toInt ≤ ((n59 + 1 : Nat) : Int) → tg = fMO_joined_98 P rc59 S_98 x98_1 x98_2 x98_3 → va_P (dC, dI) zCl (MW cI cZ cA o b P S_98) H → va_D A (MW cI cZ cA o b P S_98) → va_S A s.heap H locs → lv_has ls 5 [(0, .ref (o 0)), (1, .int x98_1), (2, .int x98_2), (3, .int x98_3)] → W p l e ({ frames := 1, cells := 0, slots := 0, locals := 25 } : Room) s m ([.ref (o 0), .int x0, .int x1] : List Value).toArray below meth c H locs 0 0 Q (F0 m 98 ls []) := by
              intro H locs ls S_98 x98_1 x98_2 x98_3 r_x98_1 r_x98_2 r_x98_3 gS_98 hm59_98 E hP hD hS hl
              unfold fMO_joined_98 at E
              refine lv_iconst (v := 0) hx hb dMO_joined_98 (by decide) ?_
              exact hJ99 H locs ls S_98 x98_1 x98_2 x98_3 0 r_x98_1 r_x98_2 r_x98_3 (show zr 0 1 0 from by decide) gS_98 hm59_98 E hP hD hS (lv_sub hl [0, 1, 2, 3] rfl)
            refine lv_iload_n hx hb dMO_joined_59 rfl (lv_at hl 3 rfl) ?_
            refine lv_aload_n hx hb dMO_joined_60 rfl (lv_at hl 0 rfl) ?_
            refine m_get_2 hx hb (hB.words zU_MO) hown hK hP (hB.word (zm4 k4_117) rfl) dMO_joined_61 E (fun k2 ek2 E => ?_)
            have r_k2 : zr 0 60 k2 := by rw [ek2]; exact gP.2.1 2
            refine z_icmp_ge (tgt := 107) hx hb dMO_joined_64 (by decide) E (fun c_64 E => ?_) (fun c_64 E => ?_)
            · refine lv_aload_n hx hb dMO_joined_107 rfl (lv_at hl 0 rfl) ?_
              refine m_getA_33 hx hb (hB.words zU_MO) hown hK hP (hB.word (zm4 k4_158) rfl) dMO_joined_108 ?_
              refine lv_iload_n hx hb dMO_joined_111 rfl (lv_at hl 1 rfl) ?_
              refine m_aldS hx hb hK hP 33 (by decide) rfl r_x59_1 (by decide) dMO_joined_112 E (fun k3 ek3 E => ?_)
              have r_k3 : zr 0 47 k3 := by rw [ek3]; exact gS_59.1 33 _
              refine lv_aload_n hx hb dMO_joined_113 rfl (lv_at hl 0 rfl) ?_
              refine m_getA_33 hx hb (hB.words zU_MO) hown hK hP (hB.word (zm4 k4_158) rfl) dMO_joined_114 ?_
              refine lv_iload_n hx hb dMO_joined_117 rfl (lv_at hl 2 rfl) ?_
              refine m_aldS hx hb hK hP 33 (by decide) rfl r_x59_2 (by decide) dMO_joined_118 E (fun k4 ek4 E => ?_)
              have r_k4 : zr 0 47 k4 := by rw [ek4]; exact gS_59.1 33 _
              refine z_icmp_ne (tgt := 126) hx hb dMO_joined_119 (by decide) E (fun c_119 E => ?_) (fun c_119 E => ?_)
              · refine lv_iconst (v := 0) hx hb dMO_joined_126 (by decide) ?_
                rw [hQe]
                exact W.zret (v := 0) (ty := .boolean) hx hb hr (znar (show zr 0 1 0 from by decide)) (fun t ht hW => ⟨⟨0, S_59, rfl, ⟨E.symm.trans etg, gS_59, (show zr 0 1 0 from by decide)⟩, by rw [ht]; exact hP, hD⟩, hS.F ht⟩) hS.2.2 dMO_joined_127
              · refine lv_iconst (v := 1) hx hb dMO_joined_122 (by decide) ?_
                refine lv_goto (tgt := 127) hx hb dMO_joined_123 (by decide) ?_
                rw [hQe]
                exact W.zret (v := 1) (ty := .boolean) hx hb hr (znar (show zr 0 1 1 from by decide)) (fun t ht hW => ⟨⟨1, S_59, rfl, ⟨E.symm.trans etg, gS_59, (show zr 0 1 1 from by decide)⟩, by rw [ht]; exact hP, hD⟩, hS.F ht⟩) hS.2.2 dMO_joined_127
            · have r_x59_3 : zr 0 59 x59_3 := zlt_x r_x59_3 r_k2 (znle c_64) (by decide)
              have r_k2 : zr 1 60 k2 := zlt_y r_x59_3 r_k2 (znle c_64) (by decide)
              refine lv_aload_n hx hb dMO_joined_67 rfl (lv_at hl 0 rfl) ?_
              refine lv_iload_n hx hb dMO_joined_68 rfl (lv_at hl 3 rfl) ?_
              refine zcallp (va_runV (As := [.int x59_3]) (rest := []) ⟨hx, hb, hml, hown, zno⟩ (tMO_isOpen l dC dI cI cZ cJ cA a0 s0 o b P S_59 H.size x59_3 gP gS_59 r_x59_3) (zcw 1 (hB.word (zm5 k5_147) rfl) (hB.word (zm1 k1_9) rfl) (hB.word (zm5 k5_144) rfl) (hB.word (zm5 k5_146) rfl) (k2_selects_private (by decide) (hB.word (zm4 k4_109) rfl) (hB.word (zm5 k5_145) rfl) (hB.word (zm5 k5_146) rfl)) rfl rfl (by decide +kernel) ⟨Nat.le_of_ble_eq_true rfl, Nat.le_of_ble_eq_true rfl⟩) ⟨zP_blind, va_recv hK hP (ci := 7) (q0 := 0) rfl rfl, zP_pre hP hK hD hAD (zB_on hB hA0 hS)⟩ rfl rfl hl.1 rfl (lv_room (Nat.le_of_ble_eq_true rfl)) dMO_joined_69 ⟨Nat.le_of_ble_eq_true rfl, Nat.le_of_ble_eq_true rfl⟩) hS hA (fun k6 H5 locs hk6 hz1 hk1 hS => ?_)
              have hP := zKeep hP hk1
              have E := zl_s E hk6.1
              refine z_if_eq (tgt := 98) hx hb dMO_joined_72 (by decide) E (fun c_72 E => ?_) (fun c_72 E => ?_)
              · have r_k6 : zr 0 0 k6 := zeq_x (show zr 0 0 0 from by decide) c_72
                exact hJ98 H5 locs ls S_59 x59_1 x59_2 x59_3 r_x59_1 r_x59_2 r_x59_3 gS_59 hm59 E hP hD hS (lv_sub hl [0, 1, 2, 3] rfl)
              · have r_k6 : zr 1 1 k6 := zne_lo hk6.2 c_72 (by decide)
                refine lv_aload_n hx hb dMO_joined_75 rfl (lv_at hl 0 rfl) ?_
                refine lv_aload_n hx hb dMO_joined_76 rfl (lv_at hl 0 rfl) ?_
                refine m_getA_0 hx hb (hB.words zU_MO) hown hK hP (hB.word (zm4 k4_118) rfl) dMO_joined_77 ?_
                refine lv_iload_n hx hb dMO_joined_80 rfl (lv_at hl 3 rfl) ?_
                refine m_aldP hx hb hK hP 0 (by decide) rfl r_x59_3 (by decide) dMO_joined_81 E (fun k7 ek7 E => ?_)
                have r_k7 : zr 0 47 k7 := by rw [ek7]; exact gP.1 0 _
                refine lv_aload_n hx hb dMO_joined_82 rfl (lv_at hl 0 rfl) ?_
                refine m_getA_1 hx hb (hB.words zU_MO) hown hK hP (hB.word (zm4 k4_119) rfl) dMO_joined_83 ?_
                refine lv_iload_n hx hb dMO_joined_86 rfl (lv_at hl 3 rfl) ?_
                refine m_aldP hx hb hK hP 1 (by decide) rfl r_x59_3 (by decide) dMO_joined_87 E (fun k8 ek8 E => ?_)
                have r_k8 : zr 0 47 k8 := by rw [ek8]; exact gP.1 1 _
                refine zcI (va_runV (As := [.int k7, .int k8]) (rest := []) ⟨hx, hb, hml, hown, zno⟩ (tMO_join l dC dI cI cZ cJ cA a0 s0 o b P S_59 H5.size k7 k8 gP gS_59 r_k7 r_k8) (zcw 2 (hB.word (zm5 k5_100) rfl) (hB.word (zm1 k1_9) rfl) (hB.word (zm5 k5_97) rfl) (hB.word (zm5 k5_99) rfl) (k2_selects_private (by decide) (hB.word (zm4 k4_109) rfl) (hB.word (zm5 k5_98) rfl) (hB.word (zm5 k5_99) rfl)) rfl rfl (by decide +kernel) ⟨Nat.le_of_ble_eq_true rfl, Nat.le_of_ble_eq_true rfl⟩) ⟨zP_blind, va_recv hK hP (ci := 7) (q0 := 0) rfl rfl, zP_pre hP hK hD hAD (zB_on hB hA0 hS)⟩ rfl rfl hl.1 rfl (lv_room (Nat.le_of_ble_eq_true rfl)) dMO_joined_88 ⟨Nat.le_of_ble_eq_true rfl, Nat.le_of_ble_eq_true rfl⟩) hD hS hA (fun k10 S11 H9 locs h12 hP hD hS => ?_)
                have E := zl2_s E h12.1
                have gS11 := h12.2.1
                refine z_if_eq (tgt := 98) hx hb dMO_joined_91 (by decide) E (fun c_91 E => ?_) (fun c_91 E => ?_)
                · have r_k10 : zr 0 0 k10 := zeq_x (show zr 0 0 0 from by decide) c_91
                  exact hJ98 H9 locs ls S11 x59_1 x59_2 x59_3 r_x59_1 r_x59_2 r_x59_3 gS11 hm59 E hP hD hS (lv_sub hl [0, 1, 2, 3] rfl)
                · have r_k10 : zr 1 1 k10 := zne_lo h12.2.2 c_91 (by decide)
                  refine lv_iconst (v := 1) hx hb dMO_joined_94 (by decide) ?_
                  refine lv_goto (tgt := 99) hx hb dMO_joined_95 (by decide) ?_
                  exact hJ99 H9 locs ls S11 x59_1 x59_2 x59_3 1 r_x59_1 r_x59_2 r_x59_3 (show zr 0 1 1 from by decide) gS11 hm59 E hP hD hS (lv_sub hl [0, 1, 2, 3] rfl)
        refine lv_iload_n hx hb dMO_joined_36 rfl (lv_at hl 3 rfl) ?_
        refine lv_aload_n hx hb dMO_joined_37 rfl (lv_at hl 0 rfl) ?_
        refine m_get_1 hx hb (hB.words zU_MO) hown hK hP (hB.word (zm4 k4_116) rfl) dMO_joined_38 E (fun k13 ek13 E => ?_)
        have r_k13 : zr 0 48 k13 := by rw [ek13]; exact gP.2.1 1
        refine z_icmp_ge (tgt := 57) hx hb dMO_joined_41 (by decide) E (fun c_41 E => ?_) (fun c_41 E => ?_)
        · refine lv_iconst (v := 0) hx hb dMO_joined_57 (by decide) ?_
          refine lv_istore_n (lv' := [(3, .int 0), (0, .ref (o 0)), (1, .int x36_1), (2, .int x36_2)]) hx hb dMO_joined_58 rfl hl (by decide) rfl (fun ls hl => ?_)
          exact hL59 61 H locs ls S_36 x36_1 x36_2 0 r_x36_1 r_x36_2 (show zr 0 60 0 from by decide) gS_36 (by have h9 := (show zr 0 0 0 from by decide); exact zfuelU h9 (by decide)) E hP hD hS (lv_sub hl [1, 2, 3, 0] rfl)
        · have r_x36_3 : zr 0 47 x36_3 := zlt_x r_x36_3 r_k13 (znle c_41) (by decide)
          have r_k13 : zr 1 48 k13 := zlt_y r_x36_3 r_k13 (znle c_41) (by decide)
          refine lv_aload_n hx hb dMO_joined_44 rfl (lv_at hl 0 rfl) ?_
          refine m_getA_33 hx hb (hB.words zU_MO) hown hK hP (hB.word (zm4 k4_158) rfl) dMO_joined_45 ?_
          refine lv_iload_n hx hb dMO_joined_48 rfl (lv_at hl 3 rfl) ?_
          refine lv_iload_n hx hb dMO_joined_49 rfl (lv_at hl 3 rfl) ?_
          refine m_astS hx hb hK hP hD hS 33 (by decide) rfl r_x36_3 (by decide) dMO_joined_50 E (fun S14 H15 locs eS14 E hP hD hS => ?_)
          have gS14 : mok S14 := by rw [eS14]; exact gS_36.setF (k := 33) r_x36_3 (Or.inl (by decide))
          refine z_iinc (lv' := fun v9 => [(3, .int v9), (0, .ref (o 0)), (1, .int x36_1), (2, .int x36_2)]) (cst := 1) hx hb dMO_joined_51 hl (k := 3) rfl (by decide) (by decide) (fun _ => rfl) E (fun k16 ls ek16 E hl => ?_)
          have r_k16 : zr 1 48 k16 := zr_add r_x36_3 (show zr 1 1 1 from by decide) ek16 (by decide)
          refine lv_goto (tgt := 36) hx hb dMO_joined_54 (by decide) ?_
          exact ih36 H15 locs ls S14 x36_1 x36_2 k16 r_x36_1 r_x36_2 (zr_mono r_k16 (by decide)) gS14 (zstepU ek16 r_x36_3 (by decide) hm36) E hP hD hS (lv_sub hl [1, 2, 3, 0] rfl)
    refine m_put_3 hx hb (hB.words zU_MO) hown hK hP hD hS (hB.word (zm4 k4_114) rfl) dMO_joined_22 E (fun S17 H18 locs eS17 E hP hD hS => ?_)
    have gS17 : mok S17 := by rw [eS17]; exact gS_22.setI (t := 3) (zr_mono r_y22_0 (by decide))
    refine lv_aload_n hx hb dMO_joined_25 rfl (lv_at hl 0 rfl) ?_
    refine m_get_3 hx hb (hB.words zU_MO) hown hK hP (hB.word (zm4 k4_114) rfl) dMO_joined_26 E (fun k19 ek19 E => ?_)
    have x9 : y22_0 = k19 := by rw [ek19, eS17]; rfl
    subst x9
    refine z_if_le (tgt := 34) hx hb dMO_joined_29 (by decide) E (fun c_29 E => ?_) (fun c_29 E => ?_)
    · have r_y22_0 : zr 0 0 y22_0 := zle_x r_y22_0 (show zr 0 0 0 from by decide) c_29 (by decide)
      have r_x22_1 : zr 0 47 x22_1 := (cd22_0).resolve_left (zrne r_y22_0 (by decide))
      have r_x22_2 : zr 0 47 x22_2 := (cd22_1).resolve_left (zrne r_y22_0 (by decide))
      refine lv_iconst (v := 0) hx hb dMO_joined_34 (by decide) ?_
      refine lv_istore_n (lv' := [(3, .int 0), (0, .ref (o 0)), (1, .int x22_1), (2, .int x22_2)]) hx hb dMO_joined_35 rfl hl (by decide) rfl (fun ls hl => ?_)
      exact hL36 49 H18 locs ls S17 x22_1 x22_2 0 r_x22_1 r_x22_2 (show zr 0 48 0 from by decide) gS17 (by have h9 := (show zr 0 0 0 from by decide); exact zfuelU h9 (by decide)) E hP hD hS (lv_sub hl [1, 2, 3, 0] rfl)
    · have r_y22_0 : zr 1 1 y22_0 := zlt_y (show zr 0 0 0 from by decide) r_y22_0 (znle c_29) (by decide)
      refine lv_iconst (v := 0) hx hb dMO_joined_32 (by decide) ?_
      rw [hQe]
      exact W.zret (v := 0) (ty := .boolean) hx hb hr (znar (show zr 0 1 0 from by decide)) (fun t ht hW => ⟨⟨0, S17, rfl, ⟨E.symm.trans etg, gS17, (show zr 0 1 0 from by decide)⟩, by rw [ht]; exact hP, hD⟩, hS.F ht⟩) hS.2.2 dMO_joined_33
  have hJ21 : ∀ (H : Heap) (locs : List Loc) (ls : Array Slot) (S_21 : ZS) (x21_1 : Int32) (x21_2 : Int32), mok S_21 → tg = fMO_joined_21 P S_21 x21_1 x21_2 → va_P (dC, dI) zCl (MW cI cZ cA o b P S_21) H → va_D A (MW cI cZ cA o b P S_21) → va_S A s.heap H locs → lv_has ls 5 [(0, .ref (o 0)), (1, .int x21_1), (2, .int x21_2)] → W p l e ({ frames := 1, cells := 0, slots := 0, locals := 25 } : Room) s m ([.ref (o 0), .int x0, .int x1] : List Value).toArray below meth c H locs 0 0 Q (F0 m 21 ls [.ref (o 0)]) := by
    intro H locs ls S_21 x21_1 x21_2 gS_21 E hP hD hS hl
    unfold fMO_joined_21 at E
    refine lv_iconst (v := 1) hx hb dMO_joined_21 (by decide) ?_
    exact hJ22 H locs ls S_21 x21_1 x21_2 1 (show zr 0 1 1 from by decide) gS_21 (Or.inl rfl) (Or.inl rfl) E hP hD hS (lv_sub hl [0, 1, 2] rfl)
  refine lv_aload_n hx hb dMO_joined_0 rfl (lv_at hl 0 rfl) ?_
  refine lv_aload_n hx hb dMO_joined_1 rfl (lv_at hl 0 rfl) ?_
  refine lv_iload_n hx hb dMO_joined_2 rfl (lv_at hl 1 rfl) ?_
  refine zcallp (va_runV (As := [.int x0]) (rest := [.ref (o 0)]) ⟨hx, hb, hml, hown, zno⟩ (tMO_isBridge l dC dI cI cZ cJ cA a0 s0 o b P S s.heap.size x0 gP gS) (zcw 1 (hB.word (zm5 k5_49) rfl) (hB.word (zm1 k1_9) rfl) (hB.word (zm5 k5_46) rfl) (hB.word (zm5 k5_48) rfl) (k2_selects_private (by decide) (hB.word (zm4 k4_109) rfl) (hB.word (zm5 k5_47) rfl) (hB.word (zm5 k5_48) rfl)) rfl rfl (by decide +kernel) ⟨Nat.le_of_ble_eq_true rfl, Nat.le_of_ble_eq_true rfl⟩) ⟨zP_blind, va_recv hK hP (ci := 7) (q0 := 0) rfl rfl, zP_pre hP hK hD hAD (zB_on hB hA0 hS)⟩ rfl rfl hl.1 rfl (lv_room (Nat.le_of_ble_eq_true rfl)) dMO_joined_3 ⟨Nat.le_of_ble_eq_true rfl, Nat.le_of_ble_eq_true rfl⟩) hS hA (fun k21 H20 locs hk21 hz1 hk1 hS => ?_)
  have hP := zKeep hP hk1
  have E := zl_s E hk21.1
  refine z_if_eq (tgt := 21) hx hb dMO_joined_6 (by decide) E (fun c_6 E => ?_) (fun c_6 E => ?_)
  · have r_k21 : zr 0 0 k21 := zeq_x (show zr 0 0 0 from by decide) c_6
    exact hJ21 H20 locs ls S x0 x1 gS E hP hD hS (lv_sub hl [0, 1, 2] rfl)
  · have r_k21 : zr 1 1 k21 := zne_lo hk21.2 c_6 (by decide)
    have r_x0 : zr 0 47 x0 := ((zc_isBridge gP hk21.1)).resolve_left (zrne r_k21 (by decide))
    refine lv_aload_n hx hb dMO_joined_9 rfl (lv_at hl 0 rfl) ?_
    refine lv_iload_n hx hb dMO_joined_10 rfl (lv_at hl 2 rfl) ?_
    refine zcallp (va_runV (As := [.int x1]) (rest := [.ref (o 0)]) ⟨hx, hb, hml, hown, zno⟩ (tMO_isBridge l dC dI cI cZ cJ cA a0 s0 o b P S H20.size x1 gP gS) (zcw 1 (hB.word (zm5 k5_49) rfl) (hB.word (zm1 k1_9) rfl) (hB.word (zm5 k5_46) rfl) (hB.word (zm5 k5_48) rfl) (k2_selects_private (by decide) (hB.word (zm4 k4_109) rfl) (hB.word (zm5 k5_47) rfl) (hB.word (zm5 k5_48) rfl)) rfl rfl (by decide +kernel) ⟨Nat.le_of_ble_eq_true rfl, Nat.le_of_ble_eq_true rfl⟩) ⟨zP_blind, va_recv hK hP (ci := 7) (q0 := 0) rfl rfl, zP_pre hP hK hD hAD (zB_on hB hA0 hS)⟩ rfl rfl hl.1 rfl (lv_room (Nat.le_of_ble_eq_true rfl)) dMO_joined_11 ⟨Nat.le_of_ble_eq_true rfl, Nat.le_of_ble_eq_true rfl⟩) hS hA (fun k23 H22 locs hk23 hz1 hk1 hS => ?_)
    have hP := zKeep hP hk1
    have E := zl_s E hk23.1
    refine z_if_eq (tgt := 21) hx hb dMO_joined_14 (by decide) E (fun c_14 E => ?_) (fun c_14 E => ?_)
    · have r_k23 : zr 0 0 k23 := zeq_x (show zr 0 0 0 from by decide) c_14
      exact hJ21 H22 locs ls S x0 x1 gS E hP hD hS (lv_sub hl [0, 1, 2] rfl)
    · have r_k23 : zr 1 1 k23 := zne_lo hk23.2 c_14 (by decide)
      have r_x1 : zr 0 47 x1 := ((zc_isBridge gP hk23.1)).resolve_left (zrne r_k23 (by decide))
      refine lv_iconst (v := 0) hx hb dMO_joined_17 (by decide) ?_
      refine lv_goto (tgt := 22) hx hb dMO_joined_18 (by decide) ?_
      exact hJ22 H22 locs ls S x0 x1 0 (show zr 0 1 0 from by decide) gS (Or.inr r_x0) (Or.inr r_x1) E hP hD hS (lv_sub hl [0, 1, 2] rfl)
noncomputable def fMO_casts_9 (P : ZS) (rc9 : ZS → Int32 → Int32 → (ZS × Int32)) (S_9 : ZS) (x9_1 : Int32) (x9_2 : Int32) : ZS × Int32 := (if 120 ≤ x9_2 then (S_9, x9_1) else zl (S_9.F 23 (x9_2 : Int32).toNatClampNeg) (fun k1 => zl (x9_1 + k1) (fun k2 => zl (x9_2 + 1) (fun k3 => rc9 S_9 k2 k3))))
noncomputable def fMO_casts (P S : ZS) : ZS × Int32 := zl (S.setI 3 0) (fun S4 => zfix (fun S9 _ _ => (S9, 0)) (fMO_casts_9 P) 121 S4 0 0)
set_option maxHeartbeats 4000000 in
set_option maxRecDepth 100000 in
theorem tMO_casts (l : Launch) (dC : Nat → ClassId) (dI : Nat → Nat → Nat) (cI cZ cJ cA : ClassId) (a0 : Array Value) (s0 : State) (o b : Nat → Nat) (P S : ZS) (sz : Nat) (gP : mok P) (gS : mok S) : Met l yMO_casts [Cond.code yMO_casts bMO_casts 3 (some .int)] ({ frames := 0, cells := 0, slots := 0, locals := 0 } : Room) (zP zCl dC dI (zTZ cI cZ cJ cA) a0 s0 [.ref (o 0)] sz (MW cI cZ cA o b P S)) (zQH zCl dC dI (fun (r : Int32) (x9 : ZS) => (x9, r) = fMO_casts P S  ∧ mok x9 ∧ True) (fun x9 : ZS => (MW cI cZ cA o b P x9)) (va_A (MW cI cZ cA o b P S) sz)) 0 0 (va_A (MW cI cZ cA o b P S) sz) := by
  refine Met.ofW (cc := bMO_casts) (maxL := 3) (ret := (some .int)) (by decide) rfl ?_
  intro p e s m args below meth c s₁ B hml hv
  obtain ⟨rfl, hsz, hP, hK, hD0, hB⟩ := hv
  have hx := B.exec
  have hb := B.bytes
  have hr := B.returns
  have hown : s.vm.findClass "RingGuardModel" = some m.cls := findClass_of_methodNamed B.named
  have hlocks := B.notSynchronized
  subst hsz
  have hD := hD0.self (sz := s.heap.size)
  have hA0 := zA0 hD0 hB
  generalize hAe : va_A (MW cI cZ cA o b P S) s.heap.size = A at hD hA0 ⊢
  have hAD := hA0
  have hA : ∀ q : Nat, s.heap.size ≤ q → A q := fun q h => by rw [← hAe]; exact Or.inr h
  have hS : va_S A s.heap s.heap [] := va_S.rf
  have hl := lv_entry ([.ref (o 0)]) (n := 3) (Nat.le_of_ble_eq_true rfl)
  rw [lg_entry_eq]
  generalize (lg_sl ([.ref (o 0)]) ++ List.replicate (3 - (lg_sl ([.ref (o 0)])).length) Slot.unset).toArray = ls at hl ⊢
  have hl : lv_has ls 3 [(0, .ref (o 0))] := hl
  refine zgenQ (fun Q hQe => ?_)
  obtain ⟨tg, etg⟩ : ∃ z, z = fMO_casts P S  := ⟨_, rfl⟩
  have E := etg
  unfold fMO_casts at E
  have hL9 : ∀ (n9 : Nat) (H : Heap) (locs : List Loc) (ls : Array Slot) (S_9 : ZS) (x9_1 : Int32) (x9_2 : Int32), zr 0 120 x9_2 → mok S_9 → 120 + 1 - x9_2.toInt ≤ (n9 : Int) → tg = zfix (fun S9 _ _ => (S9, 0)) (fMO_casts_9 P) n9 S_9 x9_1 x9_2 → va_P (dC, dI) zCl (MW cI cZ cA o b P S_9) H → va_D A (MW cI cZ cA o b P S_9) → va_S A s.heap H locs → lv_has ls 3 [(0, .ref (o 0)), (1, .int x9_1), (2, .int x9_2)] → W p l e ({ frames := 0, cells := 0, slots := 0, locals := 0 } : Room) s m ([.ref (o 0)] : List Value).toArray below meth c H locs 0 0 Q (F0 m 9 ls []) := by
    intro n9
    induction n9 with
    | zero => intro H locs ls S_9 x9_1 x9_2 r_x9_2 gS_9 hm9 E hP hD hS hl; exact absurd hm9 (zfuel0U r_x9_2)
    | succ n9 ih9 =>
      intro H locs ls S_9 x9_1 x9_2 r_x9_2 gS_9 hm9 E hP hD hS hl
      rw [zfix_s] at E
      generalize zfix (fun S9 _ _ => (S9, 0)) (fMO_casts_9 P) n9 = rc9 at ih9 E
      unfold fMO_casts_9 at E
      refine lv_iload_n hx hb dMO_casts_9 rfl (lv_at hl 2 rfl) ?_
      refine lv_bipush (v := 120) hx hb dMO_casts_10 (by decide) ?_
      refine z_icmp_ge (tgt := 30) hx hb dMO_casts_12 (by decide) E (fun c_12 E => ?_) (fun c_12 E => ?_)
      · have r_x9_2 : zr 120 120 x9_2 := zle_y (show zr 120 120 120 from by decide) r_x9_2 c_12 (by decide)
        refine lv_iload_n hx hb dMO_casts_30 rfl (lv_at hl 1 rfl) ?_
        rw [hQe]
        exact W.iret (v := x9_1) hx hb hr (fun t ht hW => ⟨⟨x9_1, S_9, rfl, ⟨E.symm.trans etg, gS_9, trivial⟩, by rw [ht]; exact hP, hD⟩, hS.F ht⟩) hS.2.2 dMO_casts_31
      · have r_x9_2 : zr 0 119 x9_2 := zlt_x r_x9_2 (show zr 120 120 120 from by decide) (znle c_12) (by decide)
        refine lv_iload_n hx hb dMO_casts_15 rfl (lv_at hl 1 rfl) ?_
        refine lv_aload_n hx hb dMO_casts_16 rfl (lv_at hl 0 rfl) ?_
        refine m_getA_23 hx hb (hB.words zU_MO) hown hK hP (hB.word (zm4 k4_141) rfl) dMO_casts_17 ?_
        refine lv_iload_n hx hb dMO_casts_20 rfl (lv_at hl 2 rfl) ?_
        refine m_aldS hx hb hK hP 23 (by decide) rfl r_x9_2 (by decide) dMO_casts_21 E (fun k1 ek1 E => ?_)
        have r_k1 : zr 0 64 k1 := by rw [ek1]; exact gS_9.1 23 _
        refine z_iadd hx hb dMO_casts_22 E (fun k2 ek2 E => ?_)
        refine lv_istore_n (lv' := [(1, .int k2), (0, .ref (o 0)), (2, .int x9_2)]) hx hb dMO_casts_23 rfl hl (by decide) rfl (fun ls hl => ?_)
        refine z_iinc (lv' := fun v9 => [(2, .int v9), (1, .int k2), (0, .ref (o 0))]) (cst := 1) hx hb dMO_casts_24 hl (k := 2) rfl (by decide) (by decide) (fun _ => rfl) E (fun k3 ls ek3 E hl => ?_)
        have r_k3 : zr 1 120 k3 := zr_add r_x9_2 (show zr 1 1 1 from by decide) ek3 (by decide)
        refine lv_goto (tgt := 9) hx hb dMO_casts_27 (by decide) ?_
        exact ih9 H locs ls S_9 k2 k3 (zr_mono r_k3 (by decide)) gS_9 (zstepU ek3 r_x9_2 (by decide) hm9) E hP hD hS (lv_sub hl [2, 1, 0] rfl)
  refine lv_aload_n hx hb dMO_casts_0 rfl (lv_at hl 0 rfl) ?_
  refine lv_iconst (v := 0) hx hb dMO_casts_1 (by decide) ?_
  refine m_put_3 hx hb (hB.words zU_MO) hown hK hP hD hS (hB.word (zm4 k4_114) rfl) dMO_casts_2 E (fun S4 H5 locs eS4 E hP hD hS => ?_)
  have gS4 : mok S4 := by rw [eS4]; exact gS.setI (t := 3) (show zr 0 2 0 from by decide)
  refine lv_iconst (v := 0) hx hb dMO_casts_5 (by decide) ?_
  refine lv_istore_n (lv' := [(1, .int 0), (0, .ref (o 0))]) hx hb dMO_casts_6 rfl hl (by decide) rfl (fun ls hl => ?_)
  refine lv_iconst (v := 0) hx hb dMO_casts_7 (by decide) ?_
  refine lv_istore_n (lv' := [(2, .int 0), (1, .int 0), (0, .ref (o 0))]) hx hb dMO_casts_8 rfl hl (by decide) rfl (fun ls hl => ?_)
  exact hL9 121 H5 locs ls S4 0 0 (show zr 0 120 0 from by decide) gS4 (by have h9 := (show zr 0 0 0 from by decide); exact zfuelU h9 (by decide)) E hP hD hS (lv_sub hl [2, 1, 0] rfl)
noncomputable def fMO_lost (P S : ZS) : ZS × Int32 := zl (S.setI 3 0) (fun S1 => zl (S1.I 5) (fun k3 => (S1, k3)))
set_option maxHeartbeats 4000000 in
set_option maxRecDepth 100000 in
theorem tMO_lost (l : Launch) (dC : Nat → ClassId) (dI : Nat → Nat → Nat) (cI cZ cJ cA : ClassId) (a0 : Array Value) (s0 : State) (o b : Nat → Nat) (P S : ZS) (sz : Nat) (gP : mok P) (gS : mok S) : Met l yMO_lost [Cond.code yMO_lost bMO_lost 1 (some .int)] ({ frames := 0, cells := 0, slots := 0, locals := 0 } : Room) (zP zCl dC dI (zTZ cI cZ cJ cA) a0 s0 [.ref (o 0)] sz (MW cI cZ cA o b P S)) (zQH zCl dC dI (fun (r : Int32) (x9 : ZS) => (x9, r) = fMO_lost P S  ∧ mok x9 ∧ True) (fun x9 : ZS => (MW cI cZ cA o b P x9)) (va_A (MW cI cZ cA o b P S) sz)) 0 0 (va_A (MW cI cZ cA o b P S) sz) := by
  refine Met.ofW (cc := bMO_lost) (maxL := 1) (ret := (some .int)) (by decide) rfl ?_
  intro p e s m args below meth c s₁ B hml hv
  obtain ⟨rfl, hsz, hP, hK, hD0, hB⟩ := hv
  have hx := B.exec
  have hb := B.bytes
  have hr := B.returns
  have hown : s.vm.findClass "RingGuardModel" = some m.cls := findClass_of_methodNamed B.named
  have hlocks := B.notSynchronized
  subst hsz
  have hD := hD0.self (sz := s.heap.size)
  have hA0 := zA0 hD0 hB
  generalize hAe : va_A (MW cI cZ cA o b P S) s.heap.size = A at hD hA0 ⊢
  have hAD := hA0
  have hA : ∀ q : Nat, s.heap.size ≤ q → A q := fun q h => by rw [← hAe]; exact Or.inr h
  have hS : va_S A s.heap s.heap [] := va_S.rf
  have hl := lv_entry ([.ref (o 0)]) (n := 1) (Nat.le_of_ble_eq_true rfl)
  rw [lg_entry_eq]
  generalize (lg_sl ([.ref (o 0)]) ++ List.replicate (1 - (lg_sl ([.ref (o 0)])).length) Slot.unset).toArray = ls at hl ⊢
  have hl : lv_has ls 1 [(0, .ref (o 0))] := hl
  refine zgenQ (fun Q hQe => ?_)
  obtain ⟨tg, etg⟩ : ∃ z, z = fMO_lost P S  := ⟨_, rfl⟩
  have E := etg
  unfold fMO_lost at E
  refine lv_aload_n hx hb dMO_lost_0 rfl (lv_at hl 0 rfl) ?_
  refine lv_iconst (v := 0) hx hb dMO_lost_1 (by decide) ?_
  refine m_put_3 hx hb (hB.words zU_MO) hown hK hP hD hS (hB.word (zm4 k4_114) rfl) dMO_lost_2 E (fun S1 H2 locs eS1 E hP hD hS => ?_)
  have gS1 : mok S1 := by rw [eS1]; exact gS.setI (t := 3) (show zr 0 2 0 from by decide)
  refine lv_aload_n hx hb dMO_lost_5 rfl (lv_at hl 0 rfl) ?_
  refine m_get_5 hx hb (hB.words zU_MO) hown hK hP (hB.word (zm4 k4_152) rfl) dMO_lost_6 E (fun k3 ek3 E => ?_)
  rw [hQe]
  exact W.iret (v := k3) hx hb hr (fun t ht hW => ⟨⟨k3, S1, rfl, ⟨E.symm.trans etg, gS1, trivial⟩, by rw [ht]; exact hP, hD⟩, hS.F ht⟩) hS.2.2 dMO_lost_9
noncomputable def fMO_circles (P S : ZS) : ZS × Int32 := zl (S.setI 3 0) (fun S1 => zl (S1.I 9) (fun k3 => (S1, k3)))
set_option maxHeartbeats 4000000 in
set_option maxRecDepth 100000 in
theorem tMO_circles (l : Launch) (dC : Nat → ClassId) (dI : Nat → Nat → Nat) (cI cZ cJ cA : ClassId) (a0 : Array Value) (s0 : State) (o b : Nat → Nat) (P S : ZS) (sz : Nat) (gP : mok P) (gS : mok S) : Met l yMO_circles [Cond.code yMO_circles bMO_circles 1 (some .int)] ({ frames := 0, cells := 0, slots := 0, locals := 0 } : Room) (zP zCl dC dI (zTZ cI cZ cJ cA) a0 s0 [.ref (o 0)] sz (MW cI cZ cA o b P S)) (zQH zCl dC dI (fun (r : Int32) (x9 : ZS) => (x9, r) = fMO_circles P S  ∧ mok x9 ∧ True) (fun x9 : ZS => (MW cI cZ cA o b P x9)) (va_A (MW cI cZ cA o b P S) sz)) 0 0 (va_A (MW cI cZ cA o b P S) sz) := by
  refine Met.ofW (cc := bMO_circles) (maxL := 1) (ret := (some .int)) (by decide) rfl ?_
  intro p e s m args below meth c s₁ B hml hv
  obtain ⟨rfl, hsz, hP, hK, hD0, hB⟩ := hv
  have hx := B.exec
  have hb := B.bytes
  have hr := B.returns
  have hown : s.vm.findClass "RingGuardModel" = some m.cls := findClass_of_methodNamed B.named
  have hlocks := B.notSynchronized
  subst hsz
  have hD := hD0.self (sz := s.heap.size)
  have hA0 := zA0 hD0 hB
  generalize hAe : va_A (MW cI cZ cA o b P S) s.heap.size = A at hD hA0 ⊢
  have hAD := hA0
  have hA : ∀ q : Nat, s.heap.size ≤ q → A q := fun q h => by rw [← hAe]; exact Or.inr h
  have hS : va_S A s.heap s.heap [] := va_S.rf
  have hl := lv_entry ([.ref (o 0)]) (n := 1) (Nat.le_of_ble_eq_true rfl)
  rw [lg_entry_eq]
  generalize (lg_sl ([.ref (o 0)]) ++ List.replicate (1 - (lg_sl ([.ref (o 0)])).length) Slot.unset).toArray = ls at hl ⊢
  have hl : lv_has ls 1 [(0, .ref (o 0))] := hl
  refine zgenQ (fun Q hQe => ?_)
  obtain ⟨tg, etg⟩ : ∃ z, z = fMO_circles P S  := ⟨_, rfl⟩
  have E := etg
  unfold fMO_circles at E
  refine lv_aload_n hx hb dMO_circles_0 rfl (lv_at hl 0 rfl) ?_
  refine lv_iconst (v := 0) hx hb dMO_circles_1 (by decide) ?_
  refine m_put_3 hx hb (hB.words zU_MO) hown hK hP hD hS (hB.word (zm4 k4_114) rfl) dMO_circles_2 E (fun S1 H2 locs eS1 E hP hD hS => ?_)
  have gS1 : mok S1 := by rw [eS1]; exact gS.setI (t := 3) (show zr 0 2 0 from by decide)
  refine lv_aload_n hx hb dMO_circles_5 rfl (lv_at hl 0 rfl) ?_
  refine m_get_9 hx hb (hB.words zU_MO) hown hK hP (hB.word (zm4 k4_156) rfl) dMO_circles_6 E (fun k3 ek3 E => ?_)
  rw [hQe]
  exact W.iret (v := k3) hx hb hr (fun t ht hW => ⟨⟨k3, S1, rfl, ⟨E.symm.trans etg, gS1, trivial⟩, by rw [ht]; exact hP, hD⟩, hS.F ht⟩) hS.2.2 dMO_circles_9
noncomputable def fMO_apart (P S : ZS) : ZS × Int32 := zl (S.setI 3 0) (fun S1 => zl (S1.I 10) (fun k3 => (S1, k3)))
set_option maxHeartbeats 4000000 in
set_option maxRecDepth 100000 in
theorem tMO_apart (l : Launch) (dC : Nat → ClassId) (dI : Nat → Nat → Nat) (cI cZ cJ cA : ClassId) (a0 : Array Value) (s0 : State) (o b : Nat → Nat) (P S : ZS) (sz : Nat) (gP : mok P) (gS : mok S) : Met l yMO_apart [Cond.code yMO_apart bMO_apart 1 (some .int)] ({ frames := 0, cells := 0, slots := 0, locals := 0 } : Room) (zP zCl dC dI (zTZ cI cZ cJ cA) a0 s0 [.ref (o 0)] sz (MW cI cZ cA o b P S)) (zQH zCl dC dI (fun (r : Int32) (x9 : ZS) => (x9, r) = fMO_apart P S  ∧ mok x9 ∧ True) (fun x9 : ZS => (MW cI cZ cA o b P x9)) (va_A (MW cI cZ cA o b P S) sz)) 0 0 (va_A (MW cI cZ cA o b P S) sz) := by
  refine Met.ofW (cc := bMO_apart) (maxL := 1) (ret := (some .int)) (by decide) rfl ?_
  intro p e s m args below meth c s₁ B hml hv
  obtain ⟨rfl, hsz, hP, hK, hD0, hB⟩ := hv
  have hx := B.exec
  have hb := B.bytes
  have hr := B.returns
  have hown : s.vm.findClass "RingGuardModel" = some m.cls := findClass_of_methodNamed B.named
  have hlocks := B.notSynchronized
  subst hsz
  have hD := hD0.self (sz := s.heap.size)
  have hA0 := zA0 hD0 hB
  generalize hAe : va_A (MW cI cZ cA o b P S) s.heap.size = A at hD hA0 ⊢
  have hAD := hA0
  have hA : ∀ q : Nat, s.heap.size ≤ q → A q := fun q h => by rw [← hAe]; exact Or.inr h
  have hS : va_S A s.heap s.heap [] := va_S.rf
  have hl := lv_entry ([.ref (o 0)]) (n := 1) (Nat.le_of_ble_eq_true rfl)
  rw [lg_entry_eq]
  generalize (lg_sl ([.ref (o 0)]) ++ List.replicate (1 - (lg_sl ([.ref (o 0)])).length) Slot.unset).toArray = ls at hl ⊢
  have hl : lv_has ls 1 [(0, .ref (o 0))] := hl
  refine zgenQ (fun Q hQe => ?_)
  obtain ⟨tg, etg⟩ : ∃ z, z = fMO_apart P S  := ⟨_, rfl⟩
  have E := etg
  unfold fMO_apart at E
  refine lv_aload_n hx hb dMO_apart_0 rfl (lv_at hl 0 rfl) ?_
  refine lv_iconst (v := 0) hx hb dMO_apart_1 (by decide) ?_
  refine m_put_3 hx hb (hB.words zU_MO) hown hK hP hD hS (hB.word (zm4 k4_114) rfl) dMO_apart_2 E (fun S1 H2 locs eS1 E hP hD hS => ?_)
  have gS1 : mok S1 := by rw [eS1]; exact gS.setI (t := 3) (show zr 0 2 0 from by decide)
  refine lv_aload_n hx hb dMO_apart_5 rfl (lv_at hl 0 rfl) ?_
  refine m_get_10 hx hb (hB.words zU_MO) hown hK hP (hB.word (zm4 k4_157) rfl) dMO_apart_6 E (fun k3 ek3 E => ?_)
  rw [hQe]
  exact W.iret (v := k3) hx hb hr (fun t ht hW => ⟨⟨k3, S1, rfl, ⟨E.symm.trans etg, gS1, trivial⟩, by rw [ht]; exact hP, hD⟩, hS.F ht⟩) hS.2.2 dMO_apart_9
noncomputable def fMO_thrown (P S : ZS) : Int32 := zl (S.I 3) (fun k1 => k1)
set_option maxHeartbeats 4000000 in
set_option maxRecDepth 100000 in
theorem tMO_thrown (l : Launch) (dC : Nat → ClassId) (dI : Nat → Nat → Nat) (cI cZ cJ cA : ClassId) (a0 : Array Value) (s0 : State) (o b : Nat → Nat) (P S : ZS) (sz : Nat) (gP : mok P) (gS : mok S) : Met l yMO_thrown [Cond.code yMO_thrown bMO_thrown 1 (some .int)] ({ frames := 0, cells := 0, slots := 0, locals := 0 } : Room) (zP zCl dC dI (zTZ cI cZ cJ cA) a0 s0 [.ref (o 0)] sz (MW cI cZ cA o b P S)) (zQp (fun r => r = fMO_thrown P S  ∧ zr 0 2 r) sz) 0 0 (zN sz) := by
  refine Met.ofW (cc := bMO_thrown) (maxL := 1) (ret := (some .int)) (by decide) rfl ?_
  intro p e s m args below meth c s₁ B hml hv
  obtain ⟨rfl, hsz, hP, hK, hD0, hB⟩ := hv
  have hx := B.exec
  have hb := B.bytes
  have hr := B.returns
  have hown : s.vm.findClass "RingGuardModel" = some m.cls := findClass_of_methodNamed B.named
  have hlocks := B.notSynchronized
  subst hsz
  have hD := hD0
  have hA0 : ∀ q, zN s.heap.size q → s0.heap.size ≤ q := zA1 hB
  have hAD : ∀ q, zN s0.heap.size q → s0.heap.size ≤ q := fun _ h => h
  have hA : ∀ q : Nat, s.heap.size ≤ q → zN s.heap.size q := fun _ h => h
  have hS : va_S (zN s.heap.size) s.heap s.heap [] := va_S.rf
  have hl := lv_entry ([.ref (o 0)]) (n := 1) (Nat.le_of_ble_eq_true rfl)
  rw [lg_entry_eq]
  generalize (lg_sl ([.ref (o 0)]) ++ List.replicate (1 - (lg_sl ([.ref (o 0)])).length) Slot.unset).toArray = ls at hl ⊢
  have hl : lv_has ls 1 [(0, .ref (o 0))] := hl
  refine zgenQ (fun Q hQe => ?_)
  obtain ⟨tg, etg⟩ : ∃ z, z = fMO_thrown P S  := ⟨_, rfl⟩
  have E := etg
  unfold fMO_thrown at E
  refine lv_aload_n hx hb dMO_thrown_0 rfl (lv_at hl 0 rfl) ?_
  refine m_get_3 hx hb (hB.words zU_MO) hown hK hP (hB.word (zm4 k4_114) rfl) dMO_thrown_1 E (fun k1 ek1 E => ?_)
  have r_k1 : zr 0 2 k1 := by rw [ek1]; exact gS.2.1 3
  rw [hQe]
  exact W.iret (v := k1) hx hb hr (fun t ht hW => ⟨⟨k1, (), rfl, ⟨E.symm.trans etg, r_k1⟩, trivial⟩, hS.F ht⟩) hS.2.2 dMO_thrown_4
