theorem k2_62 : tables_1_2[62]? = some (Jvm.Cond.classLink "RingGuardLaw" (13 : Nat) "java/lang/IllegalStateException") := by decide +kernel
theorem k2_63 : tables_1_2[63]? = some (Jvm.Cond.methodLink "RingGuardLaw" (7 : Nat) ({ cls := "RingGuard", name := "bridge", desc := "()I" } : Jvm.MethodName)) := by decide +kernel
theorem k2_64 : tables_1_2[64]? = some (Jvm.Cond.instanceMethod ({ cls := "RingGuard", name := "bridge", desc := "()I" } : Jvm.MethodName)) := by decide +kernel
theorem k2_65 : tables_1_2[65]? = some (Jvm.Cond.selects "RingGuard" ({ cls := "RingGuard", name := "bridge", desc := "()I" } : Jvm.MethodName) ({ cls := "RingGuard", name := "bridge", desc := "()I" } : Jvm.MethodName)) := by decide +kernel
theorem k2_66 : tables_1_2[66]? = some (Jvm.Cond.code ({ cls := "RingGuard", name := "bridge", desc := "()I" } : Jvm.MethodName) prog_1_method_2_code (2 : Nat) (Option.some Jvm.ClassFile.FieldType.int)) := rfl
theorem k2_73 : tables_1_2[73]? = some (Jvm.Cond.castable "java/lang/IllegalStateException" "java/lang/IllegalStateException") := by decide +kernel
theorem k2_142 : tables_1_2[142]? = some (Jvm.Cond.classLink "RingGuardLaw" (19 : Nat) "java/lang/IllegalArgumentException") := by decide +kernel
theorem k2_143 : tables_1_2[143]? = some (Jvm.Cond.methodLink "RingGuardLaw" (15 : Nat) ({ cls := "RingGuard", name := "link", desc := "(III)I" } : Jvm.MethodName)) := by decide +kernel
theorem k2_144 : tables_1_2[144]? = some (Jvm.Cond.instanceMethod ({ cls := "RingGuard", name := "link", desc := "(III)I" } : Jvm.MethodName)) := by decide +kernel
theorem k2_145 : tables_1_2[145]? = some (Jvm.Cond.selects "RingGuard" ({ cls := "RingGuard", name := "link", desc := "(III)I" } : Jvm.MethodName) ({ cls := "RingGuard", name := "link", desc := "(III)I" } : Jvm.MethodName)) := by decide +kernel
theorem k2_146 : tables_1_2[146]? = some (Jvm.Cond.code ({ cls := "RingGuard", name := "link", desc := "(III)I" } : Jvm.MethodName) prog_1_method_3_code (4 : Nat) (Option.some Jvm.ClassFile.FieldType.int)) := rfl
theorem k2_153 : tables_1_2[153]? = some (Jvm.Cond.castable "java/lang/IllegalArgumentException" "java/lang/IllegalArgumentException") := by decide +kernel
theorem k2_181 : tables_1_2[181]? = some (Jvm.Cond.methodLink "RingGuardLaw" (21 : Nat) ({ cls := "RingGuard", name := "owner", desc := "(III)V" } : Jvm.MethodName)) := by decide +kernel
theorem k2_182 : tables_1_2[182]? = some (Jvm.Cond.instanceMethod ({ cls := "RingGuard", name := "owner", desc := "(III)V" } : Jvm.MethodName)) := by decide +kernel
theorem k2_183 : tables_1_2[183]? = some (Jvm.Cond.selects "RingGuard" ({ cls := "RingGuard", name := "owner", desc := "(III)V" } : Jvm.MethodName) ({ cls := "RingGuard", name := "owner", desc := "(III)V" } : Jvm.MethodName)) := by decide +kernel
theorem k2_184 : tables_1_2[184]? = some (Jvm.Cond.code ({ cls := "RingGuard", name := "owner", desc := "(III)V" } : Jvm.MethodName) prog_1_method_4_code (4 : Nat) (Option.none : Option Jvm.ClassFile.FieldType)) := rfl
theorem k2_193 : tables_1_2[193]? = some (Jvm.Cond.methodLink "RingGuardLaw" (25 : Nat) ({ cls := "RingGuard", name := "start", desc := "()I" } : Jvm.MethodName)) := by decide +kernel
theorem k2_194 : tables_1_2[194]? = some (Jvm.Cond.instanceMethod ({ cls := "RingGuard", name := "start", desc := "()I" } : Jvm.MethodName)) := by decide +kernel
theorem k2_195 : tables_1_2[195]? = some (Jvm.Cond.selects "RingGuard" ({ cls := "RingGuard", name := "start", desc := "()I" } : Jvm.MethodName) ({ cls := "RingGuard", name := "start", desc := "()I" } : Jvm.MethodName)) := by decide +kernel
theorem k2_196 : tables_1_2[196]? = some (Jvm.Cond.code ({ cls := "RingGuard", name := "start", desc := "()I" } : Jvm.MethodName) prog_1_method_5_code (2 : Nat) (Option.some Jvm.ClassFile.FieldType.int)) := rfl
theorem k3_51 : tables_1_3[51]? = some (Jvm.Cond.methodLink "RingGuardLaw" (28 : Nat) ({ cls := "RingGuard", name := "fail", desc := "(I)Z" } : Jvm.MethodName)) := by decide +kernel
theorem k3_52 : tables_1_3[52]? = some (Jvm.Cond.instanceMethod ({ cls := "RingGuard", name := "fail", desc := "(I)Z" } : Jvm.MethodName)) := by decide +kernel
theorem k3_53 : tables_1_3[53]? = some (Jvm.Cond.selects "RingGuard" ({ cls := "RingGuard", name := "fail", desc := "(I)Z" } : Jvm.MethodName) ({ cls := "RingGuard", name := "fail", desc := "(I)Z" } : Jvm.MethodName)) := by decide +kernel
theorem k3_54 : tables_1_3[54]? = some (Jvm.Cond.code ({ cls := "RingGuard", name := "fail", desc := "(I)Z" } : Jvm.MethodName) prog_1_method_6_code (3 : Nat) (Option.some Jvm.ClassFile.FieldType.boolean)) := rfl
theorem k3_97 : tables_1_3[97]? = some (Jvm.Cond.methodLink "RingGuardLaw" (32 : Nat) ({ cls := "RingGuard", name := "heal", desc := "(I)Z" } : Jvm.MethodName)) := by decide +kernel
theorem k3_98 : tables_1_3[98]? = some (Jvm.Cond.instanceMethod ({ cls := "RingGuard", name := "heal", desc := "(I)Z" } : Jvm.MethodName)) := by decide +kernel
theorem k3_99 : tables_1_3[99]? = some (Jvm.Cond.selects "RingGuard" ({ cls := "RingGuard", name := "heal", desc := "(I)Z" } : Jvm.MethodName) ({ cls := "RingGuard", name := "heal", desc := "(I)Z" } : Jvm.MethodName)) := by decide +kernel
theorem k3_100 : tables_1_3[100]? = some (Jvm.Cond.code ({ cls := "RingGuard", name := "heal", desc := "(I)Z" } : Jvm.MethodName) prog_1_method_7_code (3 : Nat) (Option.some Jvm.ClassFile.FieldType.boolean)) := rfl
theorem k3_112 : tables_1_3[112]? = some (Jvm.Cond.methodLink "RingGuardLaw" (35 : Nat) ({ cls := "RingGuard", name := "lose", desc := "(II)I" } : Jvm.MethodName)) := by decide +kernel
theorem k3_113 : tables_1_3[113]? = some (Jvm.Cond.instanceMethod ({ cls := "RingGuard", name := "lose", desc := "(II)I" } : Jvm.MethodName)) := by decide +kernel
theorem k3_114 : tables_1_3[114]? = some (Jvm.Cond.selects "RingGuard" ({ cls := "RingGuard", name := "lose", desc := "(II)I" } : Jvm.MethodName) ({ cls := "RingGuard", name := "lose", desc := "(II)I" } : Jvm.MethodName)) := by decide +kernel
theorem k3_115 : tables_1_3[115]? = some (Jvm.Cond.code ({ cls := "RingGuard", name := "lose", desc := "(II)I" } : Jvm.MethodName) prog_1_method_8_code (4 : Nat) (Option.some Jvm.ClassFile.FieldType.int)) := rfl
theorem k3_120 : tables_1_3[120]? = some (Jvm.Cond.methodLink "RingGuardLaw" (39 : Nat) ({ cls := "RingGuard", name := "order", desc := "(IIZ)Z" } : Jvm.MethodName)) := by decide +kernel
theorem k3_121 : tables_1_3[121]? = some (Jvm.Cond.instanceMethod ({ cls := "RingGuard", name := "order", desc := "(IIZ)Z" } : Jvm.MethodName)) := by decide +kernel
theorem k3_122 : tables_1_3[122]? = some (Jvm.Cond.selects "RingGuard" ({ cls := "RingGuard", name := "order", desc := "(IIZ)Z" } : Jvm.MethodName) ({ cls := "RingGuard", name := "order", desc := "(IIZ)Z" } : Jvm.MethodName)) := by decide +kernel
theorem k3_123 : tables_1_3[123]? = some (Jvm.Cond.code ({ cls := "RingGuard", name := "order", desc := "(IIZ)Z" } : Jvm.MethodName) prog_1_method_9_code (5 : Nat) (Option.some Jvm.ClassFile.FieldType.boolean)) := rfl
abbrev yLA_bridge : MethodName := ⟨"RingGuardLaw", "bridge", "(LRingGuard;[J)I"⟩
abbrev bLA_bridge : ByteArray := method_3_code
abbrev yLA_link : MethodName := ⟨"RingGuardLaw", "link", "(LRingGuard;III[J)I"⟩
abbrev bLA_link : ByteArray := method_4_code
abbrev yLA_owner : MethodName := ⟨"RingGuardLaw", "owner", "(LRingGuard;III)I"⟩
abbrev bLA_owner : ByteArray := method_5_code
abbrev yLA_start : MethodName := ⟨"RingGuardLaw", "start", "(LRingGuard;[J)I"⟩
abbrev bLA_start : ByteArray := method_6_code
abbrev yLA_fail : MethodName := ⟨"RingGuardLaw", "fail", "(LRingGuard;I[J)I"⟩
abbrev bLA_fail : ByteArray := method_7_code
abbrev yLA_heal : MethodName := ⟨"RingGuardLaw", "heal", "(LRingGuard;I[J)I"⟩
abbrev bLA_heal : ByteArray := method_8_code
abbrev yLA_lose : MethodName := ⟨"RingGuardLaw", "lose", "(LRingGuard;II[J)I"⟩
abbrev bLA_lose : ByteArray := method_9_code
abbrev yLA_order : MethodName := ⟨"RingGuardLaw", "order", "(LRingGuard;IIZ[J)I"⟩
abbrev bLA_order : ByteArray := method_10_code
theorem dLA_bridge_0 : decode bLA_bridge 0 = .ok (.aload_n 1, 1) := by decide +kernel
theorem dLA_bridge_1 : decode bLA_bridge 1 = .ok (.iconst 0, 1) := by decide +kernel
theorem dLA_bridge_2 : decode bLA_bridge 2 = .ok (.aload_n 0, 1) := by decide +kernel
theorem dLA_bridge_3 : decode bLA_bridge 3 = .ok (.invokevirtual 7, 3) := by decide +kernel
theorem dLA_bridge_6 : decode bLA_bridge 6 = .ok (.i2l, 1) := by decide +kernel
theorem dLA_bridge_7 : decode bLA_bridge 7 = .ok (.lastore, 1) := by decide +kernel
theorem dLA_bridge_8 : decode bLA_bridge 8 = .ok (.goto 6, 3) := by decide +kernel
theorem dLA_bridge_11 : decode bLA_bridge 11 = .ok (.astore_n 2, 1) := by decide +kernel
theorem dLA_bridge_12 : decode bLA_bridge 12 = .ok (.iconst 1, 1) := by decide +kernel
theorem dLA_bridge_13 : decode bLA_bridge 13 = .ok (.ireturn, 1) := by decide +kernel
theorem dLA_bridge_14 : decode bLA_bridge 14 = .ok (.iconst 0, 1) := by decide +kernel
theorem dLA_bridge_15 : decode bLA_bridge 15 = .ok (.ireturn, 1) := by decide +kernel
theorem dLA_fail_0 : decode bLA_fail 0 = .ok (.aload_n 2, 1) := by decide +kernel
theorem dLA_fail_1 : decode bLA_fail 1 = .ok (.iconst 0, 1) := by decide +kernel
theorem dLA_fail_2 : decode bLA_fail 2 = .ok (.aload_n 0, 1) := by decide +kernel
theorem dLA_fail_3 : decode bLA_fail 3 = .ok (.iload_n 1, 1) := by decide +kernel
theorem dLA_fail_4 : decode bLA_fail 4 = .ok (.invokevirtual 28, 3) := by decide +kernel
theorem dLA_fail_7 : decode bLA_fail 7 = .ok (.ifCond .eq 7, 3) := by decide +kernel
theorem dLA_fail_10 : decode bLA_fail 10 = .ok (.lconst 1, 1) := by decide +kernel
theorem dLA_fail_11 : decode bLA_fail 11 = .ok (.goto 4, 3) := by decide +kernel
theorem dLA_fail_14 : decode bLA_fail 14 = .ok (.lconst 0, 1) := by decide +kernel
theorem dLA_fail_15 : decode bLA_fail 15 = .ok (.lastore, 1) := by decide +kernel
theorem dLA_fail_16 : decode bLA_fail 16 = .ok (.goto 9, 3) := by decide +kernel
theorem dLA_fail_19 : decode bLA_fail 19 = .ok (.astore_n 3, 1) := by decide +kernel
theorem dLA_fail_20 : decode bLA_fail 20 = .ok (.iconst 1, 1) := by decide +kernel
theorem dLA_fail_21 : decode bLA_fail 21 = .ok (.ireturn, 1) := by decide +kernel
theorem dLA_fail_22 : decode bLA_fail 22 = .ok (.astore_n 3, 1) := by decide +kernel
theorem dLA_fail_23 : decode bLA_fail 23 = .ok (.iconst 2, 1) := by decide +kernel
theorem dLA_fail_24 : decode bLA_fail 24 = .ok (.ireturn, 1) := by decide +kernel
theorem dLA_fail_25 : decode bLA_fail 25 = .ok (.iconst 0, 1) := by decide +kernel
theorem dLA_fail_26 : decode bLA_fail 26 = .ok (.ireturn, 1) := by decide +kernel
theorem dLA_heal_0 : decode bLA_heal 0 = .ok (.aload_n 2, 1) := by decide +kernel
theorem dLA_heal_1 : decode bLA_heal 1 = .ok (.iconst 0, 1) := by decide +kernel
theorem dLA_heal_2 : decode bLA_heal 2 = .ok (.aload_n 0, 1) := by decide +kernel
theorem dLA_heal_3 : decode bLA_heal 3 = .ok (.iload_n 1, 1) := by decide +kernel
theorem dLA_heal_4 : decode bLA_heal 4 = .ok (.invokevirtual 32, 3) := by decide +kernel
theorem dLA_heal_7 : decode bLA_heal 7 = .ok (.ifCond .eq 7, 3) := by decide +kernel
theorem dLA_heal_10 : decode bLA_heal 10 = .ok (.lconst 1, 1) := by decide +kernel
theorem dLA_heal_11 : decode bLA_heal 11 = .ok (.goto 4, 3) := by decide +kernel
theorem dLA_heal_14 : decode bLA_heal 14 = .ok (.lconst 0, 1) := by decide +kernel
theorem dLA_heal_15 : decode bLA_heal 15 = .ok (.lastore, 1) := by decide +kernel
theorem dLA_heal_16 : decode bLA_heal 16 = .ok (.goto 9, 3) := by decide +kernel
theorem dLA_heal_19 : decode bLA_heal 19 = .ok (.astore_n 3, 1) := by decide +kernel
theorem dLA_heal_20 : decode bLA_heal 20 = .ok (.iconst 1, 1) := by decide +kernel
theorem dLA_heal_21 : decode bLA_heal 21 = .ok (.ireturn, 1) := by decide +kernel
theorem dLA_heal_22 : decode bLA_heal 22 = .ok (.astore_n 3, 1) := by decide +kernel
theorem dLA_heal_23 : decode bLA_heal 23 = .ok (.iconst 2, 1) := by decide +kernel
theorem dLA_heal_24 : decode bLA_heal 24 = .ok (.ireturn, 1) := by decide +kernel
theorem dLA_heal_25 : decode bLA_heal 25 = .ok (.iconst 0, 1) := by decide +kernel
theorem dLA_heal_26 : decode bLA_heal 26 = .ok (.ireturn, 1) := by decide +kernel
theorem dLA_link_0 : decode bLA_link 0 = .ok (.aload 4, 2) := by decide +kernel
theorem dLA_link_2 : decode bLA_link 2 = .ok (.iconst 0, 1) := by decide +kernel
theorem dLA_link_3 : decode bLA_link 3 = .ok (.aload_n 0, 1) := by decide +kernel
theorem dLA_link_4 : decode bLA_link 4 = .ok (.iload_n 1, 1) := by decide +kernel
theorem dLA_link_5 : decode bLA_link 5 = .ok (.iload_n 2, 1) := by decide +kernel
theorem dLA_link_6 : decode bLA_link 6 = .ok (.iload_n 3, 1) := by decide +kernel
theorem dLA_link_7 : decode bLA_link 7 = .ok (.invokevirtual 15, 3) := by decide +kernel
theorem dLA_link_10 : decode bLA_link 10 = .ok (.i2l, 1) := by decide +kernel
theorem dLA_link_11 : decode bLA_link 11 = .ok (.lastore, 1) := by decide +kernel
theorem dLA_link_12 : decode bLA_link 12 = .ok (.goto 11, 3) := by decide +kernel
theorem dLA_link_15 : decode bLA_link 15 = .ok (.astore 5, 2) := by decide +kernel
theorem dLA_link_17 : decode bLA_link 17 = .ok (.iconst 1, 1) := by decide +kernel
theorem dLA_link_18 : decode bLA_link 18 = .ok (.ireturn, 1) := by decide +kernel
theorem dLA_link_19 : decode bLA_link 19 = .ok (.astore 5, 2) := by decide +kernel
theorem dLA_link_21 : decode bLA_link 21 = .ok (.iconst 2, 1) := by decide +kernel
theorem dLA_link_22 : decode bLA_link 22 = .ok (.ireturn, 1) := by decide +kernel
theorem dLA_link_23 : decode bLA_link 23 = .ok (.iconst 0, 1) := by decide +kernel
theorem dLA_link_24 : decode bLA_link 24 = .ok (.ireturn, 1) := by decide +kernel
theorem dLA_lose_0 : decode bLA_lose 0 = .ok (.aload_n 3, 1) := by decide +kernel
theorem dLA_lose_1 : decode bLA_lose 1 = .ok (.iconst 0, 1) := by decide +kernel
theorem dLA_lose_2 : decode bLA_lose 2 = .ok (.aload_n 0, 1) := by decide +kernel
theorem dLA_lose_3 : decode bLA_lose 3 = .ok (.iload_n 1, 1) := by decide +kernel
theorem dLA_lose_4 : decode bLA_lose 4 = .ok (.iload_n 2, 1) := by decide +kernel
theorem dLA_lose_5 : decode bLA_lose 5 = .ok (.invokevirtual 35, 3) := by decide +kernel
theorem dLA_lose_8 : decode bLA_lose 8 = .ok (.i2l, 1) := by decide +kernel
theorem dLA_lose_9 : decode bLA_lose 9 = .ok (.lastore, 1) := by decide +kernel
theorem dLA_lose_10 : decode bLA_lose 10 = .ok (.goto 11, 3) := by decide +kernel
theorem dLA_lose_13 : decode bLA_lose 13 = .ok (.astore 4, 2) := by decide +kernel
theorem dLA_lose_15 : decode bLA_lose 15 = .ok (.iconst 1, 1) := by decide +kernel
theorem dLA_lose_16 : decode bLA_lose 16 = .ok (.ireturn, 1) := by decide +kernel
theorem dLA_lose_17 : decode bLA_lose 17 = .ok (.astore 4, 2) := by decide +kernel
theorem dLA_lose_19 : decode bLA_lose 19 = .ok (.iconst 2, 1) := by decide +kernel
theorem dLA_lose_20 : decode bLA_lose 20 = .ok (.ireturn, 1) := by decide +kernel
theorem dLA_lose_21 : decode bLA_lose 21 = .ok (.iconst 0, 1) := by decide +kernel
theorem dLA_lose_22 : decode bLA_lose 22 = .ok (.ireturn, 1) := by decide +kernel
theorem dLA_order_0 : decode bLA_order 0 = .ok (.aload 4, 2) := by decide +kernel
theorem dLA_order_2 : decode bLA_order 2 = .ok (.iconst 0, 1) := by decide +kernel
theorem dLA_order_3 : decode bLA_order 3 = .ok (.aload_n 0, 1) := by decide +kernel
theorem dLA_order_4 : decode bLA_order 4 = .ok (.iload_n 1, 1) := by decide +kernel
theorem dLA_order_5 : decode bLA_order 5 = .ok (.iload_n 2, 1) := by decide +kernel
theorem dLA_order_6 : decode bLA_order 6 = .ok (.iload_n 3, 1) := by decide +kernel
theorem dLA_order_7 : decode bLA_order 7 = .ok (.invokevirtual 39, 3) := by decide +kernel
theorem dLA_order_10 : decode bLA_order 10 = .ok (.ifCond .eq 7, 3) := by decide +kernel
theorem dLA_order_13 : decode bLA_order 13 = .ok (.lconst 1, 1) := by decide +kernel
theorem dLA_order_14 : decode bLA_order 14 = .ok (.goto 4, 3) := by decide +kernel
theorem dLA_order_17 : decode bLA_order 17 = .ok (.lconst 0, 1) := by decide +kernel
theorem dLA_order_18 : decode bLA_order 18 = .ok (.lastore, 1) := by decide +kernel
theorem dLA_order_19 : decode bLA_order 19 = .ok (.goto 11, 3) := by decide +kernel
theorem dLA_order_22 : decode bLA_order 22 = .ok (.astore 5, 2) := by decide +kernel
theorem dLA_order_24 : decode bLA_order 24 = .ok (.iconst 1, 1) := by decide +kernel
theorem dLA_order_25 : decode bLA_order 25 = .ok (.ireturn, 1) := by decide +kernel
theorem dLA_order_26 : decode bLA_order 26 = .ok (.astore 5, 2) := by decide +kernel
theorem dLA_order_28 : decode bLA_order 28 = .ok (.iconst 2, 1) := by decide +kernel
theorem dLA_order_29 : decode bLA_order 29 = .ok (.ireturn, 1) := by decide +kernel
theorem dLA_order_30 : decode bLA_order 30 = .ok (.iconst 0, 1) := by decide +kernel
theorem dLA_order_31 : decode bLA_order 31 = .ok (.ireturn, 1) := by decide +kernel
theorem dLA_owner_0 : decode bLA_owner 0 = .ok (.aload_n 0, 1) := by decide +kernel
theorem dLA_owner_1 : decode bLA_owner 1 = .ok (.iload_n 1, 1) := by decide +kernel
theorem dLA_owner_2 : decode bLA_owner 2 = .ok (.iload_n 2, 1) := by decide +kernel
theorem dLA_owner_3 : decode bLA_owner 3 = .ok (.iload_n 3, 1) := by decide +kernel
theorem dLA_owner_4 : decode bLA_owner 4 = .ok (.invokevirtual 21, 3) := by decide +kernel
theorem dLA_owner_7 : decode bLA_owner 7 = .ok (.goto 11, 3) := by decide +kernel
theorem dLA_owner_10 : decode bLA_owner 10 = .ok (.astore 4, 2) := by decide +kernel
theorem dLA_owner_12 : decode bLA_owner 12 = .ok (.iconst 1, 1) := by decide +kernel
theorem dLA_owner_13 : decode bLA_owner 13 = .ok (.ireturn, 1) := by decide +kernel
theorem dLA_owner_14 : decode bLA_owner 14 = .ok (.astore 4, 2) := by decide +kernel
theorem dLA_owner_16 : decode bLA_owner 16 = .ok (.iconst 2, 1) := by decide +kernel
theorem dLA_owner_17 : decode bLA_owner 17 = .ok (.ireturn, 1) := by decide +kernel
theorem dLA_owner_18 : decode bLA_owner 18 = .ok (.iconst 0, 1) := by decide +kernel
theorem dLA_owner_19 : decode bLA_owner 19 = .ok (.ireturn, 1) := by decide +kernel
theorem dLA_start_0 : decode bLA_start 0 = .ok (.aload_n 1, 1) := by decide +kernel
theorem dLA_start_1 : decode bLA_start 1 = .ok (.iconst 0, 1) := by decide +kernel
theorem dLA_start_2 : decode bLA_start 2 = .ok (.aload_n 0, 1) := by decide +kernel
theorem dLA_start_3 : decode bLA_start 3 = .ok (.invokevirtual 25, 3) := by decide +kernel
theorem dLA_start_6 : decode bLA_start 6 = .ok (.i2l, 1) := by decide +kernel
theorem dLA_start_7 : decode bLA_start 7 = .ok (.lastore, 1) := by decide +kernel
theorem dLA_start_8 : decode bLA_start 8 = .ok (.goto 6, 3) := by decide +kernel
theorem dLA_start_11 : decode bLA_start 11 = .ok (.astore_n 2, 1) := by decide +kernel
theorem dLA_start_12 : decode bLA_start 12 = .ok (.iconst 1, 1) := by decide +kernel
theorem dLA_start_13 : decode bLA_start 13 = .ok (.ireturn, 1) := by decide +kernel
theorem dLA_start_14 : decode bLA_start 14 = .ok (.iconst 0, 1) := by decide +kernel
theorem dLA_start_15 : decode bLA_start 15 = .ok (.ireturn, 1) := by decide +kernel
/-- what the helper leaves and answers -/
def zH_bridge (P S : ZS) (f : Nat → Int64) (r : Int32) (w : ZS × ZS × (Nat → Int64)) : Prop := match fRG_bridge P S with
  | .error k => r = (1) ∧ w = (P, S, f)
  | .ok z => r = 0 ∧ w = (z.1, z.2.1, vp_updL f (0 : Int32).toNatClampNeg (z.2.2.toInt64))
theorem fRG_bridge_cs {P S : ZS} {k : Nat} (h : fRG_bridge P S = .error k) : k = 2 := by
  simp only [fRG_bridge, zbind, zl] at h
  repeat' split at h
  all_goals first | (cases h; rfl) | (cases h; first | exact fRG_requireNotStarted_c (by assumption)) | cases h
set_option maxHeartbeats 4000000 in
set_option maxRecDepth 100000 in
theorem tLA_bridge (l : Launch) (dC : Nat → ClassId) (dI : Nat → Nat → Nat) (cI cZ cJ cA : ClassId) (a0 : Array Value) (s0 : State) (o b : Nat → Nat) (hfl : l.flags = Jvm.pinnedFlags ++ [Jvm.noTraceFlag]) (P S : ZS) (f : Nat → Int64) (qo sz : Nat) (gP : cok P) (gS : cok S) : Met l yLA_bridge [Cond.codeWith yLA_bridge bLA_bridge 3 (some .int) [(0, 8, 11, 13)]] ({ frames := 8, cells := 1, slots := 6, locals := 131 } : Room) (zP zCl dC dI (zTZ cI cZ cJ cA) a0 s0 [.ref (o 0), .ref qo] sz (CW cI cZ cA o b P S ++ [(qo, .inl (cJ, 1, .inr (.inl f)))])) (zQH zCl dC dI (fun (r : Int32) (x9 : ZS × ZS × (Nat → Int64)) => zH_bridge P S f  r x9 ∧ cok x9.1 ∧ cok x9.2.1) (fun x9 : ZS × ZS × (Nat → Int64) => (CW cI cZ cA o b x9.1 x9.2.1 ++ [(qo, .inl (cJ, 1, .inr (.inl x9.2.2)))])) (va_A (CW cI cZ cA o b P S ++ [(qo, .inl (cJ, 1, .inr (.inl f)))]) sz)) 1 6 (va_A (CW cI cZ cA o b P S ++ [(qo, .inl (cJ, 1, .inr (.inl f)))]) sz) := by
  refine tq_ofWith (cc := bLA_bridge) (maxL := 3) (ret := (some .int)) (hs := [(0, 8, 11, 13)]) (by decide) rfl ?_
  intro p e s m args below meth c s₁ B hml htab hv
  obtain ⟨rfl, hsz, hP, hK, hD0, hB⟩ := hv
  have hx := B.exec
  have hb := B.bytes
  have hr := B.returns
  have hown : s.vm.findClass "RingGuardLaw" = some m.cls := findClass_of_methodNamed B.named
  have hlocks := B.notSynchronized
  subst hsz
  have hD := hD0.self (sz := s.heap.size)
  have hA0 := zA0 hD0 hB
  generalize hAe : va_A (CW cI cZ cA o b P S ++ [(qo, .inl (cJ, 1, .inr (.inl f)))]) s.heap.size = A at hD hA0 ⊢
  have hAD := hA0
  have hA : ∀ q : Nat, s.heap.size ≤ q → A q := fun q h => by rw [← hAe]; exact Or.inr h
  have hS : va_S A s.heap s.heap [] := va_S.rf
  have hl := lv_entry ([.ref (o 0), .ref qo]) (n := 3) (Nat.le_of_ble_eq_true rfl)
  rw [lg_entry_eq]
  generalize (lg_sl ([.ref (o 0), .ref qo]) ++ List.replicate (3 - (lg_sl ([.ref (o 0), .ref qo])).length) Slot.unset).toArray = ls at hl ⊢
  have hl : lv_has ls 3 [(0, .ref (o 0)), (1, .ref qo)] := hl
  refine lv_aload_n hx hb dLA_bridge_0 rfl (lv_at hl 1 rfl) ?_
  refine lv_iconst (v := 0) hx hb dLA_bridge_1 (by decide) ?_
  refine lv_aload_n hx hb dLA_bridge_2 rfl (lv_at hl 0 rfl) ?_
  have hPc := zPL hP
  have hDc := zDL hD
  rcases hc : fRG_bridge P S with k | y
  · have x9 := fRG_bridge_cs hc
    subst x9
    refine tq_catch (hp := 11) (tq_runV (As := []) (rest := [.int 0, .ref qo]) ⟨hx, hb, hml, hown, zno⟩ (tRG_bridge_T2 l dC dI cI cZ cJ cA a0 s0 o b hfl P S s.heap.size gP gS hc) (zcw 0 (hB.word (zm2 k2_66) rfl) (hB.word (zm1 k1_1) rfl) (hB.word (zm2 k2_63) rfl) (hB.word (zm2 k2_64) rfl) (hB.word (zm2 k2_65) rfl) rfl rfl (by decide +kernel) ⟨Nat.le_of_ble_eq_true rfl, Nat.le_of_ble_eq_true rfl⟩) ⟨zP_blind, va_recv hK hPc (ci := 0) (q0 := 0) rfl rfl, zP_pre hPc hK hDc hAD (zB_on hB hA0 hS)⟩ rfl rfl hl.1 rfl (lv_room (Nat.le_of_ble_eq_true rfl)) dLA_bridge_3 ⟨Nat.le_of_ble_eq_true rfl, Nat.le_of_ble_eq_true rfl⟩) hown htab (zsel1 (by decide) (by decide) (hB.word (zm2 k2_62) rfl) (zfit (args := #[]) (hB.word (zm2 k2_73) rfl))) hS (fun q h => hA q (Nat.le_trans hS.1 h)) (fun xq H1 locs hz1 hk1 hS => ?_)
    have hP := zKeep hP hk1
    refine lv_astore_n (lv' := [(2, .ref xq), (0, .ref (o 0)), (1, .ref qo)]) hx hb dLA_bridge_11 rfl hl (by decide) rfl (fun ls hl => ?_)
    refine lv_iconst (v := 1) hx hb dLA_bridge_12 (by decide) ?_
    exact W.iret (v := 1) hx hb hr (fun t ht hW => ⟨⟨1, (P, S, f), rfl, ⟨by unfold zH_bridge; rw [hc]; exact ⟨by decide, rfl⟩, gP, gS⟩, by rw [ht]; exact hP, hD⟩, hS.F ht⟩) hS.2.2 dLA_bridge_13
  · skip
    refine zcIL (va_runV (As := []) (rest := [.int 0, .ref qo]) ⟨hx, hb, hml, hown, zno⟩ (tRG_bridge l dC dI cI cZ cJ cA a0 s0 o b P S s.heap.size gP gS y hc) (zcw 0 (hB.word (zm2 k2_66) rfl) (hB.word (zm1 k1_1) rfl) (hB.word (zm2 k2_63) rfl) (hB.word (zm2 k2_64) rfl) (hB.word (zm2 k2_65) rfl) rfl rfl (by decide +kernel) ⟨Nat.le_of_ble_eq_true rfl, Nat.le_of_ble_eq_true rfl⟩) ⟨zP_blind, va_recv hK hPc (ci := 0) (q0 := 0) rfl rfl, zP_pre hPc hK hDc hAD (zB_on hB hA0 hS)⟩ rfl rfl hl.1 rfl (lv_room (Nat.le_of_ble_eq_true rfl)) dLA_bridge_3 ⟨Nat.le_of_ble_eq_true rfl, Nat.le_of_ble_eq_true rfl⟩) hP hD hS hA (fun k9 x9 H1 locs hq hP hD hS => ?_)
    obtain ⟨P1, S1⟩ := x9
    have gP1 := hq.2.1
    have gS1 := hq.2.2.1
    have ey := hq.1
    subst ey
    have hP : va_P (dC, dI) zCl (CW cI cZ cA o b P1 S1 ++ [(qo, .inl (cJ, 1, .inr (.inl f)))]) H1 := hP
    have hD : va_D A (CW cI cZ cA o b P1 S1 ++ [(qo, .inl (cJ, 1, .inr (.inl f)))]) := hD
    refine lv_i2l (v := k9.toInt64) hx hb dLA_bridge_6 rfl ?_
    refine va_last hx hb hK hP hD hS 84 2 (zAtL CW_len) rfl (i := 0) (by unfold vp_in; decide) dLA_bridge_7 (fun H locs hP hD hS => ?_)
    rw [zSetL CW_len] at hP hD
    refine lv_goto (tgt := 14) hx hb dLA_bridge_8 (by decide) ?_
    refine lv_iconst (v := 0) hx hb dLA_bridge_14 (by decide) ?_
    refine W.widen (k := 1) (n := 6) (Nat.le_of_ble_eq_true rfl) (Nat.le_of_ble_eq_true rfl) ?_
    exact W.iret (v := 0) hx hb hr (fun t ht hW => ⟨⟨0, (P1, S1, (vp_updL f (0 : Int32).toNatClampNeg k9.toInt64)), rfl, ⟨by unfold zH_bridge; rw [hc]; exact ⟨rfl, rfl⟩, gP1, gS1⟩, by rw [ht]; exact hP, hD⟩, hS.F ht⟩) hS.2.2 dLA_bridge_15
/-- what the helper leaves and answers -/
def zH_link (P S : ZS) (f : Nat → Int64) (x0 : Int32) (x1 : Int32) (x2 : Int32) (r : Int32) (w : ZS × ZS × (Nat → Int64)) : Prop := match fRG_link P S x0 x1 x2 with
  | .error k => r = (if k = 1 then 1 else 2) ∧ w = (P, S, f)
  | .ok z => r = 0 ∧ w = (z.1, z.2.1, vp_updL f (0 : Int32).toNatClampNeg (z.2.2.toInt64))
theorem fRG_link_cs {P S : ZS} {x0 x1 x2 : Int32} {k : Nat} (h : fRG_link P S x0 x1 x2 = .error k) : k = 1 ∨ k = 2 := by
  simp only [fRG_link, zbind, zl] at h
  repeat' split at h
  all_goals first | (cases h; exact Or.inl rfl) | (cases h; exact Or.inr rfl) | (cases h; first | exact Or.inl (fRG_requireBridge_c (by assumption)) | exact Or.inr (fRG_requireNotStarted_c (by assumption)) | exact Or.inl (fRG_requireRing_c (by assumption))) | cases h
set_option maxHeartbeats 4000000 in
set_option maxRecDepth 100000 in
theorem tLA_link (l : Launch) (dC : Nat → ClassId) (dI : Nat → Nat → Nat) (cI cZ cJ cA : ClassId) (a0 : Array Value) (s0 : State) (o b : Nat → Nat) (hfl : l.flags = Jvm.pinnedFlags ++ [Jvm.noTraceFlag]) (P S : ZS) (f : Nat → Int64) (qo sz : Nat) (x0 : Int32) (x1 : Int32) (x2 : Int32) (gP : cok P) (gS : cok S) : Met l yLA_link [Cond.codeWith yLA_link bLA_link 6 (some .int) [(0, 12, 15, 19), (0, 12, 19, 13)]] ({ frames := 8, cells := 1, slots := 6, locals := 134 } : Room) (zP zCl dC dI (zTZ cI cZ cJ cA) a0 s0 [.ref (o 0), .int x0, .int x1, .int x2, .ref qo] sz (CW cI cZ cA o b P S ++ [(qo, .inl (cJ, 1, .inr (.inl f)))])) (zQH zCl dC dI (fun (r : Int32) (x9 : ZS × ZS × (Nat → Int64)) => zH_link P S f x0 x1 x2 r x9 ∧ cok x9.1 ∧ cok x9.2.1) (fun x9 : ZS × ZS × (Nat → Int64) => (CW cI cZ cA o b x9.1 x9.2.1 ++ [(qo, .inl (cJ, 1, .inr (.inl x9.2.2)))])) (va_A (CW cI cZ cA o b P S ++ [(qo, .inl (cJ, 1, .inr (.inl f)))]) sz)) 1 6 (va_A (CW cI cZ cA o b P S ++ [(qo, .inl (cJ, 1, .inr (.inl f)))]) sz) := by
  refine tq_ofWith (cc := bLA_link) (maxL := 6) (ret := (some .int)) (hs := [(0, 12, 15, 19), (0, 12, 19, 13)]) (by decide) rfl ?_
  intro p e s m args below meth c s₁ B hml htab hv
  obtain ⟨rfl, hsz, hP, hK, hD0, hB⟩ := hv
  have hx := B.exec
  have hb := B.bytes
  have hr := B.returns
  have hown : s.vm.findClass "RingGuardLaw" = some m.cls := findClass_of_methodNamed B.named
  have hlocks := B.notSynchronized
  subst hsz
  have hD := hD0.self (sz := s.heap.size)
  have hA0 := zA0 hD0 hB
  generalize hAe : va_A (CW cI cZ cA o b P S ++ [(qo, .inl (cJ, 1, .inr (.inl f)))]) s.heap.size = A at hD hA0 ⊢
  have hAD := hA0
  have hA : ∀ q : Nat, s.heap.size ≤ q → A q := fun q h => by rw [← hAe]; exact Or.inr h
  have hS : va_S A s.heap s.heap [] := va_S.rf
  have hl := lv_entry ([.ref (o 0), .int x0, .int x1, .int x2, .ref qo]) (n := 6) (Nat.le_of_ble_eq_true rfl)
  rw [lg_entry_eq]
  generalize (lg_sl ([.ref (o 0), .int x0, .int x1, .int x2, .ref qo]) ++ List.replicate (6 - (lg_sl ([.ref (o 0), .int x0, .int x1, .int x2, .ref qo])).length) Slot.unset).toArray = ls at hl ⊢
  have hl : lv_has ls 6 [(0, .ref (o 0)), (1, .int x0), (2, .int x1), (3, .int x2), (4, .ref qo)] := hl
  refine lv_aload hx hb dLA_link_0 (lv_at hl 4 rfl) ?_
  refine lv_iconst (v := 0) hx hb dLA_link_2 (by decide) ?_
  refine lv_aload_n hx hb dLA_link_3 rfl (lv_at hl 0 rfl) ?_
  refine lv_iload_n hx hb dLA_link_4 rfl (lv_at hl 1 rfl) ?_
  refine lv_iload_n hx hb dLA_link_5 rfl (lv_at hl 2 rfl) ?_
  refine lv_iload_n hx hb dLA_link_6 rfl (lv_at hl 3 rfl) ?_
  have hPc := zPL hP
  have hDc := zDL hD
  rcases hc : fRG_link P S x0 x1 x2 with k | y
  · rcases fRG_link_cs hc with rfl | rfl
    · skip
      refine tq_catch (hp := 15) (tq_runV (As := [.int x0, .int x1, .int x2]) (rest := [.int 0, .ref qo]) ⟨hx, hb, hml, hown, zno⟩ (tRG_link_T1 l dC dI cI cZ cJ cA a0 s0 o b hfl P S s.heap.size x0 x1 x2 gP gS hc) (zcw 3 (hB.word (zm2 k2_146) rfl) (hB.word (zm1 k1_1) rfl) (hB.word (zm2 k2_143) rfl) (hB.word (zm2 k2_144) rfl) (hB.word (zm2 k2_145) rfl) rfl rfl (by decide +kernel) ⟨Nat.le_of_ble_eq_true rfl, Nat.le_of_ble_eq_true rfl⟩) ⟨zP_blind, va_recv hK hPc (ci := 0) (q0 := 0) rfl rfl, zP_pre hPc hK hDc hAD (zB_on hB hA0 hS)⟩ rfl rfl hl.1 rfl (lv_room (Nat.le_of_ble_eq_true rfl)) dLA_link_7 ⟨Nat.le_of_ble_eq_true rfl, Nat.le_of_ble_eq_true rfl⟩) hown htab (zsel1 (by decide) (by decide) (hB.word (zm2 k2_142) rfl) (zfit (args := #[]) (hB.word (zm2 k2_153) rfl))) hS (fun q h => hA q (Nat.le_trans hS.1 h)) (fun xq H1 locs hz1 hk1 hS => ?_)
      have hP := zKeep hP hk1
      refine lv_astore (lv' := [(5, .ref xq), (0, .ref (o 0)), (1, .int x0), (2, .int x1), (3, .int x2), (4, .ref qo)]) hx hb dLA_link_15 hl (by decide) rfl (fun ls hl => ?_)
      refine lv_iconst (v := 1) hx hb dLA_link_17 (by decide) ?_
      exact W.iret (v := 1) hx hb hr (fun t ht hW => ⟨⟨1, (P, S, f), rfl, ⟨by unfold zH_link; rw [hc]; exact ⟨by decide, rfl⟩, gP, gS⟩, by rw [ht]; exact hP, hD⟩, hS.F ht⟩) hS.2.2 dLA_link_18
    · skip
      refine tq_catch (hp := 19) (tq_runV (As := [.int x0, .int x1, .int x2]) (rest := [.int 0, .ref qo]) ⟨hx, hb, hml, hown, zno⟩ (tRG_link_T2 l dC dI cI cZ cJ cA a0 s0 o b hfl P S s.heap.size x0 x1 x2 gP gS hc) (zcw 3 (hB.word (zm2 k2_146) rfl) (hB.word (zm1 k1_1) rfl) (hB.word (zm2 k2_143) rfl) (hB.word (zm2 k2_144) rfl) (hB.word (zm2 k2_145) rfl) rfl rfl (by decide +kernel) ⟨Nat.le_of_ble_eq_true rfl, Nat.le_of_ble_eq_true rfl⟩) ⟨zP_blind, va_recv hK hPc (ci := 0) (q0 := 0) rfl rfl, zP_pre hPc hK hDc hAD (zB_on hB hA0 hS)⟩ rfl rfl hl.1 rfl (lv_room (Nat.le_of_ble_eq_true rfl)) dLA_link_7 ⟨Nat.le_of_ble_eq_true rfl, Nat.le_of_ble_eq_true rfl⟩) hown htab (zsel2 (by decide) (by decide) (hB.word (zm2 k2_142) rfl) (znofit hB zno_ISE) (zsel1 (by decide) (by decide) (hB.word (zm2 k2_62) rfl) (zfit (args := #[]) (hB.word (zm2 k2_73) rfl)))) hS (fun q h => hA q (Nat.le_trans hS.1 h)) (fun xq H1 locs hz1 hk1 hS => ?_)
      have hP := zKeep hP hk1
      refine lv_astore (lv' := [(5, .ref xq), (0, .ref (o 0)), (1, .int x0), (2, .int x1), (3, .int x2), (4, .ref qo)]) hx hb dLA_link_19 hl (by decide) rfl (fun ls hl => ?_)
      refine lv_iconst (v := 2) hx hb dLA_link_21 (by decide) ?_
      exact W.iret (v := 2) hx hb hr (fun t ht hW => ⟨⟨2, (P, S, f), rfl, ⟨by unfold zH_link; rw [hc]; exact ⟨by decide, rfl⟩, gP, gS⟩, by rw [ht]; exact hP, hD⟩, hS.F ht⟩) hS.2.2 dLA_link_22
  · skip
    refine zcIL (va_runV (As := [.int x0, .int x1, .int x2]) (rest := [.int 0, .ref qo]) ⟨hx, hb, hml, hown, zno⟩ (tRG_link l dC dI cI cZ cJ cA a0 s0 o b P S s.heap.size x0 x1 x2 gP gS y hc) (zcw 3 (hB.word (zm2 k2_146) rfl) (hB.word (zm1 k1_1) rfl) (hB.word (zm2 k2_143) rfl) (hB.word (zm2 k2_144) rfl) (hB.word (zm2 k2_145) rfl) rfl rfl (by decide +kernel) ⟨Nat.le_of_ble_eq_true rfl, Nat.le_of_ble_eq_true rfl⟩) ⟨zP_blind, va_recv hK hPc (ci := 0) (q0 := 0) rfl rfl, zP_pre hPc hK hDc hAD (zB_on hB hA0 hS)⟩ rfl rfl hl.1 rfl (lv_room (Nat.le_of_ble_eq_true rfl)) dLA_link_7 ⟨Nat.le_of_ble_eq_true rfl, Nat.le_of_ble_eq_true rfl⟩) hP hD hS hA (fun k9 x9 H1 locs hq hP hD hS => ?_)
    obtain ⟨P1, S1⟩ := x9
    have gP1 := hq.2.1
    have gS1 := hq.2.2.1
    have ey := hq.1
    subst ey
    have hP : va_P (dC, dI) zCl (CW cI cZ cA o b P1 S1 ++ [(qo, .inl (cJ, 1, .inr (.inl f)))]) H1 := hP
    have hD : va_D A (CW cI cZ cA o b P1 S1 ++ [(qo, .inl (cJ, 1, .inr (.inl f)))]) := hD
    refine lv_i2l (v := k9.toInt64) hx hb dLA_link_10 rfl ?_
    refine va_last hx hb hK hP hD hS 84 2 (zAtL CW_len) rfl (i := 0) (by unfold vp_in; decide) dLA_link_11 (fun H locs hP hD hS => ?_)
    rw [zSetL CW_len] at hP hD
    refine lv_goto (tgt := 23) hx hb dLA_link_12 (by decide) ?_
    refine lv_iconst (v := 0) hx hb dLA_link_23 (by decide) ?_
    refine W.widen (k := 1) (n := 6) (Nat.le_of_ble_eq_true rfl) (Nat.le_of_ble_eq_true rfl) ?_
    exact W.iret (v := 0) hx hb hr (fun t ht hW => ⟨⟨0, (P1, S1, (vp_updL f (0 : Int32).toNatClampNeg k9.toInt64)), rfl, ⟨by unfold zH_link; rw [hc]; exact ⟨rfl, rfl⟩, gP1, gS1⟩, by rw [ht]; exact hP, hD⟩, hS.F ht⟩) hS.2.2 dLA_link_24
/-- what the helper leaves and answers -/
def zH_owner (P S : ZS) (f : Nat → Int64) (x0 : Int32) (x1 : Int32) (x2 : Int32) (r : Int32) (w : ZS × ZS × (Nat → Int64)) : Prop := match fRG_owner P S x0 x1 x2 with
  | .error k => r = (if k = 1 then 1 else 2) ∧ w = (P, S, f)
  | .ok z => r = 0 ∧ w = (z.1, z.2, f)
theorem fRG_owner_cs {P S : ZS} {x0 x1 x2 : Int32} {k : Nat} (h : fRG_owner P S x0 x1 x2 = .error k) : k = 1 ∨ k = 2 := by
  simp only [fRG_owner, zbind] at h
  repeat' split at h
  all_goals first | (cases h; exact Or.inl rfl) | (cases h; exact Or.inr rfl) | (cases h; first | exact Or.inl (fRG_requireBridge_c (by assumption)) | exact Or.inl (fRG_requireLink_c (by assumption)) | exact Or.inr (fRG_requireNotStarted_c (by assumption)) | exact Or.inl (fRG_requireRing_c (by assumption))) | cases h
set_option maxHeartbeats 4000000 in
set_option maxRecDepth 100000 in
theorem tLA_owner (l : Launch) (dC : Nat → ClassId) (dI : Nat → Nat → Nat) (cI cZ cJ cA : ClassId) (a0 : Array Value) (s0 : State) (o b : Nat → Nat) (hfl : l.flags = Jvm.pinnedFlags ++ [Jvm.noTraceFlag]) (P S : ZS) (f : Nat → Int64) (qo sz : Nat) (x0 : Int32) (x1 : Int32) (x2 : Int32) (gP : cok P) (gS : cok S) : Met l yLA_owner [Cond.codeWith yLA_owner bLA_owner 5 (some .int) [(0, 7, 10, 19), (0, 7, 14, 13)]] ({ frames := 8, cells := 1, slots := 6, locals := 134 } : Room) (zP zCl dC dI (zTZ cI cZ cJ cA) a0 s0 [.ref (o 0), .int x0, .int x1, .int x2] sz (CW cI cZ cA o b P S ++ [(qo, .inl (cJ, 1, .inr (.inl f)))])) (zQH zCl dC dI (fun (r : Int32) (x9 : ZS × ZS × (Nat → Int64)) => zH_owner P S f x0 x1 x2 r x9 ∧ cok x9.1 ∧ cok x9.2.1) (fun x9 : ZS × ZS × (Nat → Int64) => (CW cI cZ cA o b x9.1 x9.2.1 ++ [(qo, .inl (cJ, 1, .inr (.inl x9.2.2)))])) (va_A (CW cI cZ cA o b P S ++ [(qo, .inl (cJ, 1, .inr (.inl f)))]) sz)) 1 6 (va_A (CW cI cZ cA o b P S ++ [(qo, .inl (cJ, 1, .inr (.inl f)))]) sz) := by
  refine tq_ofWith (cc := bLA_owner) (maxL := 5) (ret := (some .int)) (hs := [(0, 7, 10, 19), (0, 7, 14, 13)]) (by decide) rfl ?_
  intro p e s m args below meth c s₁ B hml htab hv
  obtain ⟨rfl, hsz, hP, hK, hD0, hB⟩ := hv
  have hx := B.exec
  have hb := B.bytes
  have hr := B.returns
  have hown : s.vm.findClass "RingGuardLaw" = some m.cls := findClass_of_methodNamed B.named
  have hlocks := B.notSynchronized
  subst hsz
  have hD := hD0.self (sz := s.heap.size)
  have hA0 := zA0 hD0 hB
  generalize hAe : va_A (CW cI cZ cA o b P S ++ [(qo, .inl (cJ, 1, .inr (.inl f)))]) s.heap.size = A at hD hA0 ⊢
  have hAD := hA0
  have hA : ∀ q : Nat, s.heap.size ≤ q → A q := fun q h => by rw [← hAe]; exact Or.inr h
  have hS : va_S A s.heap s.heap [] := va_S.rf
  have hl := lv_entry ([.ref (o 0), .int x0, .int x1, .int x2]) (n := 5) (Nat.le_of_ble_eq_true rfl)
  rw [lg_entry_eq]
  generalize (lg_sl ([.ref (o 0), .int x0, .int x1, .int x2]) ++ List.replicate (5 - (lg_sl ([.ref (o 0), .int x0, .int x1, .int x2])).length) Slot.unset).toArray = ls at hl ⊢
  have hl : lv_has ls 5 [(0, .ref (o 0)), (1, .int x0), (2, .int x1), (3, .int x2)] := hl
  refine lv_aload_n hx hb dLA_owner_0 rfl (lv_at hl 0 rfl) ?_
  refine lv_iload_n hx hb dLA_owner_1 rfl (lv_at hl 1 rfl) ?_
  refine lv_iload_n hx hb dLA_owner_2 rfl (lv_at hl 2 rfl) ?_
  refine lv_iload_n hx hb dLA_owner_3 rfl (lv_at hl 3 rfl) ?_
  have hPc := zPL hP
  have hDc := zDL hD
  rcases hc : fRG_owner P S x0 x1 x2 with k | y
  · rcases fRG_owner_cs hc with rfl | rfl
    · skip
      refine tq_catch (hp := 10) (tq_runV (As := [.int x0, .int x1, .int x2]) (rest := []) ⟨hx, hb, hml, hown, zno⟩ (tRG_owner_T1 l dC dI cI cZ cJ cA a0 s0 o b hfl P S s.heap.size x0 x1 x2 gP gS hc) (zcw 3 (hB.word (zm2 k2_184) rfl) (hB.word (zm1 k1_1) rfl) (hB.word (zm2 k2_181) rfl) (hB.word (zm2 k2_182) rfl) (hB.word (zm2 k2_183) rfl) rfl rfl (by decide +kernel) ⟨Nat.le_of_ble_eq_true rfl, Nat.le_of_ble_eq_true rfl⟩) ⟨zP_blind, va_recv hK hPc (ci := 0) (q0 := 0) rfl rfl, zP_pre hPc hK hDc hAD (zB_on hB hA0 hS)⟩ rfl rfl hl.1 rfl (lv_room (Nat.le_of_ble_eq_true rfl)) dLA_owner_4 ⟨Nat.le_of_ble_eq_true rfl, Nat.le_of_ble_eq_true rfl⟩) hown htab (zsel1 (by decide) (by decide) (hB.word (zm2 k2_142) rfl) (zfit (args := #[]) (hB.word (zm2 k2_153) rfl))) hS (fun q h => hA q (Nat.le_trans hS.1 h)) (fun xq H1 locs hz1 hk1 hS => ?_)
      have hP := zKeep hP hk1
      refine lv_astore (lv' := [(4, .ref xq), (0, .ref (o 0)), (1, .int x0), (2, .int x1), (3, .int x2)]) hx hb dLA_owner_10 hl (by decide) rfl (fun ls hl => ?_)
      refine lv_iconst (v := 1) hx hb dLA_owner_12 (by decide) ?_
      exact W.iret (v := 1) hx hb hr (fun t ht hW => ⟨⟨1, (P, S, f), rfl, ⟨by unfold zH_owner; rw [hc]; exact ⟨by decide, rfl⟩, gP, gS⟩, by rw [ht]; exact hP, hD⟩, hS.F ht⟩) hS.2.2 dLA_owner_13
    · skip
      refine tq_catch (hp := 14) (tq_runV (As := [.int x0, .int x1, .int x2]) (rest := []) ⟨hx, hb, hml, hown, zno⟩ (tRG_owner_T2 l dC dI cI cZ cJ cA a0 s0 o b hfl P S s.heap.size x0 x1 x2 gP gS hc) (zcw 3 (hB.word (zm2 k2_184) rfl) (hB.word (zm1 k1_1) rfl) (hB.word (zm2 k2_181) rfl) (hB.word (zm2 k2_182) rfl) (hB.word (zm2 k2_183) rfl) rfl rfl (by decide +kernel) ⟨Nat.le_of_ble_eq_true rfl, Nat.le_of_ble_eq_true rfl⟩) ⟨zP_blind, va_recv hK hPc (ci := 0) (q0 := 0) rfl rfl, zP_pre hPc hK hDc hAD (zB_on hB hA0 hS)⟩ rfl rfl hl.1 rfl (lv_room (Nat.le_of_ble_eq_true rfl)) dLA_owner_4 ⟨Nat.le_of_ble_eq_true rfl, Nat.le_of_ble_eq_true rfl⟩) hown htab (zsel2 (by decide) (by decide) (hB.word (zm2 k2_142) rfl) (znofit hB zno_ISE) (zsel1 (by decide) (by decide) (hB.word (zm2 k2_62) rfl) (zfit (args := #[]) (hB.word (zm2 k2_73) rfl)))) hS (fun q h => hA q (Nat.le_trans hS.1 h)) (fun xq H1 locs hz1 hk1 hS => ?_)
      have hP := zKeep hP hk1
      refine lv_astore (lv' := [(4, .ref xq), (0, .ref (o 0)), (1, .int x0), (2, .int x1), (3, .int x2)]) hx hb dLA_owner_14 hl (by decide) rfl (fun ls hl => ?_)
      refine lv_iconst (v := 2) hx hb dLA_owner_16 (by decide) ?_
      exact W.iret (v := 2) hx hb hr (fun t ht hW => ⟨⟨2, (P, S, f), rfl, ⟨by unfold zH_owner; rw [hc]; exact ⟨by decide, rfl⟩, gP, gS⟩, by rw [ht]; exact hP, hD⟩, hS.F ht⟩) hS.2.2 dLA_owner_17
  · skip
    refine zcVL (va_runV (As := [.int x0, .int x1, .int x2]) (rest := []) ⟨hx, hb, hml, hown, zno⟩ (tRG_owner l dC dI cI cZ cJ cA a0 s0 o b P S s.heap.size x0 x1 x2 gP gS y hc) (zcw 3 (hB.word (zm2 k2_184) rfl) (hB.word (zm1 k1_1) rfl) (hB.word (zm2 k2_181) rfl) (hB.word (zm2 k2_182) rfl) (hB.word (zm2 k2_183) rfl) rfl rfl (by decide +kernel) ⟨Nat.le_of_ble_eq_true rfl, Nat.le_of_ble_eq_true rfl⟩) ⟨zP_blind, va_recv hK hPc (ci := 0) (q0 := 0) rfl rfl, zP_pre hPc hK hDc hAD (zB_on hB hA0 hS)⟩ rfl rfl hl.1 rfl (lv_room (Nat.le_of_ble_eq_true rfl)) dLA_owner_4 ⟨Nat.le_of_ble_eq_true rfl, Nat.le_of_ble_eq_true rfl⟩) hP hD hS hA (fun x9 H1 locs hq hP hD hS => ?_)
    obtain ⟨P1, S1⟩ := x9
    have gP1 := hq.2.1
    have gS1 := hq.2.2
    have ey := hq.1
    subst ey
    have hP : va_P (dC, dI) zCl (CW cI cZ cA o b P1 S1 ++ [(qo, .inl (cJ, 1, .inr (.inl f)))]) H1 := hP
    have hD : va_D A (CW cI cZ cA o b P1 S1 ++ [(qo, .inl (cJ, 1, .inr (.inl f)))]) := hD
    refine lv_goto (tgt := 18) hx hb dLA_owner_7 (by decide) ?_
    refine lv_iconst (v := 0) hx hb dLA_owner_18 (by decide) ?_
    refine W.widen (k := 1) (n := 6) (Nat.le_of_ble_eq_true rfl) (Nat.le_of_ble_eq_true rfl) ?_
    exact W.iret (v := 0) hx hb hr (fun t ht hW => ⟨⟨0, (P1, S1, f), rfl, ⟨by unfold zH_owner; rw [hc]; exact ⟨rfl, rfl⟩, gP1, gS1⟩, by rw [ht]; exact hP, hD⟩, hS.F ht⟩) hS.2.2 dLA_owner_19
/-- what the helper leaves and answers -/
def zH_start (P S : ZS) (f : Nat → Int64) (r : Int32) (w : ZS × ZS × (Nat → Int64)) : Prop := match fRG_start P S with
  | .error k => r = (1) ∧ w = (P, S, f)
  | .ok z => r = 0 ∧ w = (z.1, z.2.1, vp_updL f (0 : Int32).toNatClampNeg (z.2.2.toInt64))
theorem fRG_start_cs {P S : ZS} {k : Nat} (h : fRG_start P S = .error k) : k = 2 := by
  simp only [fRG_start, zbind] at h
  repeat' split at h
  all_goals first | (cases h; rfl) | (cases h; first | exact fRG_requireNotStarted_c (by assumption)) | cases h
theorem fRG_start_st {P S : ZS} {y : ZS × ZS × Int32} (h : fRG_start P S = .ok y) : P.I 2 = 0 := by
  simp only [fRG_start, zbind, zl] at h
  repeat' split at h
  all_goals first | exact zk_rN (by assumption) | cases h
set_option maxHeartbeats 4000000 in
set_option maxRecDepth 100000 in
theorem tLA_start (l : Launch) (dC : Nat → ClassId) (dI : Nat → Nat → Nat) (cI cZ cJ cA : ClassId) (a0 : Array Value) (s0 : State) (o b : Nat → Nat) (hfl : l.flags = Jvm.pinnedFlags ++ [Jvm.noTraceFlag]) (P S : ZS) (f : Nat → Int64) (qo sz : Nat) (gP : cok P) (gS : cok S) (hPre : P.I 2 = 0 → zPre P) : Met l yLA_start [Cond.codeWith yLA_start bLA_start 3 (some .int) [(0, 8, 11, 13)]] ({ frames := 8, cells := 1, slots := 6, locals := 163 } : Room) (zP zCl dC dI (zTZ cI cZ cJ cA) a0 s0 [.ref (o 0), .ref qo] sz (CW cI cZ cA o b P S ++ [(qo, .inl (cJ, 1, .inr (.inl f)))])) (zQH zCl dC dI (fun (r : Int32) (x9 : ZS × ZS × (Nat → Int64)) => zH_start P S f  r x9 ∧ cok x9.1 ∧ cok x9.2.1) (fun x9 : ZS × ZS × (Nat → Int64) => (CW cI cZ cA o b x9.1 x9.2.1 ++ [(qo, .inl (cJ, 1, .inr (.inl x9.2.2)))])) (va_A (CW cI cZ cA o b P S ++ [(qo, .inl (cJ, 1, .inr (.inl f)))]) sz)) 1 6 (va_A (CW cI cZ cA o b P S ++ [(qo, .inl (cJ, 1, .inr (.inl f)))]) sz) := by
  refine tq_ofWith (cc := bLA_start) (maxL := 3) (ret := (some .int)) (hs := [(0, 8, 11, 13)]) (by decide) rfl ?_
  intro p e s m args below meth c s₁ B hml htab hv
  obtain ⟨rfl, hsz, hP, hK, hD0, hB⟩ := hv
  have hx := B.exec
  have hb := B.bytes
  have hr := B.returns
  have hown : s.vm.findClass "RingGuardLaw" = some m.cls := findClass_of_methodNamed B.named
  have hlocks := B.notSynchronized
  subst hsz
  have hD := hD0.self (sz := s.heap.size)
  have hA0 := zA0 hD0 hB
  generalize hAe : va_A (CW cI cZ cA o b P S ++ [(qo, .inl (cJ, 1, .inr (.inl f)))]) s.heap.size = A at hD hA0 ⊢
  have hAD := hA0
  have hA : ∀ q : Nat, s.heap.size ≤ q → A q := fun q h => by rw [← hAe]; exact Or.inr h
  have hS : va_S A s.heap s.heap [] := va_S.rf
  have hl := lv_entry ([.ref (o 0), .ref qo]) (n := 3) (Nat.le_of_ble_eq_true rfl)
  rw [lg_entry_eq]
  generalize (lg_sl ([.ref (o 0), .ref qo]) ++ List.replicate (3 - (lg_sl ([.ref (o 0), .ref qo])).length) Slot.unset).toArray = ls at hl ⊢
  have hl : lv_has ls 3 [(0, .ref (o 0)), (1, .ref qo)] := hl
  refine lv_aload_n hx hb dLA_start_0 rfl (lv_at hl 1 rfl) ?_
  refine lv_iconst (v := 0) hx hb dLA_start_1 (by decide) ?_
  refine lv_aload_n hx hb dLA_start_2 rfl (lv_at hl 0 rfl) ?_
  have hPc := zPL hP
  have hDc := zDL hD
  rcases hc : fRG_start P S with k | y
  · have x9 := fRG_start_cs hc
    subst x9
    refine tq_catch (hp := 11) (tq_runV (As := []) (rest := [.int 0, .ref qo]) ⟨hx, hb, hml, hown, zno⟩ (tRG_start_T2 l dC dI cI cZ cJ cA a0 s0 o b hfl P S s.heap.size gP gS hc) (zcw 0 (hB.word (zm2 k2_196) rfl) (hB.word (zm1 k1_1) rfl) (hB.word (zm2 k2_193) rfl) (hB.word (zm2 k2_194) rfl) (hB.word (zm2 k2_195) rfl) rfl rfl (by decide +kernel) ⟨Nat.le_of_ble_eq_true rfl, Nat.le_of_ble_eq_true rfl⟩) ⟨zP_blind, va_recv hK hPc (ci := 0) (q0 := 0) rfl rfl, zP_pre hPc hK hDc hAD (zB_on hB hA0 hS)⟩ rfl rfl hl.1 rfl (lv_room (Nat.le_of_ble_eq_true rfl)) dLA_start_3 ⟨Nat.le_of_ble_eq_true rfl, Nat.le_of_ble_eq_true rfl⟩) hown htab (zsel1 (by decide) (by decide) (hB.word (zm2 k2_62) rfl) (zfit (args := #[]) (hB.word (zm2 k2_73) rfl))) hS (fun q h => hA q (Nat.le_trans hS.1 h)) (fun xq H1 locs hz1 hk1 hS => ?_)
    have hP := zKeep hP hk1
    refine lv_astore_n (lv' := [(2, .ref xq), (0, .ref (o 0)), (1, .ref qo)]) hx hb dLA_start_11 rfl hl (by decide) rfl (fun ls hl => ?_)
    refine lv_iconst (v := 1) hx hb dLA_start_12 (by decide) ?_
    exact W.iret (v := 1) hx hb hr (fun t ht hW => ⟨⟨1, (P, S, f), rfl, ⟨by unfold zH_start; rw [hc]; exact ⟨by decide, rfl⟩, gP, gS⟩, by rw [ht]; exact hP, hD⟩, hS.F ht⟩) hS.2.2 dLA_start_13
  · skip
    have hPre1 := hPre (fRG_start_st hc)
    refine zcIL (va_runV (As := []) (rest := [.int 0, .ref qo]) ⟨hx, hb, hml, hown, zno⟩ (tRG_start l dC dI cI cZ cJ cA a0 s0 o b P S s.heap.size gP gS hPre1 y hc) (zcw 0 (hB.word (zm2 k2_196) rfl) (hB.word (zm1 k1_1) rfl) (hB.word (zm2 k2_193) rfl) (hB.word (zm2 k2_194) rfl) (hB.word (zm2 k2_195) rfl) rfl rfl (by decide +kernel) ⟨Nat.le_of_ble_eq_true rfl, Nat.le_of_ble_eq_true rfl⟩) ⟨zP_blind, va_recv hK hPc (ci := 0) (q0 := 0) rfl rfl, zP_pre hPc hK hDc hAD (zB_on hB hA0 hS)⟩ rfl rfl hl.1 rfl (lv_room (Nat.le_of_ble_eq_true rfl)) dLA_start_3 ⟨Nat.le_of_ble_eq_true rfl, Nat.le_of_ble_eq_true rfl⟩) hP hD hS hA (fun k9 x9 H1 locs hq hP hD hS => ?_)
    obtain ⟨P1, S1⟩ := x9
    have gP1 := hq.2.1
    have gS1 := hq.2.2.1
    have ey := hq.1
    subst ey
    have hP : va_P (dC, dI) zCl (CW cI cZ cA o b P1 S1 ++ [(qo, .inl (cJ, 1, .inr (.inl f)))]) H1 := hP
    have hD : va_D A (CW cI cZ cA o b P1 S1 ++ [(qo, .inl (cJ, 1, .inr (.inl f)))]) := hD
    refine lv_i2l (v := k9.toInt64) hx hb dLA_start_6 rfl ?_
    refine va_last hx hb hK hP hD hS 84 2 (zAtL CW_len) rfl (i := 0) (by unfold vp_in; decide) dLA_start_7 (fun H locs hP hD hS => ?_)
    rw [zSetL CW_len] at hP hD
    refine lv_goto (tgt := 14) hx hb dLA_start_8 (by decide) ?_
    refine lv_iconst (v := 0) hx hb dLA_start_14 (by decide) ?_
    refine W.widen (k := 1) (n := 6) (Nat.le_of_ble_eq_true rfl) (Nat.le_of_ble_eq_true rfl) ?_
    exact W.iret (v := 0) hx hb hr (fun t ht hW => ⟨⟨0, (P1, S1, (vp_updL f (0 : Int32).toNatClampNeg k9.toInt64)), rfl, ⟨by unfold zH_start; rw [hc]; exact ⟨rfl, rfl⟩, gP1, gS1⟩, by rw [ht]; exact hP, hD⟩, hS.F ht⟩) hS.2.2 dLA_start_15
/-- what the helper leaves and answers -/
def zH_fail (P S : ZS) (f : Nat → Int64) (x0 : Int32) (r : Int32) (w : ZS × ZS × (Nat → Int64)) : Prop := match fRG_fail P S x0 with
  | .error k => r = (if k = 1 then 1 else 2) ∧ w = (P, S, f)
  | .ok z => r = 0 ∧ w = (P, z.1, vp_updL f (0 : Int32).toNatClampNeg ((if z.2 = 0 then (0 : Int64) else 1)))
theorem fRG_fail_cs {P S : ZS} {x0 : Int32} {k : Nat} (h : fRG_fail P S x0 = .error k) : k = 1 ∨ k = 2 := by
  simp only [fRG_fail, zbind] at h
  repeat' split at h
  all_goals first | (cases h; exact Or.inl rfl) | (cases h; exact Or.inr rfl) | (cases h; first | exact Or.inl (fRG_requireLink_c (by assumption)) | exact Or.inr (fRG_requireStarted_c (by assumption))) | cases h
theorem fRG_fail_st {P S : ZS} {x0 : Int32} {y : ZS × Int32} (h : fRG_fail P S x0 = .ok y) : ¬ P.I 2 = 0 := by
  simp only [fRG_fail, zbind, zl] at h
  repeat' split at h
  all_goals first | exact zk_rS (by assumption) | cases h
set_option maxHeartbeats 4000000 in
set_option maxRecDepth 100000 in
theorem tLA_fail (l : Launch) (dC : Nat → ClassId) (dI : Nat → Nat → Nat) (cI cZ cJ cA : ClassId) (a0 : Array Value) (s0 : State) (o b : Nat → Nat) (hfl : l.flags = Jvm.pinnedFlags ++ [Jvm.noTraceFlag]) (P S : ZS) (f : Nat → Int64) (qo sz : Nat) (x0 : Int32) (gP : cok P) (gS : cok S) (hQ : P.I 2 = 0 ∨ zQ P) : Met l yLA_fail [Cond.codeWith yLA_fail bLA_fail 4 (some .int) [(0, 16, 19, 19), (0, 16, 22, 13)]] ({ frames := 8, cells := 1, slots := 6, locals := 133 } : Room) (zP zCl dC dI (zTZ cI cZ cJ cA) a0 s0 [.ref (o 0), .int x0, .ref qo] sz (CW cI cZ cA o b P S ++ [(qo, .inl (cJ, 1, .inr (.inl f)))])) (zQH zCl dC dI (fun (r : Int32) (x9 : ZS × ZS × (Nat → Int64)) => zH_fail P S f x0 r x9 ∧ cok x9.1 ∧ cok x9.2.1) (fun x9 : ZS × ZS × (Nat → Int64) => (CW cI cZ cA o b x9.1 x9.2.1 ++ [(qo, .inl (cJ, 1, .inr (.inl x9.2.2)))])) (va_A (CW cI cZ cA o b P S ++ [(qo, .inl (cJ, 1, .inr (.inl f)))]) sz)) 1 6 (va_A (CW cI cZ cA o b P S ++ [(qo, .inl (cJ, 1, .inr (.inl f)))]) sz) := by
  refine tq_ofWith (cc := bLA_fail) (maxL := 4) (ret := (some .int)) (hs := [(0, 16, 19, 19), (0, 16, 22, 13)]) (by decide) rfl ?_
  intro p e s m args below meth c s₁ B hml htab hv
  obtain ⟨rfl, hsz, hP, hK, hD0, hB⟩ := hv
  have hx := B.exec
  have hb := B.bytes
  have hr := B.returns
  have hown : s.vm.findClass "RingGuardLaw" = some m.cls := findClass_of_methodNamed B.named
  have hlocks := B.notSynchronized
  subst hsz
  have hD := hD0.self (sz := s.heap.size)
  have hA0 := zA0 hD0 hB
  generalize hAe : va_A (CW cI cZ cA o b P S ++ [(qo, .inl (cJ, 1, .inr (.inl f)))]) s.heap.size = A at hD hA0 ⊢
  have hAD := hA0
  have hA : ∀ q : Nat, s.heap.size ≤ q → A q := fun q h => by rw [← hAe]; exact Or.inr h
  have hS : va_S A s.heap s.heap [] := va_S.rf
  have hl := lv_entry ([.ref (o 0), .int x0, .ref qo]) (n := 4) (Nat.le_of_ble_eq_true rfl)
  rw [lg_entry_eq]
  generalize (lg_sl ([.ref (o 0), .int x0, .ref qo]) ++ List.replicate (4 - (lg_sl ([.ref (o 0), .int x0, .ref qo])).length) Slot.unset).toArray = ls at hl ⊢
  have hl : lv_has ls 4 [(0, .ref (o 0)), (1, .int x0), (2, .ref qo)] := hl
  refine lv_aload_n hx hb dLA_fail_0 rfl (lv_at hl 2 rfl) ?_
  refine lv_iconst (v := 0) hx hb dLA_fail_1 (by decide) ?_
  refine lv_aload_n hx hb dLA_fail_2 rfl (lv_at hl 0 rfl) ?_
  refine lv_iload_n hx hb dLA_fail_3 rfl (lv_at hl 1 rfl) ?_
  have hPc := zPL hP
  have hDc := zDL hD
  rcases hc : fRG_fail P S x0 with k | y
  · rcases fRG_fail_cs hc with rfl | rfl
    · skip
      refine tq_catch (hp := 19) (tq_runV (As := [.int x0]) (rest := [.int 0, .ref qo]) ⟨hx, hb, hml, hown, zno⟩ (tRG_fail_T1 l dC dI cI cZ cJ cA a0 s0 o b hfl P S s.heap.size x0 gP gS hc) (zcw 1 (hB.word (zm3 k3_54) rfl) (hB.word (zm1 k1_1) rfl) (hB.word (zm3 k3_51) rfl) (hB.word (zm3 k3_52) rfl) (hB.word (zm3 k3_53) rfl) rfl rfl (by decide +kernel) ⟨Nat.le_of_ble_eq_true rfl, Nat.le_of_ble_eq_true rfl⟩) ⟨zP_blind, va_recv hK hPc (ci := 0) (q0 := 0) rfl rfl, zP_pre hPc hK hDc hAD (zB_on hB hA0 hS)⟩ rfl rfl hl.1 rfl (lv_room (Nat.le_of_ble_eq_true rfl)) dLA_fail_4 ⟨Nat.le_of_ble_eq_true rfl, Nat.le_of_ble_eq_true rfl⟩) hown htab (zsel1 (by decide) (by decide) (hB.word (zm2 k2_142) rfl) (zfit (args := #[]) (hB.word (zm2 k2_153) rfl))) hS (fun q h => hA q (Nat.le_trans hS.1 h)) (fun xq H1 locs hz1 hk1 hS => ?_)
      have hP := zKeep hP hk1
      refine lv_astore_n (lv' := [(3, .ref xq), (0, .ref (o 0)), (1, .int x0), (2, .ref qo)]) hx hb dLA_fail_19 rfl hl (by decide) rfl (fun ls hl => ?_)
      refine lv_iconst (v := 1) hx hb dLA_fail_20 (by decide) ?_
      exact W.iret (v := 1) hx hb hr (fun t ht hW => ⟨⟨1, (P, S, f), rfl, ⟨by unfold zH_fail; rw [hc]; exact ⟨by decide, rfl⟩, gP, gS⟩, by rw [ht]; exact hP, hD⟩, hS.F ht⟩) hS.2.2 dLA_fail_21
    · skip
      refine tq_catch (hp := 22) (tq_runV (As := [.int x0]) (rest := [.int 0, .ref qo]) ⟨hx, hb, hml, hown, zno⟩ (tRG_fail_T2 l dC dI cI cZ cJ cA a0 s0 o b hfl P S s.heap.size x0 gP gS hc) (zcw 1 (hB.word (zm3 k3_54) rfl) (hB.word (zm1 k1_1) rfl) (hB.word (zm3 k3_51) rfl) (hB.word (zm3 k3_52) rfl) (hB.word (zm3 k3_53) rfl) rfl rfl (by decide +kernel) ⟨Nat.le_of_ble_eq_true rfl, Nat.le_of_ble_eq_true rfl⟩) ⟨zP_blind, va_recv hK hPc (ci := 0) (q0 := 0) rfl rfl, zP_pre hPc hK hDc hAD (zB_on hB hA0 hS)⟩ rfl rfl hl.1 rfl (lv_room (Nat.le_of_ble_eq_true rfl)) dLA_fail_4 ⟨Nat.le_of_ble_eq_true rfl, Nat.le_of_ble_eq_true rfl⟩) hown htab (zsel2 (by decide) (by decide) (hB.word (zm2 k2_142) rfl) (znofit hB zno_ISE) (zsel1 (by decide) (by decide) (hB.word (zm2 k2_62) rfl) (zfit (args := #[]) (hB.word (zm2 k2_73) rfl)))) hS (fun q h => hA q (Nat.le_trans hS.1 h)) (fun xq H1 locs hz1 hk1 hS => ?_)
      have hP := zKeep hP hk1
      refine lv_astore_n (lv' := [(3, .ref xq), (0, .ref (o 0)), (1, .int x0), (2, .ref qo)]) hx hb dLA_fail_22 rfl hl (by decide) rfl (fun ls hl => ?_)
      refine lv_iconst (v := 2) hx hb dLA_fail_23 (by decide) ?_
      exact W.iret (v := 2) hx hb hr (fun t ht hW => ⟨⟨2, (P, S, f), rfl, ⟨by unfold zH_fail; rw [hc]; exact ⟨by decide, rfl⟩, gP, gS⟩, by rw [ht]; exact hP, hD⟩, hS.F ht⟩) hS.2.2 dLA_fail_24
  · skip
    have gQ : zQ P := hQ.resolve_left (fRG_fail_st hc)
    refine zcIL (va_runV (As := [.int x0]) (rest := [.int 0, .ref qo]) ⟨hx, hb, hml, hown, zno⟩ (tRG_fail l dC dI cI cZ cJ cA a0 s0 o b P S s.heap.size x0 gP gS gQ y hc) (zcw 1 (hB.word (zm3 k3_54) rfl) (hB.word (zm1 k1_1) rfl) (hB.word (zm3 k3_51) rfl) (hB.word (zm3 k3_52) rfl) (hB.word (zm3 k3_53) rfl) rfl rfl (by decide +kernel) ⟨Nat.le_of_ble_eq_true rfl, Nat.le_of_ble_eq_true rfl⟩) ⟨zP_blind, va_recv hK hPc (ci := 0) (q0 := 0) rfl rfl, zP_pre hPc hK hDc hAD (zB_on hB hA0 hS)⟩ rfl rfl hl.1 rfl (lv_room (Nat.le_of_ble_eq_true rfl)) dLA_fail_4 ⟨Nat.le_of_ble_eq_true rfl, Nat.le_of_ble_eq_true rfl⟩) hP hD hS hA (fun k9 x9 H1 locs hq hP hD hS => ?_)
    generalize x9 = S1 at hq hP hD
    have gS1 := hq.2.1
    have ey := hq.1
    subst ey
    have hP : va_P (dC, dI) zCl (CW cI cZ cA o b P S1 ++ [(qo, .inl (cJ, 1, .inr (.inl f)))]) H1 := hP
    have hD : va_D A (CW cI cZ cA o b P S1 ++ [(qo, .inl (cJ, 1, .inr (.inl f)))]) := hD
    refine lv_if_eq (tgt := 14) hx hb dLA_fail_7 (by decide) (fun cz => ?_) (fun cz => ?_)
    · skip
      refine lv_lconst (v := 0) hx hb dLA_fail_14 (by decide) ?_
      refine va_last hx hb hK hP hD hS 84 2 (zAtL CW_len) rfl (i := 0) (by unfold vp_in; decide) dLA_fail_15 (fun H locs hP hD hS => ?_)
      rw [zSetL CW_len] at hP hD
      refine lv_goto (tgt := 25) hx hb dLA_fail_16 (by decide) ?_
      refine lv_iconst (v := 0) hx hb dLA_fail_25 (by decide) ?_
      refine W.widen (k := 1) (n := 6) (Nat.le_of_ble_eq_true rfl) (Nat.le_of_ble_eq_true rfl) ?_
      exact W.iret (v := 0) hx hb hr (fun t ht hW => ⟨⟨0, (P, S1, (vp_updL f (0 : Int32).toNatClampNeg 0)), rfl, ⟨by unfold zH_fail; rw [hc]; exact ⟨rfl, by show (P, S1, _) = (P, S1, vp_updL f _ (if k9 = 0 then (0 : Int64) else 1)); rw [if_pos cz]⟩, gP, gS1⟩, by rw [ht]; exact hP, hD⟩, hS.F ht⟩) hS.2.2 dLA_fail_26
    · skip
      refine lv_lconst (v := 1) hx hb dLA_fail_10 (by decide) ?_
      refine lv_goto (tgt := 15) hx hb dLA_fail_11 (by decide) ?_
      refine va_last hx hb hK hP hD hS 84 2 (zAtL CW_len) rfl (i := 0) (by unfold vp_in; decide) dLA_fail_15 (fun H locs hP hD hS => ?_)
      rw [zSetL CW_len] at hP hD
      refine lv_goto (tgt := 25) hx hb dLA_fail_16 (by decide) ?_
      refine lv_iconst (v := 0) hx hb dLA_fail_25 (by decide) ?_
      refine W.widen (k := 1) (n := 6) (Nat.le_of_ble_eq_true rfl) (Nat.le_of_ble_eq_true rfl) ?_
      exact W.iret (v := 0) hx hb hr (fun t ht hW => ⟨⟨0, (P, S1, (vp_updL f (0 : Int32).toNatClampNeg 1)), rfl, ⟨by unfold zH_fail; rw [hc]; exact ⟨rfl, by show (P, S1, _) = (P, S1, vp_updL f _ (if k9 = 0 then (0 : Int64) else 1)); rw [if_neg cz]⟩, gP, gS1⟩, by rw [ht]; exact hP, hD⟩, hS.F ht⟩) hS.2.2 dLA_fail_26
/-- what the helper leaves and answers -/
def zH_heal (P S : ZS) (f : Nat → Int64) (x0 : Int32) (r : Int32) (w : ZS × ZS × (Nat → Int64)) : Prop := match fRG_heal P S x0 with
  | .error k => r = (if k = 1 then 1 else 2) ∧ w = (P, S, f)
  | .ok z => r = 0 ∧ w = (P, z.1, vp_updL f (0 : Int32).toNatClampNeg ((if z.2 = 0 then (0 : Int64) else 1)))
theorem fRG_heal_cs {P S : ZS} {x0 : Int32} {k : Nat} (h : fRG_heal P S x0 = .error k) : k = 1 ∨ k = 2 := by
  simp only [fRG_heal, zbind] at h
  repeat' split at h
  all_goals first | (cases h; exact Or.inl rfl) | (cases h; exact Or.inr rfl) | (cases h; first | exact Or.inl (fRG_requireLink_c (by assumption)) | exact Or.inr (fRG_requireStarted_c (by assumption))) | cases h
theorem fRG_heal_st {P S : ZS} {x0 : Int32} {y : ZS × Int32} (h : fRG_heal P S x0 = .ok y) : ¬ P.I 2 = 0 := by
  simp only [fRG_heal, zbind, zl] at h
  repeat' split at h
  all_goals first | exact zk_rS (by assumption) | cases h
set_option maxHeartbeats 4000000 in
set_option maxRecDepth 100000 in
theorem tLA_heal (l : Launch) (dC : Nat → ClassId) (dI : Nat → Nat → Nat) (cI cZ cJ cA : ClassId) (a0 : Array Value) (s0 : State) (o b : Nat → Nat) (hfl : l.flags = Jvm.pinnedFlags ++ [Jvm.noTraceFlag]) (P S : ZS) (f : Nat → Int64) (qo sz : Nat) (x0 : Int32) (gP : cok P) (gS : cok S) (hQ : P.I 2 = 0 ∨ zQ P) : Met l yLA_heal [Cond.codeWith yLA_heal bLA_heal 4 (some .int) [(0, 16, 19, 19), (0, 16, 22, 13)]] ({ frames := 8, cells := 1, slots := 6, locals := 133 } : Room) (zP zCl dC dI (zTZ cI cZ cJ cA) a0 s0 [.ref (o 0), .int x0, .ref qo] sz (CW cI cZ cA o b P S ++ [(qo, .inl (cJ, 1, .inr (.inl f)))])) (zQH zCl dC dI (fun (r : Int32) (x9 : ZS × ZS × (Nat → Int64)) => zH_heal P S f x0 r x9 ∧ cok x9.1 ∧ cok x9.2.1) (fun x9 : ZS × ZS × (Nat → Int64) => (CW cI cZ cA o b x9.1 x9.2.1 ++ [(qo, .inl (cJ, 1, .inr (.inl x9.2.2)))])) (va_A (CW cI cZ cA o b P S ++ [(qo, .inl (cJ, 1, .inr (.inl f)))]) sz)) 1 6 (va_A (CW cI cZ cA o b P S ++ [(qo, .inl (cJ, 1, .inr (.inl f)))]) sz) := by
  refine tq_ofWith (cc := bLA_heal) (maxL := 4) (ret := (some .int)) (hs := [(0, 16, 19, 19), (0, 16, 22, 13)]) (by decide) rfl ?_
  intro p e s m args below meth c s₁ B hml htab hv
  obtain ⟨rfl, hsz, hP, hK, hD0, hB⟩ := hv
  have hx := B.exec
  have hb := B.bytes
  have hr := B.returns
  have hown : s.vm.findClass "RingGuardLaw" = some m.cls := findClass_of_methodNamed B.named
  have hlocks := B.notSynchronized
  subst hsz
  have hD := hD0.self (sz := s.heap.size)
  have hA0 := zA0 hD0 hB
  generalize hAe : va_A (CW cI cZ cA o b P S ++ [(qo, .inl (cJ, 1, .inr (.inl f)))]) s.heap.size = A at hD hA0 ⊢
  have hAD := hA0
  have hA : ∀ q : Nat, s.heap.size ≤ q → A q := fun q h => by rw [← hAe]; exact Or.inr h
  have hS : va_S A s.heap s.heap [] := va_S.rf
  have hl := lv_entry ([.ref (o 0), .int x0, .ref qo]) (n := 4) (Nat.le_of_ble_eq_true rfl)
  rw [lg_entry_eq]
  generalize (lg_sl ([.ref (o 0), .int x0, .ref qo]) ++ List.replicate (4 - (lg_sl ([.ref (o 0), .int x0, .ref qo])).length) Slot.unset).toArray = ls at hl ⊢
  have hl : lv_has ls 4 [(0, .ref (o 0)), (1, .int x0), (2, .ref qo)] := hl
  refine lv_aload_n hx hb dLA_heal_0 rfl (lv_at hl 2 rfl) ?_
  refine lv_iconst (v := 0) hx hb dLA_heal_1 (by decide) ?_
  refine lv_aload_n hx hb dLA_heal_2 rfl (lv_at hl 0 rfl) ?_
  refine lv_iload_n hx hb dLA_heal_3 rfl (lv_at hl 1 rfl) ?_
  have hPc := zPL hP
  have hDc := zDL hD
  rcases hc : fRG_heal P S x0 with k | y
  · rcases fRG_heal_cs hc with rfl | rfl
    · skip
      refine tq_catch (hp := 19) (tq_runV (As := [.int x0]) (rest := [.int 0, .ref qo]) ⟨hx, hb, hml, hown, zno⟩ (tRG_heal_T1 l dC dI cI cZ cJ cA a0 s0 o b hfl P S s.heap.size x0 gP gS hc) (zcw 1 (hB.word (zm3 k3_100) rfl) (hB.word (zm1 k1_1) rfl) (hB.word (zm3 k3_97) rfl) (hB.word (zm3 k3_98) rfl) (hB.word (zm3 k3_99) rfl) rfl rfl (by decide +kernel) ⟨Nat.le_of_ble_eq_true rfl, Nat.le_of_ble_eq_true rfl⟩) ⟨zP_blind, va_recv hK hPc (ci := 0) (q0 := 0) rfl rfl, zP_pre hPc hK hDc hAD (zB_on hB hA0 hS)⟩ rfl rfl hl.1 rfl (lv_room (Nat.le_of_ble_eq_true rfl)) dLA_heal_4 ⟨Nat.le_of_ble_eq_true rfl, Nat.le_of_ble_eq_true rfl⟩) hown htab (zsel1 (by decide) (by decide) (hB.word (zm2 k2_142) rfl) (zfit (args := #[]) (hB.word (zm2 k2_153) rfl))) hS (fun q h => hA q (Nat.le_trans hS.1 h)) (fun xq H1 locs hz1 hk1 hS => ?_)
      have hP := zKeep hP hk1
      refine lv_astore_n (lv' := [(3, .ref xq), (0, .ref (o 0)), (1, .int x0), (2, .ref qo)]) hx hb dLA_heal_19 rfl hl (by decide) rfl (fun ls hl => ?_)
      refine lv_iconst (v := 1) hx hb dLA_heal_20 (by decide) ?_
      exact W.iret (v := 1) hx hb hr (fun t ht hW => ⟨⟨1, (P, S, f), rfl, ⟨by unfold zH_heal; rw [hc]; exact ⟨by decide, rfl⟩, gP, gS⟩, by rw [ht]; exact hP, hD⟩, hS.F ht⟩) hS.2.2 dLA_heal_21
    · skip
      refine tq_catch (hp := 22) (tq_runV (As := [.int x0]) (rest := [.int 0, .ref qo]) ⟨hx, hb, hml, hown, zno⟩ (tRG_heal_T2 l dC dI cI cZ cJ cA a0 s0 o b hfl P S s.heap.size x0 gP gS hc) (zcw 1 (hB.word (zm3 k3_100) rfl) (hB.word (zm1 k1_1) rfl) (hB.word (zm3 k3_97) rfl) (hB.word (zm3 k3_98) rfl) (hB.word (zm3 k3_99) rfl) rfl rfl (by decide +kernel) ⟨Nat.le_of_ble_eq_true rfl, Nat.le_of_ble_eq_true rfl⟩) ⟨zP_blind, va_recv hK hPc (ci := 0) (q0 := 0) rfl rfl, zP_pre hPc hK hDc hAD (zB_on hB hA0 hS)⟩ rfl rfl hl.1 rfl (lv_room (Nat.le_of_ble_eq_true rfl)) dLA_heal_4 ⟨Nat.le_of_ble_eq_true rfl, Nat.le_of_ble_eq_true rfl⟩) hown htab (zsel2 (by decide) (by decide) (hB.word (zm2 k2_142) rfl) (znofit hB zno_ISE) (zsel1 (by decide) (by decide) (hB.word (zm2 k2_62) rfl) (zfit (args := #[]) (hB.word (zm2 k2_73) rfl)))) hS (fun q h => hA q (Nat.le_trans hS.1 h)) (fun xq H1 locs hz1 hk1 hS => ?_)
      have hP := zKeep hP hk1
      refine lv_astore_n (lv' := [(3, .ref xq), (0, .ref (o 0)), (1, .int x0), (2, .ref qo)]) hx hb dLA_heal_22 rfl hl (by decide) rfl (fun ls hl => ?_)
      refine lv_iconst (v := 2) hx hb dLA_heal_23 (by decide) ?_
      exact W.iret (v := 2) hx hb hr (fun t ht hW => ⟨⟨2, (P, S, f), rfl, ⟨by unfold zH_heal; rw [hc]; exact ⟨by decide, rfl⟩, gP, gS⟩, by rw [ht]; exact hP, hD⟩, hS.F ht⟩) hS.2.2 dLA_heal_24
  · skip
    have gQ : zQ P := hQ.resolve_left (fRG_heal_st hc)
    refine zcIL (va_runV (As := [.int x0]) (rest := [.int 0, .ref qo]) ⟨hx, hb, hml, hown, zno⟩ (tRG_heal l dC dI cI cZ cJ cA a0 s0 o b P S s.heap.size x0 gP gS gQ y hc) (zcw 1 (hB.word (zm3 k3_100) rfl) (hB.word (zm1 k1_1) rfl) (hB.word (zm3 k3_97) rfl) (hB.word (zm3 k3_98) rfl) (hB.word (zm3 k3_99) rfl) rfl rfl (by decide +kernel) ⟨Nat.le_of_ble_eq_true rfl, Nat.le_of_ble_eq_true rfl⟩) ⟨zP_blind, va_recv hK hPc (ci := 0) (q0 := 0) rfl rfl, zP_pre hPc hK hDc hAD (zB_on hB hA0 hS)⟩ rfl rfl hl.1 rfl (lv_room (Nat.le_of_ble_eq_true rfl)) dLA_heal_4 ⟨Nat.le_of_ble_eq_true rfl, Nat.le_of_ble_eq_true rfl⟩) hP hD hS hA (fun k9 x9 H1 locs hq hP hD hS => ?_)
    generalize x9 = S1 at hq hP hD
    have gS1 := hq.2.1
    have ey := hq.1
    subst ey
    have hP : va_P (dC, dI) zCl (CW cI cZ cA o b P S1 ++ [(qo, .inl (cJ, 1, .inr (.inl f)))]) H1 := hP
    have hD : va_D A (CW cI cZ cA o b P S1 ++ [(qo, .inl (cJ, 1, .inr (.inl f)))]) := hD
    refine lv_if_eq (tgt := 14) hx hb dLA_heal_7 (by decide) (fun cz => ?_) (fun cz => ?_)
    · skip
      refine lv_lconst (v := 0) hx hb dLA_heal_14 (by decide) ?_
      refine va_last hx hb hK hP hD hS 84 2 (zAtL CW_len) rfl (i := 0) (by unfold vp_in; decide) dLA_heal_15 (fun H locs hP hD hS => ?_)
      rw [zSetL CW_len] at hP hD
      refine lv_goto (tgt := 25) hx hb dLA_heal_16 (by decide) ?_
      refine lv_iconst (v := 0) hx hb dLA_heal_25 (by decide) ?_
      refine W.widen (k := 1) (n := 6) (Nat.le_of_ble_eq_true rfl) (Nat.le_of_ble_eq_true rfl) ?_
      exact W.iret (v := 0) hx hb hr (fun t ht hW => ⟨⟨0, (P, S1, (vp_updL f (0 : Int32).toNatClampNeg 0)), rfl, ⟨by unfold zH_heal; rw [hc]; exact ⟨rfl, by show (P, S1, _) = (P, S1, vp_updL f _ (if k9 = 0 then (0 : Int64) else 1)); rw [if_pos cz]⟩, gP, gS1⟩, by rw [ht]; exact hP, hD⟩, hS.F ht⟩) hS.2.2 dLA_heal_26
    · skip
      refine lv_lconst (v := 1) hx hb dLA_heal_10 (by decide) ?_
      refine lv_goto (tgt := 15) hx hb dLA_heal_11 (by decide) ?_
      refine va_last hx hb hK hP hD hS 84 2 (zAtL CW_len) rfl (i := 0) (by unfold vp_in; decide) dLA_heal_15 (fun H locs hP hD hS => ?_)
      rw [zSetL CW_len] at hP hD
      refine lv_goto (tgt := 25) hx hb dLA_heal_16 (by decide) ?_
      refine lv_iconst (v := 0) hx hb dLA_heal_25 (by decide) ?_
      refine W.widen (k := 1) (n := 6) (Nat.le_of_ble_eq_true rfl) (Nat.le_of_ble_eq_true rfl) ?_
      exact W.iret (v := 0) hx hb hr (fun t ht hW => ⟨⟨0, (P, S1, (vp_updL f (0 : Int32).toNatClampNeg 1)), rfl, ⟨by unfold zH_heal; rw [hc]; exact ⟨rfl, by show (P, S1, _) = (P, S1, vp_updL f _ (if k9 = 0 then (0 : Int64) else 1)); rw [if_neg cz]⟩, gP, gS1⟩, by rw [ht]; exact hP, hD⟩, hS.F ht⟩) hS.2.2 dLA_heal_26
/-- what the helper leaves and answers -/
def zH_lose (P S : ZS) (f : Nat → Int64) (x0 : Int32) (x1 : Int32) (r : Int32) (w : ZS × ZS × (Nat → Int64)) : Prop := match fRG_lose P S x0 x1 with
  | .error k => r = (if k = 1 then 1 else 2) ∧ w = (P, S, f)
  | .ok z => r = 0 ∧ w = (P, z.1, vp_updL f (0 : Int32).toNatClampNeg (z.2.toInt64))
theorem fRG_lose_cs {P S : ZS} {x0 x1 : Int32} {k : Nat} (h : fRG_lose P S x0 x1 = .error k) : k = 1 ∨ k = 2 := by
  simp only [fRG_lose, fRG_lose_16, zbind] at h
  repeat' split at h
  all_goals first | (cases h; exact Or.inl rfl) | (cases h; exact Or.inr rfl) | (cases h; first | exact Or.inl (fRG_requireLink_c (by assumption)) | exact Or.inr (fRG_requireStarted_c (by assumption))) | cases h
set_option maxHeartbeats 4000000 in
set_option maxRecDepth 100000 in
theorem tLA_lose (l : Launch) (dC : Nat → ClassId) (dI : Nat → Nat → Nat) (cI cZ cJ cA : ClassId) (a0 : Array Value) (s0 : State) (o b : Nat → Nat) (hfl : l.flags = Jvm.pinnedFlags ++ [Jvm.noTraceFlag]) (P S : ZS) (f : Nat → Int64) (qo sz : Nat) (x0 : Int32) (x1 : Int32) (gP : cok P) (gS : cok S) : Met l yLA_lose [Cond.codeWith yLA_lose bLA_lose 5 (some .int) [(0, 10, 13, 19), (0, 10, 17, 13)]] ({ frames := 8, cells := 1, slots := 6, locals := 134 } : Room) (zP zCl dC dI (zTZ cI cZ cJ cA) a0 s0 [.ref (o 0), .int x0, .int x1, .ref qo] sz (CW cI cZ cA o b P S ++ [(qo, .inl (cJ, 1, .inr (.inl f)))])) (zQH zCl dC dI (fun (r : Int32) (x9 : ZS × ZS × (Nat → Int64)) => zH_lose P S f x0 x1 r x9 ∧ cok x9.1 ∧ cok x9.2.1) (fun x9 : ZS × ZS × (Nat → Int64) => (CW cI cZ cA o b x9.1 x9.2.1 ++ [(qo, .inl (cJ, 1, .inr (.inl x9.2.2)))])) (va_A (CW cI cZ cA o b P S ++ [(qo, .inl (cJ, 1, .inr (.inl f)))]) sz)) 1 6 (va_A (CW cI cZ cA o b P S ++ [(qo, .inl (cJ, 1, .inr (.inl f)))]) sz) := by
  refine tq_ofWith (cc := bLA_lose) (maxL := 5) (ret := (some .int)) (hs := [(0, 10, 13, 19), (0, 10, 17, 13)]) (by decide) rfl ?_
  intro p e s m args below meth c s₁ B hml htab hv
  obtain ⟨rfl, hsz, hP, hK, hD0, hB⟩ := hv
  have hx := B.exec
  have hb := B.bytes
  have hr := B.returns
  have hown : s.vm.findClass "RingGuardLaw" = some m.cls := findClass_of_methodNamed B.named
  have hlocks := B.notSynchronized
  subst hsz
  have hD := hD0.self (sz := s.heap.size)
  have hA0 := zA0 hD0 hB
  generalize hAe : va_A (CW cI cZ cA o b P S ++ [(qo, .inl (cJ, 1, .inr (.inl f)))]) s.heap.size = A at hD hA0 ⊢
  have hAD := hA0
  have hA : ∀ q : Nat, s.heap.size ≤ q → A q := fun q h => by rw [← hAe]; exact Or.inr h
  have hS : va_S A s.heap s.heap [] := va_S.rf
  have hl := lv_entry ([.ref (o 0), .int x0, .int x1, .ref qo]) (n := 5) (Nat.le_of_ble_eq_true rfl)
  rw [lg_entry_eq]
  generalize (lg_sl ([.ref (o 0), .int x0, .int x1, .ref qo]) ++ List.replicate (5 - (lg_sl ([.ref (o 0), .int x0, .int x1, .ref qo])).length) Slot.unset).toArray = ls at hl ⊢
  have hl : lv_has ls 5 [(0, .ref (o 0)), (1, .int x0), (2, .int x1), (3, .ref qo)] := hl
  refine lv_aload_n hx hb dLA_lose_0 rfl (lv_at hl 3 rfl) ?_
  refine lv_iconst (v := 0) hx hb dLA_lose_1 (by decide) ?_
  refine lv_aload_n hx hb dLA_lose_2 rfl (lv_at hl 0 rfl) ?_
  refine lv_iload_n hx hb dLA_lose_3 rfl (lv_at hl 1 rfl) ?_
  refine lv_iload_n hx hb dLA_lose_4 rfl (lv_at hl 2 rfl) ?_
  have hPc := zPL hP
  have hDc := zDL hD
  rcases hc : fRG_lose P S x0 x1 with k | y
  · rcases fRG_lose_cs hc with rfl | rfl
    · skip
      refine tq_catch (hp := 13) (tq_runV (As := [.int x0, .int x1]) (rest := [.int 0, .ref qo]) ⟨hx, hb, hml, hown, zno⟩ (tRG_lose_T1 l dC dI cI cZ cJ cA a0 s0 o b hfl P S s.heap.size x0 x1 gP gS hc) (zcw 2 (hB.word (zm3 k3_115) rfl) (hB.word (zm1 k1_1) rfl) (hB.word (zm3 k3_112) rfl) (hB.word (zm3 k3_113) rfl) (hB.word (zm3 k3_114) rfl) rfl rfl (by decide +kernel) ⟨Nat.le_of_ble_eq_true rfl, Nat.le_of_ble_eq_true rfl⟩) ⟨zP_blind, va_recv hK hPc (ci := 0) (q0 := 0) rfl rfl, zP_pre hPc hK hDc hAD (zB_on hB hA0 hS)⟩ rfl rfl hl.1 rfl (lv_room (Nat.le_of_ble_eq_true rfl)) dLA_lose_5 ⟨Nat.le_of_ble_eq_true rfl, Nat.le_of_ble_eq_true rfl⟩) hown htab (zsel1 (by decide) (by decide) (hB.word (zm2 k2_142) rfl) (zfit (args := #[]) (hB.word (zm2 k2_153) rfl))) hS (fun q h => hA q (Nat.le_trans hS.1 h)) (fun xq H1 locs hz1 hk1 hS => ?_)
      have hP := zKeep hP hk1
      refine lv_astore (lv' := [(4, .ref xq), (0, .ref (o 0)), (1, .int x0), (2, .int x1), (3, .ref qo)]) hx hb dLA_lose_13 hl (by decide) rfl (fun ls hl => ?_)
      refine lv_iconst (v := 1) hx hb dLA_lose_15 (by decide) ?_
      exact W.iret (v := 1) hx hb hr (fun t ht hW => ⟨⟨1, (P, S, f), rfl, ⟨by unfold zH_lose; rw [hc]; exact ⟨by decide, rfl⟩, gP, gS⟩, by rw [ht]; exact hP, hD⟩, hS.F ht⟩) hS.2.2 dLA_lose_16
    · skip
      refine tq_catch (hp := 17) (tq_runV (As := [.int x0, .int x1]) (rest := [.int 0, .ref qo]) ⟨hx, hb, hml, hown, zno⟩ (tRG_lose_T2 l dC dI cI cZ cJ cA a0 s0 o b hfl P S s.heap.size x0 x1 gP gS hc) (zcw 2 (hB.word (zm3 k3_115) rfl) (hB.word (zm1 k1_1) rfl) (hB.word (zm3 k3_112) rfl) (hB.word (zm3 k3_113) rfl) (hB.word (zm3 k3_114) rfl) rfl rfl (by decide +kernel) ⟨Nat.le_of_ble_eq_true rfl, Nat.le_of_ble_eq_true rfl⟩) ⟨zP_blind, va_recv hK hPc (ci := 0) (q0 := 0) rfl rfl, zP_pre hPc hK hDc hAD (zB_on hB hA0 hS)⟩ rfl rfl hl.1 rfl (lv_room (Nat.le_of_ble_eq_true rfl)) dLA_lose_5 ⟨Nat.le_of_ble_eq_true rfl, Nat.le_of_ble_eq_true rfl⟩) hown htab (zsel2 (by decide) (by decide) (hB.word (zm2 k2_142) rfl) (znofit hB zno_ISE) (zsel1 (by decide) (by decide) (hB.word (zm2 k2_62) rfl) (zfit (args := #[]) (hB.word (zm2 k2_73) rfl)))) hS (fun q h => hA q (Nat.le_trans hS.1 h)) (fun xq H1 locs hz1 hk1 hS => ?_)
      have hP := zKeep hP hk1
      refine lv_astore (lv' := [(4, .ref xq), (0, .ref (o 0)), (1, .int x0), (2, .int x1), (3, .ref qo)]) hx hb dLA_lose_17 hl (by decide) rfl (fun ls hl => ?_)
      refine lv_iconst (v := 2) hx hb dLA_lose_19 (by decide) ?_
      exact W.iret (v := 2) hx hb hr (fun t ht hW => ⟨⟨2, (P, S, f), rfl, ⟨by unfold zH_lose; rw [hc]; exact ⟨by decide, rfl⟩, gP, gS⟩, by rw [ht]; exact hP, hD⟩, hS.F ht⟩) hS.2.2 dLA_lose_20
  · skip
    refine zcIL (va_runV (As := [.int x0, .int x1]) (rest := [.int 0, .ref qo]) ⟨hx, hb, hml, hown, zno⟩ (tRG_lose l dC dI cI cZ cJ cA a0 s0 o b P S s.heap.size x0 x1 gP gS y hc) (zcw 2 (hB.word (zm3 k3_115) rfl) (hB.word (zm1 k1_1) rfl) (hB.word (zm3 k3_112) rfl) (hB.word (zm3 k3_113) rfl) (hB.word (zm3 k3_114) rfl) rfl rfl (by decide +kernel) ⟨Nat.le_of_ble_eq_true rfl, Nat.le_of_ble_eq_true rfl⟩) ⟨zP_blind, va_recv hK hPc (ci := 0) (q0 := 0) rfl rfl, zP_pre hPc hK hDc hAD (zB_on hB hA0 hS)⟩ rfl rfl hl.1 rfl (lv_room (Nat.le_of_ble_eq_true rfl)) dLA_lose_5 ⟨Nat.le_of_ble_eq_true rfl, Nat.le_of_ble_eq_true rfl⟩) hP hD hS hA (fun k9 x9 H1 locs hq hP hD hS => ?_)
    generalize x9 = S1 at hq hP hD
    have gS1 := hq.2.1
    have ey := hq.1
    subst ey
    have hP : va_P (dC, dI) zCl (CW cI cZ cA o b P S1 ++ [(qo, .inl (cJ, 1, .inr (.inl f)))]) H1 := hP
    have hD : va_D A (CW cI cZ cA o b P S1 ++ [(qo, .inl (cJ, 1, .inr (.inl f)))]) := hD
    refine lv_i2l (v := k9.toInt64) hx hb dLA_lose_8 rfl ?_
    refine va_last hx hb hK hP hD hS 84 2 (zAtL CW_len) rfl (i := 0) (by unfold vp_in; decide) dLA_lose_9 (fun H locs hP hD hS => ?_)
    rw [zSetL CW_len] at hP hD
    refine lv_goto (tgt := 21) hx hb dLA_lose_10 (by decide) ?_
    refine lv_iconst (v := 0) hx hb dLA_lose_21 (by decide) ?_
    refine W.widen (k := 1) (n := 6) (Nat.le_of_ble_eq_true rfl) (Nat.le_of_ble_eq_true rfl) ?_
    exact W.iret (v := 0) hx hb hr (fun t ht hW => ⟨⟨0, (P, S1, (vp_updL f (0 : Int32).toNatClampNeg k9.toInt64)), rfl, ⟨by unfold zH_lose; rw [hc]; exact ⟨rfl, rfl⟩, gP, gS1⟩, by rw [ht]; exact hP, hD⟩, hS.F ht⟩) hS.2.2 dLA_lose_22
/-- what the helper leaves and answers -/
def zH_order (P S : ZS) (f : Nat → Int64) (x0 : Int32) (x1 : Int32) (x2 : Int32) (r : Int32) (w : ZS × ZS × (Nat → Int64)) : Prop := match fRG_order P S x0 x1 x2 with
  | .error k => r = (if k = 1 then 1 else 2) ∧ w = (P, S, f)
  | .ok z => r = 0 ∧ w = (P, z.1, vp_updL f (0 : Int32).toNatClampNeg ((if z.2 = 0 then (0 : Int64) else 1)))
theorem fRG_order_cs {P S : ZS} {x0 x1 x2 : Int32} {k : Nat} (h : fRG_order P S x0 x1 x2 = .error k) : k = 1 ∨ k = 2 := by
  simp only [fRG_order, zbind] at h
  repeat' split at h
  all_goals first | (cases h; exact Or.inl rfl) | (cases h; exact Or.inr rfl) | (cases h; first | exact Or.inl (fRG_requirePort_c (by assumption)) | exact Or.inr (fRG_requireStarted_c (by assumption))) | cases h
theorem fRG_order_st {P S : ZS} {x0 x1 x2 : Int32} {y : ZS × Int32} (h : fRG_order P S x0 x1 x2 = .ok y) : ¬ P.I 2 = 0 := by
  simp only [fRG_order, zbind, zl] at h
  repeat' split at h
  all_goals first | exact zk_rS (by assumption) | cases h
set_option maxHeartbeats 4000000 in
set_option maxRecDepth 100000 in
theorem tLA_order (l : Launch) (dC : Nat → ClassId) (dI : Nat → Nat → Nat) (cI cZ cJ cA : ClassId) (a0 : Array Value) (s0 : State) (o b : Nat → Nat) (hfl : l.flags = Jvm.pinnedFlags ++ [Jvm.noTraceFlag]) (P S : ZS) (f : Nat → Int64) (qo sz : Nat) (x0 : Int32) (x1 : Int32) (x2 : Int32) (gP : cok P) (gS : cok S) (hQ : P.I 2 = 0 ∨ zQ P) (r_x2 : zr 0 1 x2) : Met l yLA_order [Cond.codeWith yLA_order bLA_order 6 (some .int) [(0, 19, 22, 19), (0, 19, 26, 13)]] ({ frames := 9, cells := 1, slots := 6, locals := 157 } : Room) (zP zCl dC dI (zTZ cI cZ cJ cA) a0 s0 [.ref (o 0), .int x0, .int x1, .int x2, .ref qo] sz (CW cI cZ cA o b P S ++ [(qo, .inl (cJ, 1, .inr (.inl f)))])) (zQH zCl dC dI (fun (r : Int32) (x9 : ZS × ZS × (Nat → Int64)) => zH_order P S f x0 x1 x2 r x9 ∧ cok x9.1 ∧ cok x9.2.1) (fun x9 : ZS × ZS × (Nat → Int64) => (CW cI cZ cA o b x9.1 x9.2.1 ++ [(qo, .inl (cJ, 1, .inr (.inl x9.2.2)))])) (va_A (CW cI cZ cA o b P S ++ [(qo, .inl (cJ, 1, .inr (.inl f)))]) sz)) 1 6 (va_A (CW cI cZ cA o b P S ++ [(qo, .inl (cJ, 1, .inr (.inl f)))]) sz) := by
  refine tq_ofWith (cc := bLA_order) (maxL := 6) (ret := (some .int)) (hs := [(0, 19, 22, 19), (0, 19, 26, 13)]) (by decide) rfl ?_
  intro p e s m args below meth c s₁ B hml htab hv
  obtain ⟨rfl, hsz, hP, hK, hD0, hB⟩ := hv
  have hx := B.exec
  have hb := B.bytes
  have hr := B.returns
  have hown : s.vm.findClass "RingGuardLaw" = some m.cls := findClass_of_methodNamed B.named
  have hlocks := B.notSynchronized
  subst hsz
  have hD := hD0.self (sz := s.heap.size)
  have hA0 := zA0 hD0 hB
  generalize hAe : va_A (CW cI cZ cA o b P S ++ [(qo, .inl (cJ, 1, .inr (.inl f)))]) s.heap.size = A at hD hA0 ⊢
  have hAD := hA0
  have hA : ∀ q : Nat, s.heap.size ≤ q → A q := fun q h => by rw [← hAe]; exact Or.inr h
  have hS : va_S A s.heap s.heap [] := va_S.rf
  have hl := lv_entry ([.ref (o 0), .int x0, .int x1, .int x2, .ref qo]) (n := 6) (Nat.le_of_ble_eq_true rfl)
  rw [lg_entry_eq]
  generalize (lg_sl ([.ref (o 0), .int x0, .int x1, .int x2, .ref qo]) ++ List.replicate (6 - (lg_sl ([.ref (o 0), .int x0, .int x1, .int x2, .ref qo])).length) Slot.unset).toArray = ls at hl ⊢
  have hl : lv_has ls 6 [(0, .ref (o 0)), (1, .int x0), (2, .int x1), (3, .int x2), (4, .ref qo)] := hl
  refine lv_aload hx hb dLA_order_0 (lv_at hl 4 rfl) ?_
  refine lv_iconst (v := 0) hx hb dLA_order_2 (by decide) ?_
  refine lv_aload_n hx hb dLA_order_3 rfl (lv_at hl 0 rfl) ?_
  refine lv_iload_n hx hb dLA_order_4 rfl (lv_at hl 1 rfl) ?_
  refine lv_iload_n hx hb dLA_order_5 rfl (lv_at hl 2 rfl) ?_
  refine lv_iload_n hx hb dLA_order_6 rfl (lv_at hl 3 rfl) ?_
  have hPc := zPL hP
  have hDc := zDL hD
  rcases hc : fRG_order P S x0 x1 x2 with k | y
  · rcases fRG_order_cs hc with rfl | rfl
    · skip
      refine tq_catch (hp := 22) (tq_runV (As := [.int x0, .int x1, .int x2]) (rest := [.int 0, .ref qo]) ⟨hx, hb, hml, hown, zno⟩ (tRG_order_T1 l dC dI cI cZ cJ cA a0 s0 o b hfl P S s.heap.size x0 x1 x2 gP gS hc) (zcw 3 (hB.word (zm3 k3_123) rfl) (hB.word (zm1 k1_1) rfl) (hB.word (zm3 k3_120) rfl) (hB.word (zm3 k3_121) rfl) (hB.word (zm3 k3_122) rfl) rfl rfl (by decide +kernel) ⟨Nat.le_of_ble_eq_true rfl, Nat.le_of_ble_eq_true rfl⟩) ⟨zP_blind, va_recv hK hPc (ci := 0) (q0 := 0) rfl rfl, zP_pre hPc hK hDc hAD (zB_on hB hA0 hS)⟩ rfl rfl hl.1 rfl (lv_room (Nat.le_of_ble_eq_true rfl)) dLA_order_7 ⟨Nat.le_of_ble_eq_true rfl, Nat.le_of_ble_eq_true rfl⟩) hown htab (zsel1 (by decide) (by decide) (hB.word (zm2 k2_142) rfl) (zfit (args := #[]) (hB.word (zm2 k2_153) rfl))) hS (fun q h => hA q (Nat.le_trans hS.1 h)) (fun xq H1 locs hz1 hk1 hS => ?_)
      have hP := zKeep hP hk1
      refine lv_astore (lv' := [(5, .ref xq), (0, .ref (o 0)), (1, .int x0), (2, .int x1), (3, .int x2), (4, .ref qo)]) hx hb dLA_order_22 hl (by decide) rfl (fun ls hl => ?_)
      refine lv_iconst (v := 1) hx hb dLA_order_24 (by decide) ?_
      exact W.iret (v := 1) hx hb hr (fun t ht hW => ⟨⟨1, (P, S, f), rfl, ⟨by unfold zH_order; rw [hc]; exact ⟨by decide, rfl⟩, gP, gS⟩, by rw [ht]; exact hP, hD⟩, hS.F ht⟩) hS.2.2 dLA_order_25
    · skip
      refine tq_catch (hp := 26) (tq_runV (As := [.int x0, .int x1, .int x2]) (rest := [.int 0, .ref qo]) ⟨hx, hb, hml, hown, zno⟩ (tRG_order_T2 l dC dI cI cZ cJ cA a0 s0 o b hfl P S s.heap.size x0 x1 x2 gP gS hc) (zcw 3 (hB.word (zm3 k3_123) rfl) (hB.word (zm1 k1_1) rfl) (hB.word (zm3 k3_120) rfl) (hB.word (zm3 k3_121) rfl) (hB.word (zm3 k3_122) rfl) rfl rfl (by decide +kernel) ⟨Nat.le_of_ble_eq_true rfl, Nat.le_of_ble_eq_true rfl⟩) ⟨zP_blind, va_recv hK hPc (ci := 0) (q0 := 0) rfl rfl, zP_pre hPc hK hDc hAD (zB_on hB hA0 hS)⟩ rfl rfl hl.1 rfl (lv_room (Nat.le_of_ble_eq_true rfl)) dLA_order_7 ⟨Nat.le_of_ble_eq_true rfl, Nat.le_of_ble_eq_true rfl⟩) hown htab (zsel2 (by decide) (by decide) (hB.word (zm2 k2_142) rfl) (znofit hB zno_ISE) (zsel1 (by decide) (by decide) (hB.word (zm2 k2_62) rfl) (zfit (args := #[]) (hB.word (zm2 k2_73) rfl)))) hS (fun q h => hA q (Nat.le_trans hS.1 h)) (fun xq H1 locs hz1 hk1 hS => ?_)
      have hP := zKeep hP hk1
      refine lv_astore (lv' := [(5, .ref xq), (0, .ref (o 0)), (1, .int x0), (2, .int x1), (3, .int x2), (4, .ref qo)]) hx hb dLA_order_26 hl (by decide) rfl (fun ls hl => ?_)
      refine lv_iconst (v := 2) hx hb dLA_order_28 (by decide) ?_
      exact W.iret (v := 2) hx hb hr (fun t ht hW => ⟨⟨2, (P, S, f), rfl, ⟨by unfold zH_order; rw [hc]; exact ⟨by decide, rfl⟩, gP, gS⟩, by rw [ht]; exact hP, hD⟩, hS.F ht⟩) hS.2.2 dLA_order_29
  · skip
    have gQ : zQ P := hQ.resolve_left (fRG_order_st hc)
    refine zcIL (va_runV (As := [.int x0, .int x1, .int x2]) (rest := [.int 0, .ref qo]) ⟨hx, hb, hml, hown, zno⟩ (tRG_order l dC dI cI cZ cJ cA a0 s0 o b P S s.heap.size x0 x1 x2 gP gS gQ r_x2 y hc) (zcw 3 (hB.word (zm3 k3_123) rfl) (hB.word (zm1 k1_1) rfl) (hB.word (zm3 k3_120) rfl) (hB.word (zm3 k3_121) rfl) (hB.word (zm3 k3_122) rfl) rfl rfl (by decide +kernel) ⟨Nat.le_of_ble_eq_true rfl, Nat.le_of_ble_eq_true rfl⟩) ⟨zP_blind, va_recv hK hPc (ci := 0) (q0 := 0) rfl rfl, zP_pre hPc hK hDc hAD (zB_on hB hA0 hS)⟩ rfl rfl hl.1 rfl (lv_room (Nat.le_of_ble_eq_true rfl)) dLA_order_7 ⟨Nat.le_of_ble_eq_true rfl, Nat.le_of_ble_eq_true rfl⟩) hP hD hS hA (fun k9 x9 H1 locs hq hP hD hS => ?_)
    generalize x9 = S1 at hq hP hD
    have gS1 := hq.2.1
    have ey := hq.1
    subst ey
    have hP : va_P (dC, dI) zCl (CW cI cZ cA o b P S1 ++ [(qo, .inl (cJ, 1, .inr (.inl f)))]) H1 := hP
    have hD : va_D A (CW cI cZ cA o b P S1 ++ [(qo, .inl (cJ, 1, .inr (.inl f)))]) := hD
    refine lv_if_eq (tgt := 17) hx hb dLA_order_10 (by decide) (fun cz => ?_) (fun cz => ?_)
    · skip
      refine lv_lconst (v := 0) hx hb dLA_order_17 (by decide) ?_
      refine va_last hx hb hK hP hD hS 84 2 (zAtL CW_len) rfl (i := 0) (by unfold vp_in; decide) dLA_order_18 (fun H locs hP hD hS => ?_)
      rw [zSetL CW_len] at hP hD
      refine lv_goto (tgt := 30) hx hb dLA_order_19 (by decide) ?_
      refine lv_iconst (v := 0) hx hb dLA_order_30 (by decide) ?_
      refine W.widen (k := 1) (n := 6) (Nat.le_of_ble_eq_true rfl) (Nat.le_of_ble_eq_true rfl) ?_
      exact W.iret (v := 0) hx hb hr (fun t ht hW => ⟨⟨0, (P, S1, (vp_updL f (0 : Int32).toNatClampNeg 0)), rfl, ⟨by unfold zH_order; rw [hc]; exact ⟨rfl, by show (P, S1, _) = (P, S1, vp_updL f _ (if k9 = 0 then (0 : Int64) else 1)); rw [if_pos cz]⟩, gP, gS1⟩, by rw [ht]; exact hP, hD⟩, hS.F ht⟩) hS.2.2 dLA_order_31
    · skip
      refine lv_lconst (v := 1) hx hb dLA_order_13 (by decide) ?_
      refine lv_goto (tgt := 18) hx hb dLA_order_14 (by decide) ?_
      refine va_last hx hb hK hP hD hS 84 2 (zAtL CW_len) rfl (i := 0) (by unfold vp_in; decide) dLA_order_18 (fun H locs hP hD hS => ?_)
      rw [zSetL CW_len] at hP hD
      refine lv_goto (tgt := 30) hx hb dLA_order_19 (by decide) ?_
      refine lv_iconst (v := 0) hx hb dLA_order_30 (by decide) ?_
      refine W.widen (k := 1) (n := 6) (Nat.le_of_ble_eq_true rfl) (Nat.le_of_ble_eq_true rfl) ?_
      exact W.iret (v := 0) hx hb hr (fun t ht hW => ⟨⟨0, (P, S1, (vp_updL f (0 : Int32).toNatClampNeg 1)), rfl, ⟨by unfold zH_order; rw [hc]; exact ⟨rfl, by show (P, S1, _) = (P, S1, vp_updL f _ (if k9 = 0 then (0 : Int64) else 1)); rw [if_neg cz]⟩, gP, gS1⟩, by rw [ht]; exact hP, hD⟩, hS.F ht⟩) hS.2.2 dLA_order_31
