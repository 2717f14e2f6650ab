theorem k2_39 : tables_1_2[39]? = some (Jvm.Cond.methodLink "RingGuardLaw" (133 : Nat) ({ cls := "RingGuard", name := "casts", desc := "()I" } : Jvm.MethodName)) := by decide +kernel
theorem k2_40 : tables_1_2[40]? = some (Jvm.Cond.instanceMethod ({ cls := "RingGuard", name := "casts", desc := "()I" } : Jvm.MethodName)) := by decide +kernel
theorem k2_41 : tables_1_2[41]? = some (Jvm.Cond.selects "RingGuard" ({ cls := "RingGuard", name := "casts", desc := "()I" } : Jvm.MethodName) ({ cls := "RingGuard", name := "casts", desc := "()I" } : Jvm.MethodName)) := by decide +kernel
theorem k2_42 : tables_1_2[42]? = some (Jvm.Cond.code ({ cls := "RingGuard", name := "casts", desc := "()I" } : Jvm.MethodName) prog_1_method_19_code (1 : Nat) (Option.some Jvm.ClassFile.FieldType.int)) := rfl
theorem k2_47 : tables_1_2[47]? = some (Jvm.Cond.methodLink "RingGuardLaw" (137 : Nat) ({ cls := "RingGuard", name := "lost", desc := "()I" } : Jvm.MethodName)) := by decide +kernel
theorem k2_48 : tables_1_2[48]? = some (Jvm.Cond.instanceMethod ({ cls := "RingGuard", name := "lost", desc := "()I" } : Jvm.MethodName)) := by decide +kernel
theorem k2_49 : tables_1_2[49]? = some (Jvm.Cond.selects "RingGuard" ({ cls := "RingGuard", name := "lost", desc := "()I" } : Jvm.MethodName) ({ cls := "RingGuard", name := "lost", desc := "()I" } : Jvm.MethodName)) := by decide +kernel
theorem k2_50 : tables_1_2[50]? = some (Jvm.Cond.code ({ cls := "RingGuard", name := "lost", desc := "()I" } : Jvm.MethodName) prog_1_method_20_code (1 : Nat) (Option.some Jvm.ClassFile.FieldType.int)) := rfl
theorem k2_51 : tables_1_2[51]? = some (Jvm.Cond.methodLink "RingGuardLaw" (141 : Nat) ({ cls := "RingGuard", name := "circles", desc := "()I" } : Jvm.MethodName)) := by decide +kernel
theorem k2_52 : tables_1_2[52]? = some (Jvm.Cond.instanceMethod ({ cls := "RingGuard", name := "circles", desc := "()I" } : Jvm.MethodName)) := by decide +kernel
theorem k2_53 : tables_1_2[53]? = some (Jvm.Cond.selects "RingGuard" ({ cls := "RingGuard", name := "circles", desc := "()I" } : Jvm.MethodName) ({ cls := "RingGuard", name := "circles", desc := "()I" } : Jvm.MethodName)) := by decide +kernel
theorem k2_54 : tables_1_2[54]? = some (Jvm.Cond.code ({ cls := "RingGuard", name := "circles", desc := "()I" } : Jvm.MethodName) prog_1_method_21_code (1 : Nat) (Option.some Jvm.ClassFile.FieldType.int)) := rfl
theorem k2_55 : tables_1_2[55]? = some (Jvm.Cond.methodLink "RingGuardLaw" (145 : Nat) ({ cls := "RingGuard", name := "apart", desc := "()I" } : Jvm.MethodName)) := by decide +kernel
theorem k2_56 : tables_1_2[56]? = some (Jvm.Cond.instanceMethod ({ cls := "RingGuard", name := "apart", desc := "()I" } : Jvm.MethodName)) := by decide +kernel
theorem k2_57 : tables_1_2[57]? = some (Jvm.Cond.selects "RingGuard" ({ cls := "RingGuard", name := "apart", desc := "()I" } : Jvm.MethodName) ({ cls := "RingGuard", name := "apart", desc := "()I" } : Jvm.MethodName)) := by decide +kernel
theorem k2_58 : tables_1_2[58]? = some (Jvm.Cond.code ({ cls := "RingGuard", name := "apart", desc := "()I" } : Jvm.MethodName) prog_1_method_22_code (1 : Nat) (Option.some Jvm.ClassFile.FieldType.int)) := rfl
theorem k4_93 : tables_1_4[93]? = some (Jvm.Cond.methodLink "RingGuardLaw" (127 : Nat) ({ cls := "RingGuardLaw", name := "learned", desc := "(LRingGuard;III[J)I" } : Jvm.MethodName)) := by decide +kernel
theorem k4_94 : tables_1_4[94]? = some (Jvm.Cond.static ({ cls := "RingGuardLaw", name := "learned", desc := "(LRingGuard;III[J)I" } : Jvm.MethodName)) := by decide +kernel
theorem k4_95 : tables_1_4[95]? = some (Jvm.Cond.codeWith ({ cls := "RingGuardLaw", name := "learned", desc := "(LRingGuard;III[J)I" } : Jvm.MethodName) method_17_code (6 : Nat) (Option.some Jvm.ClassFile.FieldType.int) [((0 : Nat), (12 : Nat), (15 : Nat), (19 : Nat))]) := rfl
theorem k4_101 : tables_1_4[101]? = some (Jvm.Cond.methodLink "RingGuardLaw" (130 : Nat) ({ cls := "RingGuardLaw", name := "joined", desc := "(LRingGuard;II[J)I" } : Jvm.MethodName)) := by decide +kernel
theorem k4_102 : tables_1_4[102]? = some (Jvm.Cond.static ({ cls := "RingGuardLaw", name := "joined", desc := "(LRingGuard;II[J)I" } : Jvm.MethodName)) := by decide +kernel
theorem k4_103 : tables_1_4[103]? = some (Jvm.Cond.codeWith ({ cls := "RingGuardLaw", name := "joined", desc := "(LRingGuard;II[J)I" } : Jvm.MethodName) method_18_code (5 : Nat) (Option.some Jvm.ClassFile.FieldType.int) [((0 : Nat), (17 : Nat), (20 : Nat), (19 : Nat))]) := rfl
theorem k6_8 : tables_1_6[8]? = some (Jvm.Cond.methodLink "RingGuardLaw" (129 : Nat) ({ cls := "RingGuardModel", name := "learned", desc := "(III)I" } : Jvm.MethodName)) := by decide +kernel
theorem k6_9 : tables_1_6[9]? = some (Jvm.Cond.instanceMethod ({ cls := "RingGuardModel", name := "learned", desc := "(III)I" } : Jvm.MethodName)) := by decide +kernel
theorem k6_10 : tables_1_6[10]? = some (Jvm.Cond.selects "RingGuardModel" ({ cls := "RingGuardModel", name := "learned", desc := "(III)I" } : Jvm.MethodName) ({ cls := "RingGuardModel", name := "learned", desc := "(III)I" } : Jvm.MethodName)) := by decide +kernel
theorem k6_11 : tables_1_6[11]? = some (Jvm.Cond.code ({ cls := "RingGuardModel", name := "learned", desc := "(III)I" } : Jvm.MethodName) prog_10_method_57_code (4 : Nat) (Option.some Jvm.ClassFile.FieldType.int)) := rfl
theorem k6_12 : tables_1_6[12]? = some (Jvm.Cond.methodLink "RingGuardLaw" (132 : Nat) ({ cls := "RingGuardModel", name := "joined", desc := "(II)Z" } : Jvm.MethodName)) := by decide +kernel
theorem k6_13 : tables_1_6[13]? = some (Jvm.Cond.instanceMethod ({ cls := "RingGuardModel", name := "joined", desc := "(II)Z" } : Jvm.MethodName)) := by decide +kernel
theorem k6_14 : tables_1_6[14]? = some (Jvm.Cond.selects "RingGuardModel" ({ cls := "RingGuardModel", name := "joined", desc := "(II)Z" } : Jvm.MethodName) ({ cls := "RingGuardModel", name := "joined", desc := "(II)Z" } : Jvm.MethodName)) := by decide +kernel
theorem k6_15 : tables_1_6[15]? = some (Jvm.Cond.code ({ cls := "RingGuardModel", name := "joined", desc := "(II)Z" } : Jvm.MethodName) prog_10_method_58_code (5 : Nat) (Option.some Jvm.ClassFile.FieldType.boolean)) := rfl
theorem k6_16 : tables_1_6[16]? = some (Jvm.Cond.methodLink "RingGuardLaw" (136 : Nat) ({ cls := "RingGuardModel", name := "casts", desc := "()I" } : Jvm.MethodName)) := by decide +kernel
theorem k6_17 : tables_1_6[17]? = some (Jvm.Cond.instanceMethod ({ cls := "RingGuardModel", name := "casts", desc := "()I" } : Jvm.MethodName)) := by decide +kernel
theorem k6_18 : tables_1_6[18]? = some (Jvm.Cond.selects "RingGuardModel" ({ cls := "RingGuardModel", name := "casts", desc := "()I" } : Jvm.MethodName) ({ cls := "RingGuardModel", name := "casts", desc := "()I" } : Jvm.MethodName)) := by decide +kernel
theorem k6_19 : tables_1_6[19]? = some (Jvm.Cond.code ({ cls := "RingGuardModel", name := "casts", desc := "()I" } : Jvm.MethodName) prog_10_method_59_code (3 : Nat) (Option.some Jvm.ClassFile.FieldType.int)) := rfl
theorem k6_20 : tables_1_6[20]? = some (Jvm.Cond.methodLink "RingGuardLaw" (140 : Nat) ({ cls := "RingGuardModel", name := "lost", desc := "()I" } : Jvm.MethodName)) := by decide +kernel
theorem k6_21 : tables_1_6[21]? = some (Jvm.Cond.instanceMethod ({ cls := "RingGuardModel", name := "lost", desc := "()I" } : Jvm.MethodName)) := by decide +kernel
theorem k6_22 : tables_1_6[22]? = some (Jvm.Cond.selects "RingGuardModel" ({ cls := "RingGuardModel", name := "lost", desc := "()I" } : Jvm.MethodName) ({ cls := "RingGuardModel", name := "lost", desc := "()I" } : Jvm.MethodName)) := by decide +kernel
theorem k6_23 : tables_1_6[23]? = some (Jvm.Cond.code ({ cls := "RingGuardModel", name := "lost", desc := "()I" } : Jvm.MethodName) prog_10_method_60_code (1 : Nat) (Option.some Jvm.ClassFile.FieldType.int)) := rfl
theorem k6_24 : tables_1_6[24]? = some (Jvm.Cond.methodLink "RingGuardLaw" (144 : Nat) ({ cls := "RingGuardModel", name := "circles", desc := "()I" } : Jvm.MethodName)) := by decide +kernel
theorem k6_25 : tables_1_6[25]? = some (Jvm.Cond.instanceMethod ({ cls := "RingGuardModel", name := "circles", desc := "()I" } : Jvm.MethodName)) := by decide +kernel
theorem k6_26 : tables_1_6[26]? = some (Jvm.Cond.selects "RingGuardModel" ({ cls := "RingGuardModel", name := "circles", desc := "()I" } : Jvm.MethodName) ({ cls := "RingGuardModel", name := "circles", desc := "()I" } : Jvm.MethodName)) := by decide +kernel
theorem k6_27 : tables_1_6[27]? = some (Jvm.Cond.code ({ cls := "RingGuardModel", name := "circles", desc := "()I" } : Jvm.MethodName) prog_10_method_61_code (1 : Nat) (Option.some Jvm.ClassFile.FieldType.int)) := rfl
theorem k6_28 : tables_1_6[28]? = some (Jvm.Cond.methodLink "RingGuardLaw" (148 : Nat) ({ cls := "RingGuardModel", name := "apart", desc := "()I" } : Jvm.MethodName)) := by decide +kernel
theorem k6_29 : tables_1_6[29]? = some (Jvm.Cond.instanceMethod ({ cls := "RingGuardModel", name := "apart", desc := "()I" } : Jvm.MethodName)) := by decide +kernel
theorem k6_30 : tables_1_6[30]? = some (Jvm.Cond.selects "RingGuardModel" ({ cls := "RingGuardModel", name := "apart", desc := "()I" } : Jvm.MethodName) ({ cls := "RingGuardModel", name := "apart", desc := "()I" } : Jvm.MethodName)) := by decide +kernel
theorem k6_31 : tables_1_6[31]? = some (Jvm.Cond.code ({ cls := "RingGuardModel", name := "apart", desc := "()I" } : Jvm.MethodName) prog_10_method_62_code (1 : Nat) (Option.some Jvm.ClassFile.FieldType.int)) := rfl
theorem dLA_law_698 : decode bLA_law 698 = .ok (.aload_n 1, 1) := by decide +kernel
theorem dLA_law_699 : decode bLA_law 699 = .ok (.aload_n 0, 1) := by decide +kernel
theorem dLA_law_700 : decode bLA_law 700 = .ok (.iload 4, 2) := by decide +kernel
theorem dLA_law_702 : decode bLA_law 702 = .ok (.iconst 1, 1) := by decide +kernel
theorem dLA_law_703 : decode bLA_law 703 = .ok (.iadd, 1) := by decide +kernel
theorem dLA_law_704 : decode bLA_law 704 = .ok (.iaload, 1) := by decide +kernel
theorem dLA_law_705 : decode bLA_law 705 = .ok (.aload_n 0, 1) := by decide +kernel
theorem dLA_law_706 : decode bLA_law 706 = .ok (.iload 4, 2) := by decide +kernel
theorem dLA_law_708 : decode bLA_law 708 = .ok (.iconst 2, 1) := by decide +kernel
theorem dLA_law_709 : decode bLA_law 709 = .ok (.iadd, 1) := by decide +kernel
theorem dLA_law_710 : decode bLA_law 710 = .ok (.iaload, 1) := by decide +kernel
theorem dLA_law_711 : decode bLA_law 711 = .ok (.aload_n 0, 1) := by decide +kernel
theorem dLA_law_712 : decode bLA_law 712 = .ok (.iload 4, 2) := by decide +kernel
theorem dLA_law_714 : decode bLA_law 714 = .ok (.iconst 3, 1) := by decide +kernel
theorem dLA_law_715 : decode bLA_law 715 = .ok (.iadd, 1) := by decide +kernel
theorem dLA_law_716 : decode bLA_law 716 = .ok (.iaload, 1) := by decide +kernel
theorem dLA_law_717 : decode bLA_law 717 = .ok (.aload_n 3, 1) := by decide +kernel
theorem dLA_law_718 : decode bLA_law 718 = .ok (.invokestatic 127, 3) := by decide +kernel
theorem dLA_law_721 : decode bLA_law 721 = .ok (.istore 5, 2) := by decide +kernel
theorem dLA_law_723 : decode bLA_law 723 = .ok (.aload_n 2, 1) := by decide +kernel
theorem dLA_law_724 : decode bLA_law 724 = .ok (.aload_n 0, 1) := by decide +kernel
theorem dLA_law_725 : decode bLA_law 725 = .ok (.iload 4, 2) := by decide +kernel
theorem dLA_law_727 : decode bLA_law 727 = .ok (.iconst 1, 1) := by decide +kernel
theorem dLA_law_728 : decode bLA_law 728 = .ok (.iadd, 1) := by decide +kernel
theorem dLA_law_729 : decode bLA_law 729 = .ok (.iaload, 1) := by decide +kernel
theorem dLA_law_730 : decode bLA_law 730 = .ok (.aload_n 0, 1) := by decide +kernel
theorem dLA_law_731 : decode bLA_law 731 = .ok (.iload 4, 2) := by decide +kernel
theorem dLA_law_733 : decode bLA_law 733 = .ok (.iconst 2, 1) := by decide +kernel
theorem dLA_law_734 : decode bLA_law 734 = .ok (.iadd, 1) := by decide +kernel
theorem dLA_law_735 : decode bLA_law 735 = .ok (.iaload, 1) := by decide +kernel
theorem dLA_law_736 : decode bLA_law 736 = .ok (.aload_n 0, 1) := by decide +kernel
theorem dLA_law_737 : decode bLA_law 737 = .ok (.iload 4, 2) := by decide +kernel
theorem dLA_law_739 : decode bLA_law 739 = .ok (.iconst 3, 1) := by decide +kernel
theorem dLA_law_740 : decode bLA_law 740 = .ok (.iadd, 1) := by decide +kernel
theorem dLA_law_741 : decode bLA_law 741 = .ok (.iaload, 1) := by decide +kernel
theorem dLA_law_742 : decode bLA_law 742 = .ok (.invokevirtual 129, 3) := by decide +kernel
theorem dLA_law_745 : decode bLA_law 745 = .ok (.istore 6, 2) := by decide +kernel
theorem dLA_law_747 : decode bLA_law 747 = .ok (.goto 95, 3) := by decide +kernel
theorem dLA_law_750 : decode bLA_law 750 = .ok (.aload_n 1, 1) := by decide +kernel
theorem dLA_law_751 : decode bLA_law 751 = .ok (.aload_n 0, 1) := by decide +kernel
theorem dLA_law_752 : decode bLA_law 752 = .ok (.iload 4, 2) := by decide +kernel
theorem dLA_law_754 : decode bLA_law 754 = .ok (.iconst 1, 1) := by decide +kernel
theorem dLA_law_755 : decode bLA_law 755 = .ok (.iadd, 1) := by decide +kernel
theorem dLA_law_756 : decode bLA_law 756 = .ok (.iaload, 1) := by decide +kernel
theorem dLA_law_757 : decode bLA_law 757 = .ok (.aload_n 0, 1) := by decide +kernel
theorem dLA_law_758 : decode bLA_law 758 = .ok (.iload 4, 2) := by decide +kernel
theorem dLA_law_760 : decode bLA_law 760 = .ok (.iconst 2, 1) := by decide +kernel
theorem dLA_law_761 : decode bLA_law 761 = .ok (.iadd, 1) := by decide +kernel
theorem dLA_law_762 : decode bLA_law 762 = .ok (.iaload, 1) := by decide +kernel
theorem dLA_law_763 : decode bLA_law 763 = .ok (.aload_n 3, 1) := by decide +kernel
theorem dLA_law_764 : decode bLA_law 764 = .ok (.invokestatic 130, 3) := by decide +kernel
theorem dLA_law_767 : decode bLA_law 767 = .ok (.istore 5, 2) := by decide +kernel
theorem dLA_law_769 : decode bLA_law 769 = .ok (.aload_n 2, 1) := by decide +kernel
theorem dLA_law_770 : decode bLA_law 770 = .ok (.aload_n 0, 1) := by decide +kernel
theorem dLA_law_771 : decode bLA_law 771 = .ok (.iload 4, 2) := by decide +kernel
theorem dLA_law_773 : decode bLA_law 773 = .ok (.iconst 1, 1) := by decide +kernel
theorem dLA_law_774 : decode bLA_law 774 = .ok (.iadd, 1) := by decide +kernel
theorem dLA_law_775 : decode bLA_law 775 = .ok (.iaload, 1) := by decide +kernel
theorem dLA_law_776 : decode bLA_law 776 = .ok (.aload_n 0, 1) := by decide +kernel
theorem dLA_law_777 : decode bLA_law 777 = .ok (.iload 4, 2) := by decide +kernel
theorem dLA_law_779 : decode bLA_law 779 = .ok (.iconst 2, 1) := by decide +kernel
theorem dLA_law_780 : decode bLA_law 780 = .ok (.iadd, 1) := by decide +kernel
theorem dLA_law_781 : decode bLA_law 781 = .ok (.iaload, 1) := by decide +kernel
theorem dLA_law_782 : decode bLA_law 782 = .ok (.invokevirtual 132, 3) := by decide +kernel
theorem dLA_law_785 : decode bLA_law 785 = .ok (.istore 6, 2) := by decide +kernel
theorem dLA_law_787 : decode bLA_law 787 = .ok (.goto 55, 3) := by decide +kernel
theorem dLA_law_790 : decode bLA_law 790 = .ok (.aload_n 1, 1) := by decide +kernel
theorem dLA_law_791 : decode bLA_law 791 = .ok (.invokevirtual 133, 3) := by decide +kernel
theorem dLA_law_794 : decode bLA_law 794 = .ok (.pop, 1) := by decide +kernel
theorem dLA_law_795 : decode bLA_law 795 = .ok (.aload_n 2, 1) := by decide +kernel
theorem dLA_law_796 : decode bLA_law 796 = .ok (.invokevirtual 136, 3) := by decide +kernel
theorem dLA_law_799 : decode bLA_law 799 = .ok (.pop, 1) := by decide +kernel
theorem dLA_law_800 : decode bLA_law 800 = .ok (.goto 42, 3) := by decide +kernel
theorem dLA_law_803 : decode bLA_law 803 = .ok (.aload_n 1, 1) := by decide +kernel
theorem dLA_law_804 : decode bLA_law 804 = .ok (.invokevirtual 137, 3) := by decide +kernel
theorem dLA_law_807 : decode bLA_law 807 = .ok (.pop, 1) := by decide +kernel
theorem dLA_law_808 : decode bLA_law 808 = .ok (.aload_n 2, 1) := by decide +kernel
theorem dLA_law_809 : decode bLA_law 809 = .ok (.invokevirtual 140, 3) := by decide +kernel
theorem dLA_law_812 : decode bLA_law 812 = .ok (.pop, 1) := by decide +kernel
theorem dLA_law_813 : decode bLA_law 813 = .ok (.goto 29, 3) := by decide +kernel
theorem dLA_law_816 : decode bLA_law 816 = .ok (.aload_n 1, 1) := by decide +kernel
theorem dLA_law_817 : decode bLA_law 817 = .ok (.invokevirtual 141, 3) := by decide +kernel
theorem dLA_law_820 : decode bLA_law 820 = .ok (.aload_n 2, 1) := by decide +kernel
theorem dLA_law_821 : decode bLA_law 821 = .ok (.invokevirtual 144, 3) := by decide +kernel
theorem dLA_law_824 : decode bLA_law 824 = .ok (.if_icmp .eq 18, 3) := by decide +kernel
theorem dLA_law_829 : decode bLA_law 829 = .ok (.aload_n 1, 1) := by decide +kernel
theorem dLA_law_830 : decode bLA_law 830 = .ok (.invokevirtual 145, 3) := by decide +kernel
theorem dLA_law_833 : decode bLA_law 833 = .ok (.pop, 1) := by decide +kernel
theorem dLA_law_834 : decode bLA_law 834 = .ok (.aload_n 2, 1) := by decide +kernel
theorem dLA_law_835 : decode bLA_law 835 = .ok (.invokevirtual 148, 3) := by decide +kernel
theorem dLA_law_838 : decode bLA_law 838 = .ok (.pop, 1) := by decide +kernel
theorem dLA_law_839 : decode bLA_law 839 = .ok (.goto 3, 3) := by decide +kernel
set_option maxHeartbeats 4000000 in
set_option maxRecDepth 100000 in
theorem law_14 {p : Program} {e : Env} {s : State} {m : MethodId} {below : List Frame} {meth : Method} {c : Code} (l : Launch) (hfl : l.flags = Jvm.pinnedFlags ++ [Jvm.noTraceFlag]) {sb L : Nat} {xs : Nat → Int32} (C0 : zAt p s m meth c sb L xs) (dC : Nat → ClassId) (dI : Nat → Nat → Nat) (cI cZ cJ cA : ClassId) (hK : va_K (dC, dI) zCl (zTZ cI cZ cJ cA) s) {o mo mb : Nat → Nat} {qo : Nat} {k cs ss : Nat} (hL : L ≤ 2048) (hcs : cs + 1 ≤ 601024) (hss : ss + 6 ≤ 7293034) (hk : 4 * k + 4 ≤ L) (NX : zGo p l e s m below meth c dC dI cI cZ cJ cA sb qo o mo mb (k + 1) (nI (4 * k)) 842 (cs + 1) (ss + 6)) : zGo p l e s m below meth c dC dI cI cZ cJ cA sb qo o mo mb (k) (nI (4 * k)) 646 (cs) (ss) := by
  intro H locs ls b P S P' S' f hR hP hD hS hl
  have C1 := C0
  obtain ⟨hx, hb, hr, hml, hown, hB, hX, hbl, hlocks⟩ := C0
  have hA0 : ∀ q, zN s.heap.size q → s.heap.size ≤ q := fun _ h => h
  have hAD := hA0
  have hA : ∀ q : Nat, s.heap.size ≤ q → zN s.heap.size q := fun _ h => h
  have hbA : ¬ zN s.heap.size sb := Nat.not_le.mpr hbl
  obtain ⟨hI, gS, gS', hT⟩ := hR
  have gP := hI.1
  have gP' := hI.2.1
  refine lv_aload_n hx hb dLA_law_646 rfl (lv_at hl 3 rfl) ?_
  refine lv_aload_n hx hb dLA_law_647 rfl (lv_at hl 4 rfl) ?_
  refine lv_iload hx hb dLA_law_648 (lv_at hl 0 rfl) ?_
  refine lv_iconst (v := 1) hx hb dLA_law_650 (by decide) ?_
  refine lv_iadd hx hb dLA_law_651 ?_
  refine lv_topi (fun k1 ek1 => ?_)
  have ek1 : k1 = nI ((4 * k) + 1) := ek1.trans (nI_add (4 * k) 1)
  subst ek1
  refine va_sld hx hb hX hbl hbA hS (i := nI ((4 * k) + 1)) (vp_in_nI (by omega) (by omega)) dLA_law_652 ?_
  refine lv_aload_n hx hb dLA_law_653 rfl (lv_at hl 4 rfl) ?_
  refine lv_iload hx hb dLA_law_654 (lv_at hl 0 rfl) ?_
  refine lv_iconst (v := 2) hx hb dLA_law_656 (by decide) ?_
  refine lv_iadd hx hb dLA_law_657 ?_
  refine lv_topi (fun k2 ek2 => ?_)
  have ek2 : k2 = nI ((4 * k) + 2) := ek2.trans (nI_add (4 * k) 2)
  subst ek2
  refine va_sld hx hb hX hbl hbA hS (i := nI ((4 * k) + 2)) (vp_in_nI (by omega) (by omega)) dLA_law_658 ?_
  refine lv_aload_n hx hb dLA_law_659 rfl (lv_at hl 4 rfl) ?_
  refine lv_iload hx hb dLA_law_660 (lv_at hl 0 rfl) ?_
  refine lv_iconst (v := 3) hx hb dLA_law_662 (by decide) ?_
  refine lv_iadd hx hb dLA_law_663 ?_
  refine lv_topi (fun k3 ek3 => ?_)
  have ek3 : k3 = nI ((4 * k) + 3) := ek3.trans (nI_add (4 * k) 3)
  subst ek3
  refine va_sld hx hb hX hbl hbA hS (i := nI ((4 * k) + 3)) (vp_in_nI (by omega) (by omega)) dLA_law_664 ?_
  refine lv_aload_n hx hb dLA_law_665 rfl (lv_at hl 1 rfl) ?_
  have hcw : ∀ w ∈ [Cond.codeWith yLA_told bLA_told 6 (some .int) [(0, 12, 15, 19)]], w.before ([.ref sb] : List Value).toArray s = true := fun w h => by rw [List.mem_singleton.mp h]; exact hB.word (zm4 k4_87) rfl
  refine zcIL (tq_runSW (n := 5) (As := [.ref (o 0), .int (xs (nI ((4 * k) + 1)).toNatClampNeg), .int (xs (nI ((4 * k) + 2)).toNatClampNeg), .int (xs (nI ((4 * k) + 3)).toNatClampNeg), .ref qo]) (rest := []) ⟨hx, hb, hml, hown, hcw⟩ (tLA_told l dC dI cI cZ cJ cA #[Value.ref sb] s o b hfl P S f qo H.size (xs (nI ((4 * k) + 1)).toNatClampNeg) (xs (nI ((4 * k) + 2)).toNatClampNeg) (xs (nI ((4 * k) + 3)).toNatClampNeg) gP gS) zgoodW rfl rfl rfl ⟨Nat.le_of_ble_eq_true rfl, Nat.le_of_ble_eq_true rfl⟩ (hB.word (zm4 k4_86) rfl) (hB.word (zm1 k1_0) rfl) (hB.word (zm4 k4_85) rfl) (by decide +kernel) ⟨zP_blind, zP_pre (zPL hP) hK (zDL hD) hAD (zB_on hB hA0 hS)⟩ rfl rfl hl.1 rfl (lv_room (Nat.le_of_ble_eq_true rfl)) dLA_law_666 ⟨hcs, hss⟩) hP hD hS hA (fun r4 x9 H locs hr4 hP hD hS => ?_)
  obtain ⟨P5, S6, f7⟩ := x9
  have hP : va_P (dC, dI) zCl ((CW cI cZ cA o b P5 S6 ++ [(qo, .inl (cJ, 1, .inr (.inl f7)))]) ++ MW cI cZ cA mo mb P' S') H := hP
  have hD : va_D (zN s.heap.size) ((CW cI cZ cA o b P5 S6 ++ [(qo, .inl (cJ, 1, .inr (.inl f7)))]) ++ MW cI cZ cA mo mb P' S') := hD
  have gPr4 := hr4.2.1
  have gSr4 := hr4.2.2
  have ePr4 : P5 = P := zH_told_P hr4.1
  rw [ePr4] at hP hD
  refine lv_istore (lv' := [(5, .int r4), (4, .int (nI (4 * k))), (3, .ref qo), (2, .ref (mo 0)), (1, .ref (o 0)), (0, .ref sb)]) hx hb dLA_law_669 hl (by decide) rfl (fun ls hl => ?_)
  refine lv_aload_n hx hb dLA_law_671 rfl (lv_at hl 3 rfl) ?_
  refine lv_aload_n hx hb dLA_law_672 rfl (lv_at hl 5 rfl) ?_
  refine lv_iload hx hb dLA_law_673 (lv_at hl 1 rfl) ?_
  refine lv_iconst (v := 1) hx hb dLA_law_675 (by decide) ?_
  refine lv_iadd hx hb dLA_law_676 ?_
  refine lv_topi (fun k9 ek9 => ?_)
  have ek9 : k9 = nI ((4 * k) + 1) := ek9.trans (nI_add (4 * k) 1)
  subst ek9
  refine va_sld hx hb hX hbl hbA hS (i := nI ((4 * k) + 1)) (vp_in_nI (by omega) (by omega)) dLA_law_677 ?_
  refine lv_aload_n hx hb dLA_law_678 rfl (lv_at hl 5 rfl) ?_
  refine lv_iload hx hb dLA_law_679 (lv_at hl 1 rfl) ?_
  refine lv_iconst (v := 2) hx hb dLA_law_681 (by decide) ?_
  refine lv_iadd hx hb dLA_law_682 ?_
  refine lv_topi (fun k10 ek10 => ?_)
  have ek10 : k10 = nI ((4 * k) + 2) := ek10.trans (nI_add (4 * k) 2)
  subst ek10
  refine va_sld hx hb hX hbl hbA hS (i := nI ((4 * k) + 2)) (vp_in_nI (by omega) (by omega)) dLA_law_683 ?_
  refine lv_aload_n hx hb dLA_law_684 rfl (lv_at hl 5 rfl) ?_
  refine lv_iload hx hb dLA_law_685 (lv_at hl 1 rfl) ?_
  refine lv_iconst (v := 3) hx hb dLA_law_687 (by decide) ?_
  refine lv_iadd hx hb dLA_law_688 ?_
  refine lv_topi (fun k11 ek11 => ?_)
  have ek11 : k11 = nI ((4 * k) + 3) := ek11.trans (nI_add (4 * k) 3)
  subst ek11
  refine va_sld hx hb hX hbl hbA hS (i := nI ((4 * k) + 3)) (vp_in_nI (by omega) (by omega)) dLA_law_689 ?_
  have hP := zPC hP
  have hD := zDC hD
  have hPc := zPL hP
  have hDc := zDL hD
  refine zcIL (va_runV (As := [.int (xs (nI ((4 * k) + 1)).toNatClampNeg), .int (xs (nI ((4 * k) + 2)).toNatClampNeg), .int (xs (nI ((4 * k) + 3)).toNatClampNeg)]) (rest := []) ⟨hx, hb, hml, hown, zno⟩ (tMO_told l dC dI cI cZ cJ cA #[Value.ref sb] s mo mb P' S' H.size (xs (nI ((4 * k) + 1)).toNatClampNeg) (xs (nI ((4 * k) + 2)).toNatClampNeg) (xs (nI ((4 * k) + 3)).toNatClampNeg) gP' gS') (zcw 3 (hB.word (zm6 k6_7) rfl) (hB.word (zm1 k1_9) rfl) (hB.word (zm6 k6_4) rfl) (hB.word (zm6 k6_5) rfl) (hB.word (zm6 k6_6) rfl) rfl rfl (by decide +kernel) ⟨Nat.le_of_ble_eq_true rfl, Nat.le_of_ble_eq_true rfl⟩) ⟨zP_blind, va_recv hK hPc (ci := 7) (q0 := 0) rfl rfl, zP_pre hPc hK hDc hAD (zB_on hB hA0 hS)⟩ rfl rfl hl.1 rfl (lv_room (Nat.le_of_ble_eq_true rfl)) dLA_law_690 ⟨hcs, hss⟩) hP hD hS hA (fun r12 x9 H locs hr12 hP hD hS => ?_)
  generalize x9 = S14 at hr12 hP hD
  have gSr12 := hr12.2.1
  have hP := zPC hP
  have hD := zDC hD
  have hP : va_P (dC, dI) zCl ((CW cI cZ cA o b P S6 ++ [(qo, .inl (cJ, 1, .inr (.inl f7)))]) ++ MW cI cZ cA mo mb P' S14) H := hP
  have hD : va_D (zN s.heap.size) ((CW cI cZ cA o b P S6 ++ [(qo, .inl (cJ, 1, .inr (.inl f7)))]) ++ MW cI cZ cA mo mb P' S14) := hD
  have hTr12 : zXr (k + 1) P S6 P' S14 := zk_told hT hr4.1 hr12.1
  refine lv_istore (lv' := [(6, .int r12), (5, .int r4), (4, .int (nI (4 * k))), (3, .ref qo), (2, .ref (mo 0)), (1, .ref (o 0)), (0, .ref sb)]) hx hb dLA_law_693 hl (by decide) rfl (fun ls hl => ?_)
  refine lv_goto (tgt := 842) hx hb dLA_law_695 (by decide) ?_
  exact NX H locs ls b P S6 P' S14 f7 ⟨hI, gSr4, gSr12, hTr12⟩ hP hD hS (lv_sub hl [2, 3, 4, 5, 6] rfl)
set_option maxHeartbeats 4000000 in
set_option maxRecDepth 100000 in
theorem law_15 {p : Program} {e : Env} {s : State} {m : MethodId} {below : List Frame} {meth : Method} {c : Code} (l : Launch) (hfl : l.flags = Jvm.pinnedFlags ++ [Jvm.noTraceFlag]) {sb L : Nat} {xs : Nat → Int32} (C0 : zAt p s m meth c sb L xs) (dC : Nat → ClassId) (dI : Nat → Nat → Nat) (cI cZ cJ cA : ClassId) (hK : va_K (dC, dI) zCl (zTZ cI cZ cJ cA) s) {o mo mb : Nat → Nat} {qo : Nat} {k cs ss : Nat} (hL : L ≤ 2048) (hcs : cs + 1 ≤ 601024) (hss : ss + 6 ≤ 7293034) (hk : 4 * k + 4 ≤ L) (NX : zGo p l e s m below meth c dC dI cI cZ cJ cA sb qo o mo mb (k + 1) (nI (4 * k)) 842 (cs + 1) (ss + 6)) : zGo p l e s m below meth c dC dI cI cZ cJ cA sb qo o mo mb (k) (nI (4 * k)) 698 (cs) (ss) := by
  intro H locs ls b P S P' S' f hR hP hD hS hl
  have C1 := C0
  obtain ⟨hx, hb, hr, hml, hown, hB, hX, hbl, hlocks⟩ := C0
  have hA0 : ∀ q, zN s.heap.size q → s.heap.size ≤ q := fun _ h => h
  have hAD := hA0
  have hA : ∀ q : Nat, s.heap.size ≤ q → zN s.heap.size q := fun _ h => h
  have hbA : ¬ zN s.heap.size sb := Nat.not_le.mpr hbl
  obtain ⟨hI, gS, gS', hT⟩ := hR
  have gP := hI.1
  have gP' := hI.2.1
  refine lv_aload_n hx hb dLA_law_698 rfl (lv_at hl 3 rfl) ?_
  refine lv_aload_n hx hb dLA_law_699 rfl (lv_at hl 4 rfl) ?_
  refine lv_iload hx hb dLA_law_700 (lv_at hl 0 rfl) ?_
  refine lv_iconst (v := 1) hx hb dLA_law_702 (by decide) ?_
  refine lv_iadd hx hb dLA_law_703 ?_
  refine lv_topi (fun k1 ek1 => ?_)
  have ek1 : k1 = nI ((4 * k) + 1) := ek1.trans (nI_add (4 * k) 1)
  subst ek1
  refine va_sld hx hb hX hbl hbA hS (i := nI ((4 * k) + 1)) (vp_in_nI (by omega) (by omega)) dLA_law_704 ?_
  refine lv_aload_n hx hb dLA_law_705 rfl (lv_at hl 4 rfl) ?_
  refine lv_iload hx hb dLA_law_706 (lv_at hl 0 rfl) ?_
  refine lv_iconst (v := 2) hx hb dLA_law_708 (by decide) ?_
  refine lv_iadd hx hb dLA_law_709 ?_
  refine lv_topi (fun k2 ek2 => ?_)
  have ek2 : k2 = nI ((4 * k) + 2) := ek2.trans (nI_add (4 * k) 2)
  subst ek2
  refine va_sld hx hb hX hbl hbA hS (i := nI ((4 * k) + 2)) (vp_in_nI (by omega) (by omega)) dLA_law_710 ?_
  refine lv_aload_n hx hb dLA_law_711 rfl (lv_at hl 4 rfl) ?_
  refine lv_iload hx hb dLA_law_712 (lv_at hl 0 rfl) ?_
  refine lv_iconst (v := 3) hx hb dLA_law_714 (by decide) ?_
  refine lv_iadd hx hb dLA_law_715 ?_
  refine lv_topi (fun k3 ek3 => ?_)
  have ek3 : k3 = nI ((4 * k) + 3) := ek3.trans (nI_add (4 * k) 3)
  subst ek3
  refine va_sld hx hb hX hbl hbA hS (i := nI ((4 * k) + 3)) (vp_in_nI (by omega) (by omega)) dLA_law_716 ?_
  refine lv_aload_n hx hb dLA_law_717 rfl (lv_at hl 1 rfl) ?_
  have hcw : ∀ w ∈ [Cond.codeWith yLA_learned bLA_learned 6 (some .int) [(0, 12, 15, 19)]], w.before ([.ref sb] : List Value).toArray s = true := fun w h => by rw [List.mem_singleton.mp h]; exact hB.word (zm4 k4_95) rfl
  refine zcIL (tq_runSW (n := 5) (As := [.ref (o 0), .int (xs (nI ((4 * k) + 1)).toNatClampNeg), .int (xs (nI ((4 * k) + 2)).toNatClampNeg), .int (xs (nI ((4 * k) + 3)).toNatClampNeg), .ref qo]) (rest := []) ⟨hx, hb, hml, hown, hcw⟩ (tLA_learned l dC dI cI cZ cJ cA #[Value.ref sb] s o b hfl P S f qo H.size (xs (nI ((4 * k) + 1)).toNatClampNeg) (xs (nI ((4 * k) + 2)).toNatClampNeg) (xs (nI ((4 * k) + 3)).toNatClampNeg) gP gS) zgoodW rfl rfl rfl ⟨Nat.le_of_ble_eq_true rfl, Nat.le_of_ble_eq_true rfl⟩ (hB.word (zm4 k4_94) rfl) (hB.word (zm1 k1_0) rfl) (hB.word (zm4 k4_93) rfl) (by decide +kernel) ⟨zP_blind, zP_pre (zPL hP) hK (zDL hD) hAD (zB_on hB hA0 hS)⟩ rfl rfl hl.1 rfl (lv_room (Nat.le_of_ble_eq_true rfl)) dLA_law_718 ⟨hcs, hss⟩) hP hD hS hA (fun r4 x9 H locs hr4 hP hD hS => ?_)
  obtain ⟨P5, S6, f7⟩ := x9
  have hP : va_P (dC, dI) zCl ((CW cI cZ cA o b P5 S6 ++ [(qo, .inl (cJ, 1, .inr (.inl f7)))]) ++ MW cI cZ cA mo mb P' S') H := hP
  have hD : va_D (zN s.heap.size) ((CW cI cZ cA o b P5 S6 ++ [(qo, .inl (cJ, 1, .inr (.inl f7)))]) ++ MW cI cZ cA mo mb P' S') := hD
  have gPr4 := hr4.2.1
  have gSr4 := hr4.2.2
  have ePr4 : P5 = P := zH_learned_P hr4.1
  rw [ePr4] at hP hD
  refine lv_istore (lv' := [(5, .int r4), (4, .int (nI (4 * k))), (3, .ref qo), (2, .ref (mo 0)), (1, .ref (o 0)), (0, .ref sb)]) hx hb dLA_law_721 hl (by decide) rfl (fun ls hl => ?_)
  refine lv_aload_n hx hb dLA_law_723 rfl (lv_at hl 3 rfl) ?_
  refine lv_aload_n hx hb dLA_law_724 rfl (lv_at hl 5 rfl) ?_
  refine lv_iload hx hb dLA_law_725 (lv_at hl 1 rfl) ?_
  refine lv_iconst (v := 1) hx hb dLA_law_727 (by decide) ?_
  refine lv_iadd hx hb dLA_law_728 ?_
  refine lv_topi (fun k9 ek9 => ?_)
  have ek9 : k9 = nI ((4 * k) + 1) := ek9.trans (nI_add (4 * k) 1)
  subst ek9
  refine va_sld hx hb hX hbl hbA hS (i := nI ((4 * k) + 1)) (vp_in_nI (by omega) (by omega)) dLA_law_729 ?_
  refine lv_aload_n hx hb dLA_law_730 rfl (lv_at hl 5 rfl) ?_
  refine lv_iload hx hb dLA_law_731 (lv_at hl 1 rfl) ?_
  refine lv_iconst (v := 2) hx hb dLA_law_733 (by decide) ?_
  refine lv_iadd hx hb dLA_law_734 ?_
  refine lv_topi (fun k10 ek10 => ?_)
  have ek10 : k10 = nI ((4 * k) + 2) := ek10.trans (nI_add (4 * k) 2)
  subst ek10
  refine va_sld hx hb hX hbl hbA hS (i := nI ((4 * k) + 2)) (vp_in_nI (by omega) (by omega)) dLA_law_735 ?_
  refine lv_aload_n hx hb dLA_law_736 rfl (lv_at hl 5 rfl) ?_
  refine lv_iload hx hb dLA_law_737 (lv_at hl 1 rfl) ?_
  refine lv_iconst (v := 3) hx hb dLA_law_739 (by decide) ?_
  refine lv_iadd hx hb dLA_law_740 ?_
  refine lv_topi (fun k11 ek11 => ?_)
  have ek11 : k11 = nI ((4 * k) + 3) := ek11.trans (nI_add (4 * k) 3)
  subst ek11
  refine va_sld hx hb hX hbl hbA hS (i := nI ((4 * k) + 3)) (vp_in_nI (by omega) (by omega)) dLA_law_741 ?_
  have hP := zPC hP
  have hD := zDC hD
  have hPc := zPL hP
  have hDc := zDL hD
  refine zcIL (va_runV (As := [.int (xs (nI ((4 * k) + 1)).toNatClampNeg), .int (xs (nI ((4 * k) + 2)).toNatClampNeg), .int (xs (nI ((4 * k) + 3)).toNatClampNeg)]) (rest := []) ⟨hx, hb, hml, hown, zno⟩ (tMO_learned l dC dI cI cZ cJ cA #[Value.ref sb] s mo mb P' S' H.size (xs (nI ((4 * k) + 1)).toNatClampNeg) (xs (nI ((4 * k) + 2)).toNatClampNeg) (xs (nI ((4 * k) + 3)).toNatClampNeg) gP' gS') (zcw 3 (hB.word (zm6 k6_11) rfl) (hB.word (zm1 k1_9) rfl) (hB.word (zm6 k6_8) rfl) (hB.word (zm6 k6_9) rfl) (hB.word (zm6 k6_10) rfl) rfl rfl (by decide +kernel) ⟨Nat.le_of_ble_eq_true rfl, Nat.le_of_ble_eq_true rfl⟩) ⟨zP_blind, va_recv hK hPc (ci := 7) (q0 := 0) rfl rfl, zP_pre hPc hK hDc hAD (zB_on hB hA0 hS)⟩ rfl rfl hl.1 rfl (lv_room (Nat.le_of_ble_eq_true rfl)) dLA_law_742 ⟨hcs, hss⟩) hP hD hS hA (fun r12 x9 H locs hr12 hP hD hS => ?_)
  generalize x9 = S14 at hr12 hP hD
  have gSr12 := hr12.2.1
  have hP := zPC hP
  have hD := zDC hD
  have hP : va_P (dC, dI) zCl ((CW cI cZ cA o b P S6 ++ [(qo, .inl (cJ, 1, .inr (.inl f7)))]) ++ MW cI cZ cA mo mb P' S14) H := hP
  have hD : va_D (zN s.heap.size) ((CW cI cZ cA o b P S6 ++ [(qo, .inl (cJ, 1, .inr (.inl f7)))]) ++ MW cI cZ cA mo mb P' S14) := hD
  have hTr12 : zXr (k + 1) P S6 P' S14 := zk_learned hT hr4.1 hr12.1
  refine lv_istore (lv' := [(6, .int r12), (5, .int r4), (4, .int (nI (4 * k))), (3, .ref qo), (2, .ref (mo 0)), (1, .ref (o 0)), (0, .ref sb)]) hx hb dLA_law_745 hl (by decide) rfl (fun ls hl => ?_)
  refine lv_goto (tgt := 842) hx hb dLA_law_747 (by decide) ?_
  exact NX H locs ls b P S6 P' S14 f7 ⟨hI, gSr4, gSr12, hTr12⟩ hP hD hS (lv_sub hl [2, 3, 4, 5, 6] rfl)
set_option maxHeartbeats 4000000 in
set_option maxRecDepth 100000 in
theorem law_16 {p : Program} {e : Env} {s : State} {m : MethodId} {below : List Frame} {meth : Method} {c : Code} (l : Launch) (hfl : l.flags = Jvm.pinnedFlags ++ [Jvm.noTraceFlag]) {sb L : Nat} {xs : Nat → Int32} (C0 : zAt p s m meth c sb L xs) (dC : Nat → ClassId) (dI : Nat → Nat → Nat) (cI cZ cJ cA : ClassId) (hK : va_K (dC, dI) zCl (zTZ cI cZ cJ cA) s) {o mo mb : Nat → Nat} {qo : Nat} {k cs ss : Nat} (hL : L ≤ 2048) (hcs : cs + 1 ≤ 601024) (hss : ss + 6 ≤ 7293034) (hk : 4 * k + 4 ≤ L) (NX : zGo p l e s m below meth c dC dI cI cZ cJ cA sb qo o mo mb (k + 1) (nI (4 * k)) 842 (cs + 1) (ss + 6)) : zGo p l e s m below meth c dC dI cI cZ cJ cA sb qo o mo mb (k) (nI (4 * k)) 750 (cs) (ss) := by
  intro H locs ls b P S P' S' f hR hP hD hS hl
  have C1 := C0
  obtain ⟨hx, hb, hr, hml, hown, hB, hX, hbl, hlocks⟩ := C0
  have hA0 : ∀ q, zN s.heap.size q → s.heap.size ≤ q := fun _ h => h
  have hAD := hA0
  have hA : ∀ q : Nat, s.heap.size ≤ q → zN s.heap.size q := fun _ h => h
  have hbA : ¬ zN s.heap.size sb := Nat.not_le.mpr hbl
  obtain ⟨hI, gS, gS', hT⟩ := hR
  have gP := hI.1
  have gP' := hI.2.1
  refine lv_aload_n hx hb dLA_law_750 rfl (lv_at hl 3 rfl) ?_
  refine lv_aload_n hx hb dLA_law_751 rfl (lv_at hl 4 rfl) ?_
  refine lv_iload hx hb dLA_law_752 (lv_at hl 0 rfl) ?_
  refine lv_iconst (v := 1) hx hb dLA_law_754 (by decide) ?_
  refine lv_iadd hx hb dLA_law_755 ?_
  refine lv_topi (fun k1 ek1 => ?_)
  have ek1 : k1 = nI ((4 * k) + 1) := ek1.trans (nI_add (4 * k) 1)
  subst ek1
  refine va_sld hx hb hX hbl hbA hS (i := nI ((4 * k) + 1)) (vp_in_nI (by omega) (by omega)) dLA_law_756 ?_
  refine lv_aload_n hx hb dLA_law_757 rfl (lv_at hl 4 rfl) ?_
  refine lv_iload hx hb dLA_law_758 (lv_at hl 0 rfl) ?_
  refine lv_iconst (v := 2) hx hb dLA_law_760 (by decide) ?_
  refine lv_iadd hx hb dLA_law_761 ?_
  refine lv_topi (fun k2 ek2 => ?_)
  have ek2 : k2 = nI ((4 * k) + 2) := ek2.trans (nI_add (4 * k) 2)
  subst ek2
  refine va_sld hx hb hX hbl hbA hS (i := nI ((4 * k) + 2)) (vp_in_nI (by omega) (by omega)) dLA_law_762 ?_
  refine lv_aload_n hx hb dLA_law_763 rfl (lv_at hl 1 rfl) ?_
  have hcw : ∀ w ∈ [Cond.codeWith yLA_joined bLA_joined 5 (some .int) [(0, 17, 20, 19)]], w.before ([.ref sb] : List Value).toArray s = true := fun w h => by rw [List.mem_singleton.mp h]; exact hB.word (zm4 k4_103) rfl
  refine zcIL (tq_runSW (n := 4) (As := [.ref (o 0), .int (xs (nI ((4 * k) + 1)).toNatClampNeg), .int (xs (nI ((4 * k) + 2)).toNatClampNeg), .ref qo]) (rest := []) ⟨hx, hb, hml, hown, hcw⟩ (tLA_joined l dC dI cI cZ cJ cA #[Value.ref sb] s o b hfl P S f qo H.size (xs (nI ((4 * k) + 1)).toNatClampNeg) (xs (nI ((4 * k) + 2)).toNatClampNeg) gP gS) zgoodW rfl rfl rfl ⟨Nat.le_of_ble_eq_true rfl, Nat.le_of_ble_eq_true rfl⟩ (hB.word (zm4 k4_102) rfl) (hB.word (zm1 k1_0) rfl) (hB.word (zm4 k4_101) rfl) (by decide +kernel) ⟨zP_blind, zP_pre (zPL hP) hK (zDL hD) hAD (zB_on hB hA0 hS)⟩ rfl rfl hl.1 rfl (lv_room (Nat.le_of_ble_eq_true rfl)) dLA_law_764 ⟨hcs, hss⟩) hP hD hS hA (fun r3 x9 H locs hr3 hP hD hS => ?_)
  obtain ⟨P4, S5, f6⟩ := x9
  have hP : va_P (dC, dI) zCl ((CW cI cZ cA o b P4 S5 ++ [(qo, .inl (cJ, 1, .inr (.inl f6)))]) ++ MW cI cZ cA mo mb P' S') H := hP
  have hD : va_D (zN s.heap.size) ((CW cI cZ cA o b P4 S5 ++ [(qo, .inl (cJ, 1, .inr (.inl f6)))]) ++ MW cI cZ cA mo mb P' S') := hD
  have gPr3 := hr3.2.1
  have gSr3 := hr3.2.2
  have ePr3 : P4 = P := zH_joined_P hr3.1
  rw [ePr3] at hP hD
  refine lv_istore (lv' := [(5, .int r3), (4, .int (nI (4 * k))), (3, .ref qo), (2, .ref (mo 0)), (1, .ref (o 0)), (0, .ref sb)]) hx hb dLA_law_767 hl (by decide) rfl (fun ls hl => ?_)
  refine lv_aload_n hx hb dLA_law_769 rfl (lv_at hl 3 rfl) ?_
  refine lv_aload_n hx hb dLA_law_770 rfl (lv_at hl 5 rfl) ?_
  refine lv_iload hx hb dLA_law_771 (lv_at hl 1 rfl) ?_
  refine lv_iconst (v := 1) hx hb dLA_law_773 (by decide) ?_
  refine lv_iadd hx hb dLA_law_774 ?_
  refine lv_topi (fun k8 ek8 => ?_)
  have ek8 : k8 = nI ((4 * k) + 1) := ek8.trans (nI_add (4 * k) 1)
  subst ek8
  refine va_sld hx hb hX hbl hbA hS (i := nI ((4 * k) + 1)) (vp_in_nI (by omega) (by omega)) dLA_law_775 ?_
  refine lv_aload_n hx hb dLA_law_776 rfl (lv_at hl 5 rfl) ?_
  refine lv_iload hx hb dLA_law_777 (lv_at hl 1 rfl) ?_
  refine lv_iconst (v := 2) hx hb dLA_law_779 (by decide) ?_
  refine lv_iadd hx hb dLA_law_780 ?_
  refine lv_topi (fun k9 ek9 => ?_)
  have ek9 : k9 = nI ((4 * k) + 2) := ek9.trans (nI_add (4 * k) 2)
  subst ek9
  refine va_sld hx hb hX hbl hbA hS (i := nI ((4 * k) + 2)) (vp_in_nI (by omega) (by omega)) dLA_law_781 ?_
  have hP := zPC hP
  have hD := zDC hD
  have hPc := zPL hP
  have hDc := zDL hD
  refine zcIL (va_runV (As := [.int (xs (nI ((4 * k) + 1)).toNatClampNeg), .int (xs (nI ((4 * k) + 2)).toNatClampNeg)]) (rest := []) ⟨hx, hb, hml, hown, zno⟩ (tMO_joined l dC dI cI cZ cJ cA #[Value.ref sb] s mo mb P' S' H.size (xs (nI ((4 * k) + 1)).toNatClampNeg) (xs (nI ((4 * k) + 2)).toNatClampNeg) gP' gS') (zcw 2 (hB.word (zm6 k6_15) rfl) (hB.word (zm1 k1_9) rfl) (hB.word (zm6 k6_12) rfl) (hB.word (zm6 k6_13) rfl) (hB.word (zm6 k6_14) rfl) rfl rfl (by decide +kernel) ⟨Nat.le_of_ble_eq_true rfl, Nat.le_of_ble_eq_true rfl⟩) ⟨zP_blind, va_recv hK hPc (ci := 7) (q0 := 0) rfl rfl, zP_pre hPc hK hDc hAD (zB_on hB hA0 hS)⟩ rfl rfl hl.1 rfl (lv_room (Nat.le_of_ble_eq_true rfl)) dLA_law_782 ⟨hcs, hss⟩) hP hD hS hA (fun r10 x9 H locs hr10 hP hD hS => ?_)
  generalize x9 = S12 at hr10 hP hD
  have gSr10 := hr10.2.1
  have hP := zPC hP
  have hD := zDC hD
  have hP : va_P (dC, dI) zCl ((CW cI cZ cA o b P S5 ++ [(qo, .inl (cJ, 1, .inr (.inl f6)))]) ++ MW cI cZ cA mo mb P' S12) H := hP
  have hD : va_D (zN s.heap.size) ((CW cI cZ cA o b P S5 ++ [(qo, .inl (cJ, 1, .inr (.inl f6)))]) ++ MW cI cZ cA mo mb P' S12) := hD
  have hZ := zs_joined hI hT (by omega) hr3.1 hr10.1
  have hTr10 : zXr (k + 1) P S5 P' S12 := hZ.2
  refine lv_istore (lv' := [(6, .int r10), (5, .int r3), (4, .int (nI (4 * k))), (3, .ref qo), (2, .ref (mo 0)), (1, .ref (o 0)), (0, .ref sb)]) hx hb dLA_law_785 hl (by decide) rfl (fun ls hl => ?_)
  refine lv_goto (tgt := 842) hx hb dLA_law_787 (by decide) ?_
  exact NX H locs ls b P S5 P' S12 f6 ⟨hI, gSr3, gSr10, hTr10⟩ hP hD hS (lv_sub hl [2, 3, 4, 5, 6] rfl)
set_option maxHeartbeats 4000000 in
set_option maxRecDepth 100000 in
theorem law_17 {p : Program} {e : Env} {s : State} {m : MethodId} {below : List Frame} {meth : Method} {c : Code} (l : Launch) (hfl : l.flags = Jvm.pinnedFlags ++ [Jvm.noTraceFlag]) {sb L : Nat} {xs : Nat → Int32} (C0 : zAt p s m meth c sb L xs) (dC : Nat → ClassId) (dI : Nat → Nat → Nat) (cI cZ cJ cA : ClassId) (hK : va_K (dC, dI) zCl (zTZ cI cZ cJ cA) s) {o mo mb : Nat → Nat} {qo : Nat} {k cs ss : Nat} (hL : L ≤ 2048) (hcs : cs + 1 ≤ 601024) (hss : ss + 6 ≤ 7293034) (hk : 4 * k + 4 ≤ L) (NX : zGo p l e s m below meth c dC dI cI cZ cJ cA sb qo o mo mb (k + 1) (nI (4 * k)) 842 (cs + 1) (ss + 6)) : zGo p l e s m below meth c dC dI cI cZ cJ cA sb qo o mo mb (k) (nI (4 * k)) 790 (cs) (ss) := by
  intro H locs ls b P S P' S' f hR hP hD hS hl
  have C1 := C0
  obtain ⟨hx, hb, hr, hml, hown, hB, hX, hbl, hlocks⟩ := C0
  have hA0 : ∀ q, zN s.heap.size q → s.heap.size ≤ q := fun _ h => h
  have hAD := hA0
  have hA : ∀ q : Nat, s.heap.size ≤ q → zN s.heap.size q := fun _ h => h
  have hbA : ¬ zN s.heap.size sb := Nat.not_le.mpr hbl
  obtain ⟨hI, gS, gS', hT⟩ := hR
  have gP := hI.1
  have gP' := hI.2.1
  refine lv_aload_n hx hb dLA_law_790 rfl (lv_at hl 3 rfl) ?_
  have hPc := zPL (zPL hP)
  have hDc := zDL (zDL hD)
  refine zcallp (va_runV (As := []) (rest := []) ⟨hx, hb, hml, hown, zno⟩ (tRG_casts l dC dI cI cZ cJ cA #[Value.ref sb] s o b P S H.size  gP gS) (zcw 0 (hB.word (zm2 k2_42) rfl) (hB.word (zm1 k1_1) rfl) (hB.word (zm2 k2_39) rfl) (hB.word (zm2 k2_40) rfl) (hB.word (zm2 k2_41) rfl) rfl rfl (by decide +kernel) ⟨Nat.le_of_ble_eq_true rfl, Nat.le_of_ble_eq_true rfl⟩) ⟨zP_blind, va_recv hK hPc (ci := 0) (q0 := 0) rfl rfl, zP_pre hPc hK hDc hAD (zB_on hB hA0 hS)⟩ rfl rfl hl.1 rfl (lv_room (Nat.le_of_ble_eq_true rfl)) dLA_law_791 ⟨Nat.le_of_succ_le hcs, Nat.le_trans (Nat.le_add_right _ _) hss⟩) hS hA (fun r1 H1 locs hr1 hz1 hk1 hS => ?_)
  have hP := zKeep hP hk1
  generalize H1 = H at hP hS ⊢
  have hP : va_P (dC, dI) zCl ((CW cI cZ cA o b P S ++ [(qo, .inl (cJ, 1, .inr (.inl f)))]) ++ MW cI cZ cA mo mb P' S') H := hP
  have hD : va_D (zN s.heap.size) ((CW cI cZ cA o b P S ++ [(qo, .inl (cJ, 1, .inr (.inl f)))]) ++ MW cI cZ cA mo mb P' S') := hD
  refine lv_pop hx hb dLA_law_794 rfl ?_
  refine lv_aload_n hx hb dLA_law_795 rfl (lv_at hl 2 rfl) ?_
  have hP := zPC hP
  have hD := zDC hD
  have hPc := zPL hP
  have hDc := zDL hD
  refine zcIL (va_runV (As := []) (rest := []) ⟨hx, hb, hml, hown, zno⟩ (tMO_casts l dC dI cI cZ cJ cA #[Value.ref sb] s mo mb P' S' H.size  gP' gS') (zcw 0 (hB.word (zm6 k6_19) rfl) (hB.word (zm1 k1_9) rfl) (hB.word (zm6 k6_16) rfl) (hB.word (zm6 k6_17) rfl) (hB.word (zm6 k6_18) rfl) rfl rfl (by decide +kernel) ⟨Nat.le_of_ble_eq_true rfl, Nat.le_of_ble_eq_true rfl⟩) ⟨zP_blind, va_recv hK hPc (ci := 7) (q0 := 0) rfl rfl, zP_pre hPc hK hDc hAD (zB_on hB hA0 hS)⟩ rfl rfl hl.1 rfl (lv_room (Nat.le_of_ble_eq_true rfl)) dLA_law_796 ⟨Nat.le_of_succ_le hcs, Nat.le_trans (Nat.le_add_right _ _) hss⟩) hP hD hS hA (fun r2 x9 H locs hr2 hP hD hS => ?_)
  generalize x9 = S4 at hr2 hP hD
  have gSr2 := hr2.2.1
  have hP := zPC hP
  have hD := zDC hD
  have hP : va_P (dC, dI) zCl ((CW cI cZ cA o b P S ++ [(qo, .inl (cJ, 1, .inr (.inl f)))]) ++ MW cI cZ cA mo mb P' S4) H := hP
  have hD : va_D (zN s.heap.size) ((CW cI cZ cA o b P S ++ [(qo, .inl (cJ, 1, .inr (.inl f)))]) ++ MW cI cZ cA mo mb P' S4) := hD
  have hTr2 : zXr (k + 1) P S P' S4 := zk_casts hT hr2.1
  refine lv_pop hx hb dLA_law_799 rfl ?_
  refine lv_goto (tgt := 842) hx hb dLA_law_800 (by decide) ?_
  refine W.widen (k := cs + 1) (n := ss + 6) (Nat.le_add_right _ _) (Nat.le_add_right _ _) ?_
  exact NX H locs ls b P S P' S4 f ⟨hI, gS, gSr2, hTr2⟩ hP hD hS (lv_sub hl [0, 1, 2, 3, 4] rfl)
set_option maxHeartbeats 4000000 in
set_option maxRecDepth 100000 in
theorem law_18 {p : Program} {e : Env} {s : State} {m : MethodId} {below : List Frame} {meth : Method} {c : Code} (l : Launch) (hfl : l.flags = Jvm.pinnedFlags ++ [Jvm.noTraceFlag]) {sb L : Nat} {xs : Nat → Int32} (C0 : zAt p s m meth c sb L xs) (dC : Nat → ClassId) (dI : Nat → Nat → Nat) (cI cZ cJ cA : ClassId) (hK : va_K (dC, dI) zCl (zTZ cI cZ cJ cA) s) {o mo mb : Nat → Nat} {qo : Nat} {k cs ss : Nat} (hL : L ≤ 2048) (hcs : cs + 1 ≤ 601024) (hss : ss + 6 ≤ 7293034) (hk : 4 * k + 4 ≤ L) (NX : zGo p l e s m below meth c dC dI cI cZ cJ cA sb qo o mo mb (k + 1) (nI (4 * k)) 842 (cs + 1) (ss + 6)) : zGo p l e s m below meth c dC dI cI cZ cJ cA sb qo o mo mb (k) (nI (4 * k)) 803 (cs) (ss) := by
  intro H locs ls b P S P' S' f hR hP hD hS hl
  have C1 := C0
  obtain ⟨hx, hb, hr, hml, hown, hB, hX, hbl, hlocks⟩ := C0
  have hA0 : ∀ q, zN s.heap.size q → s.heap.size ≤ q := fun _ h => h
  have hAD := hA0
  have hA : ∀ q : Nat, s.heap.size ≤ q → zN s.heap.size q := fun _ h => h
  have hbA : ¬ zN s.heap.size sb := Nat.not_le.mpr hbl
  obtain ⟨hI, gS, gS', hT⟩ := hR
  have gP := hI.1
  have gP' := hI.2.1
  refine lv_aload_n hx hb dLA_law_803 rfl (lv_at hl 3 rfl) ?_
  have hPc := zPL (zPL hP)
  have hDc := zDL (zDL hD)
  refine zcallp (va_runV (As := []) (rest := []) ⟨hx, hb, hml, hown, zno⟩ (tRG_lost l dC dI cI cZ cJ cA #[Value.ref sb] s o b P S H.size  gP gS) (zcw 0 (hB.word (zm2 k2_50) rfl) (hB.word (zm1 k1_1) rfl) (hB.word (zm2 k2_47) rfl) (hB.word (zm2 k2_48) rfl) (hB.word (zm2 k2_49) rfl) rfl rfl (by decide +kernel) ⟨Nat.le_of_ble_eq_true rfl, Nat.le_of_ble_eq_true rfl⟩) ⟨zP_blind, va_recv hK hPc (ci := 0) (q0 := 0) rfl rfl, zP_pre hPc hK hDc hAD (zB_on hB hA0 hS)⟩ rfl rfl hl.1 rfl (lv_room (Nat.le_of_ble_eq_true rfl)) dLA_law_804 ⟨Nat.le_of_succ_le hcs, Nat.le_trans (Nat.le_add_right _ _) hss⟩) hS hA (fun r1 H1 locs hr1 hz1 hk1 hS => ?_)
  have hP := zKeep hP hk1
  generalize H1 = H at hP hS ⊢
  have hP : va_P (dC, dI) zCl ((CW cI cZ cA o b P S ++ [(qo, .inl (cJ, 1, .inr (.inl f)))]) ++ MW cI cZ cA mo mb P' S') H := hP
  have hD : va_D (zN s.heap.size) ((CW cI cZ cA o b P S ++ [(qo, .inl (cJ, 1, .inr (.inl f)))]) ++ MW cI cZ cA mo mb P' S') := hD
  refine lv_pop hx hb dLA_law_807 rfl ?_
  refine lv_aload_n hx hb dLA_law_808 rfl (lv_at hl 2 rfl) ?_
  have hP := zPC hP
  have hD := zDC hD
  have hPc := zPL hP
  have hDc := zDL hD
  refine zcIL (va_runV (As := []) (rest := []) ⟨hx, hb, hml, hown, zno⟩ (tMO_lost l dC dI cI cZ cJ cA #[Value.ref sb] s mo mb P' S' H.size  gP' gS') (zcw 0 (hB.word (zm6 k6_23) rfl) (hB.word (zm1 k1_9) rfl) (hB.word (zm6 k6_20) rfl) (hB.word (zm6 k6_21) rfl) (hB.word (zm6 k6_22) rfl) rfl rfl (by decide +kernel) ⟨Nat.le_of_ble_eq_true rfl, Nat.le_of_ble_eq_true rfl⟩) ⟨zP_blind, va_recv hK hPc (ci := 7) (q0 := 0) rfl rfl, zP_pre hPc hK hDc hAD (zB_on hB hA0 hS)⟩ rfl rfl hl.1 rfl (lv_room (Nat.le_of_ble_eq_true rfl)) dLA_law_809 ⟨Nat.le_of_succ_le hcs, Nat.le_trans (Nat.le_add_right _ _) hss⟩) hP hD hS hA (fun r2 x9 H locs hr2 hP hD hS => ?_)
  generalize x9 = S4 at hr2 hP hD
  have gSr2 := hr2.2.1
  have hP := zPC hP
  have hD := zDC hD
  have hP : va_P (dC, dI) zCl ((CW cI cZ cA o b P S ++ [(qo, .inl (cJ, 1, .inr (.inl f)))]) ++ MW cI cZ cA mo mb P' S4) H := hP
  have hD : va_D (zN s.heap.size) ((CW cI cZ cA o b P S ++ [(qo, .inl (cJ, 1, .inr (.inl f)))]) ++ MW cI cZ cA mo mb P' S4) := hD
  have hTr2 : zXr (k + 1) P S P' S4 := zk_lost hT hr2.1
  refine lv_pop hx hb dLA_law_812 rfl ?_
  refine lv_goto (tgt := 842) hx hb dLA_law_813 (by decide) ?_
  refine W.widen (k := cs + 1) (n := ss + 6) (Nat.le_add_right _ _) (Nat.le_add_right _ _) ?_
  exact NX H locs ls b P S P' S4 f ⟨hI, gS, gSr2, hTr2⟩ hP hD hS (lv_sub hl [0, 1, 2, 3, 4] rfl)
set_option maxHeartbeats 4000000 in
set_option maxRecDepth 100000 in
theorem law_19 {p : Program} {e : Env} {s : State} {m : MethodId} {below : List Frame} {meth : Method} {c : Code} (l : Launch) (hfl : l.flags = Jvm.pinnedFlags ++ [Jvm.noTraceFlag]) {sb L : Nat} {xs : Nat → Int32} (C0 : zAt p s m meth c sb L xs) (dC : Nat → ClassId) (dI : Nat → Nat → Nat) (cI cZ cJ cA : ClassId) (hK : va_K (dC, dI) zCl (zTZ cI cZ cJ cA) s) {o mo mb : Nat → Nat} {qo : Nat} {k cs ss : Nat} (hL : L ≤ 2048) (hcs : cs + 1 ≤ 601024) (hss : ss + 6 ≤ 7293034) (hk : 4 * k + 4 ≤ L) (NX : zGo p l e s m below meth c dC dI cI cZ cJ cA sb qo o mo mb (k + 1) (nI (4 * k)) 842 (cs + 1) (ss + 6)) : zGo p l e s m below meth c dC dI cI cZ cJ cA sb qo o mo mb (k) (nI (4 * k)) 816 (cs) (ss) := by
  intro H locs ls b P S P' S' f hR hP hD hS hl
  have C1 := C0
  obtain ⟨hx, hb, hr, hml, hown, hB, hX, hbl, hlocks⟩ := C0
  have hA0 : ∀ q, zN s.heap.size q → s.heap.size ≤ q := fun _ h => h
  have hAD := hA0
  have hA : ∀ q : Nat, s.heap.size ≤ q → zN s.heap.size q := fun _ h => h
  have hbA : ¬ zN s.heap.size sb := Nat.not_le.mpr hbl
  obtain ⟨hI, gS, gS', hT⟩ := hR
  have gP := hI.1
  have gP' := hI.2.1
  refine lv_aload_n hx hb dLA_law_816 rfl (lv_at hl 3 rfl) ?_
  have hPc := zPL (zPL hP)
  have hDc := zDL (zDL hD)
  refine zcallp (va_runV (As := []) (rest := []) ⟨hx, hb, hml, hown, zno⟩ (tRG_circles l dC dI cI cZ cJ cA #[Value.ref sb] s o b P S H.size  gP gS) (zcw 0 (hB.word (zm2 k2_54) rfl) (hB.word (zm1 k1_1) rfl) (hB.word (zm2 k2_51) rfl) (hB.word (zm2 k2_52) rfl) (hB.word (zm2 k2_53) rfl) rfl rfl (by decide +kernel) ⟨Nat.le_of_ble_eq_true rfl, Nat.le_of_ble_eq_true rfl⟩) ⟨zP_blind, va_recv hK hPc (ci := 0) (q0 := 0) rfl rfl, zP_pre hPc hK hDc hAD (zB_on hB hA0 hS)⟩ rfl rfl hl.1 rfl (lv_room (Nat.le_of_ble_eq_true rfl)) dLA_law_817 ⟨Nat.le_of_succ_le hcs, Nat.le_trans (Nat.le_add_right _ _) hss⟩) hS hA (fun r1 H1 locs hr1 hz1 hk1 hS => ?_)
  have hP := zKeep hP hk1
  generalize H1 = H at hP hS ⊢
  have hP : va_P (dC, dI) zCl ((CW cI cZ cA o b P S ++ [(qo, .inl (cJ, 1, .inr (.inl f)))]) ++ MW cI cZ cA mo mb P' S') H := hP
  have hD : va_D (zN s.heap.size) ((CW cI cZ cA o b P S ++ [(qo, .inl (cJ, 1, .inr (.inl f)))]) ++ MW cI cZ cA mo mb P' S') := hD
  refine lv_aload_n hx hb dLA_law_820 rfl (lv_at hl 2 rfl) ?_
  have hP := zPC hP
  have hD := zDC hD
  have hPc := zPL hP
  have hDc := zDL hD
  refine zcIL (va_runV (As := []) (rest := [.int r1]) ⟨hx, hb, hml, hown, zno⟩ (tMO_circles l dC dI cI cZ cJ cA #[Value.ref sb] s mo mb P' S' H.size  gP' gS') (zcw 0 (hB.word (zm6 k6_27) rfl) (hB.word (zm1 k1_9) rfl) (hB.word (zm6 k6_24) rfl) (hB.word (zm6 k6_25) rfl) (hB.word (zm6 k6_26) rfl) rfl rfl (by decide +kernel) ⟨Nat.le_of_ble_eq_true rfl, Nat.le_of_ble_eq_true rfl⟩) ⟨zP_blind, va_recv hK hPc (ci := 7) (q0 := 0) rfl rfl, zP_pre hPc hK hDc hAD (zB_on hB hA0 hS)⟩ rfl rfl hl.1 rfl (lv_room (Nat.le_of_ble_eq_true rfl)) dLA_law_821 ⟨Nat.le_of_succ_le hcs, Nat.le_trans (Nat.le_add_right _ _) hss⟩) hP hD hS hA (fun r2 x9 H locs hr2 hP hD hS => ?_)
  generalize x9 = S4 at hr2 hP hD
  have gSr2 := hr2.2.1
  have hP := zPC hP
  have hD := zDC hD
  have hP : va_P (dC, dI) zCl ((CW cI cZ cA o b P S ++ [(qo, .inl (cJ, 1, .inr (.inl f)))]) ++ MW cI cZ cA mo mb P' S4) H := hP
  have hD : va_D (zN s.heap.size) ((CW cI cZ cA o b P S ++ [(qo, .inl (cJ, 1, .inr (.inl f)))]) ++ MW cI cZ cA mo mb P' S4) := hD
  have eT : r1 = r2 := hr1.1.trans (za_circles hT hr2.1)
  have hTr2 : zXr (k + 1) P S P' S4 := zk_circles hT hr2.1
  refine lv_icmp_eq (tgt := 842) hx hb dLA_law_824 (by decide) (fun _ => ?_) (fun c9 => absurd eT c9)
  refine W.widen (k := cs + 1) (n := ss + 6) (Nat.le_add_right _ _) (Nat.le_add_right _ _) ?_
  exact NX H locs ls b P S P' S4 f ⟨hI, gS, gSr2, hTr2⟩ hP hD hS (lv_sub hl [0, 1, 2, 3, 4] rfl)
set_option maxHeartbeats 4000000 in
set_option maxRecDepth 100000 in
theorem law_20 {p : Program} {e : Env} {s : State} {m : MethodId} {below : List Frame} {meth : Method} {c : Code} (l : Launch) (hfl : l.flags = Jvm.pinnedFlags ++ [Jvm.noTraceFlag]) {sb L : Nat} {xs : Nat → Int32} (C0 : zAt p s m meth c sb L xs) (dC : Nat → ClassId) (dI : Nat → Nat → Nat) (cI cZ cJ cA : ClassId) (hK : va_K (dC, dI) zCl (zTZ cI cZ cJ cA) s) {o mo mb : Nat → Nat} {qo : Nat} {k cs ss : Nat} (hL : L ≤ 2048) (hcs : cs + 1 ≤ 601024) (hss : ss + 6 ≤ 7293034) (hk : 4 * k + 4 ≤ L) (NX : zGo p l e s m below meth c dC dI cI cZ cJ cA sb qo o mo mb (k + 1) (nI (4 * k)) 842 (cs + 1) (ss + 6)) : zGo p l e s m below meth c dC dI cI cZ cJ cA sb qo o mo mb (k) (nI (4 * k)) 829 (cs) (ss) := by
  intro H locs ls b P S P' S' f hR hP hD hS hl
  have C1 := C0
  obtain ⟨hx, hb, hr, hml, hown, hB, hX, hbl, hlocks⟩ := C0
  have hA0 : ∀ q, zN s.heap.size q → s.heap.size ≤ q := fun _ h => h
  have hAD := hA0
  have hA : ∀ q : Nat, s.heap.size ≤ q → zN s.heap.size q := fun _ h => h
  have hbA : ¬ zN s.heap.size sb := Nat.not_le.mpr hbl
  obtain ⟨hI, gS, gS', hT⟩ := hR
  have gP := hI.1
  have gP' := hI.2.1
  refine lv_aload_n hx hb dLA_law_829 rfl (lv_at hl 3 rfl) ?_
  have hPc := zPL (zPL hP)
  have hDc := zDL (zDL hD)
  refine zcallp (va_runV (As := []) (rest := []) ⟨hx, hb, hml, hown, zno⟩ (tRG_apart l dC dI cI cZ cJ cA #[Value.ref sb] s o b P S H.size  gP gS) (zcw 0 (hB.word (zm2 k2_58) rfl) (hB.word (zm1 k1_1) rfl) (hB.word (zm2 k2_55) rfl) (hB.word (zm2 k2_56) rfl) (hB.word (zm2 k2_57) rfl) rfl rfl (by decide +kernel) ⟨Nat.le_of_ble_eq_true rfl, Nat.le_of_ble_eq_true rfl⟩) ⟨zP_blind, va_recv hK hPc (ci := 0) (q0 := 0) rfl rfl, zP_pre hPc hK hDc hAD (zB_on hB hA0 hS)⟩ rfl rfl hl.1 rfl (lv_room (Nat.le_of_ble_eq_true rfl)) dLA_law_830 ⟨Nat.le_of_succ_le hcs, Nat.le_trans (Nat.le_add_right _ _) hss⟩) hS hA (fun r1 H1 locs hr1 hz1 hk1 hS => ?_)
  have hP := zKeep hP hk1
  generalize H1 = H at hP hS ⊢
  have hP : va_P (dC, dI) zCl ((CW cI cZ cA o b P S ++ [(qo, .inl (cJ, 1, .inr (.inl f)))]) ++ MW cI cZ cA mo mb P' S') H := hP
  have hD : va_D (zN s.heap.size) ((CW cI cZ cA o b P S ++ [(qo, .inl (cJ, 1, .inr (.inl f)))]) ++ MW cI cZ cA mo mb P' S') := hD
  refine lv_pop hx hb dLA_law_833 rfl ?_
  refine lv_aload_n hx hb dLA_law_834 rfl (lv_at hl 2 rfl) ?_
  have hP := zPC hP
  have hD := zDC hD
  have hPc := zPL hP
  have hDc := zDL hD
  refine zcIL (va_runV (As := []) (rest := []) ⟨hx, hb, hml, hown, zno⟩ (tMO_apart l dC dI cI cZ cJ cA #[Value.ref sb] s mo mb P' S' H.size  gP' gS') (zcw 0 (hB.word (zm6 k6_31) rfl) (hB.word (zm1 k1_9) rfl) (hB.word (zm6 k6_28) rfl) (hB.word (zm6 k6_29) rfl) (hB.word (zm6 k6_30) rfl) rfl rfl (by decide +kernel) ⟨Nat.le_of_ble_eq_true rfl, Nat.le_of_ble_eq_true rfl⟩) ⟨zP_blind, va_recv hK hPc (ci := 7) (q0 := 0) rfl rfl, zP_pre hPc hK hDc hAD (zB_on hB hA0 hS)⟩ rfl rfl hl.1 rfl (lv_room (Nat.le_of_ble_eq_true rfl)) dLA_law_835 ⟨Nat.le_of_succ_le hcs, Nat.le_trans (Nat.le_add_right _ _) hss⟩) hP hD hS hA (fun r2 x9 H locs hr2 hP hD hS => ?_)
  generalize x9 = S4 at hr2 hP hD
  have gSr2 := hr2.2.1
  have hP := zPC hP
  have hD := zDC hD
  have hP : va_P (dC, dI) zCl ((CW cI cZ cA o b P S ++ [(qo, .inl (cJ, 1, .inr (.inl f)))]) ++ MW cI cZ cA mo mb P' S4) H := hP
  have hD : va_D (zN s.heap.size) ((CW cI cZ cA o b P S ++ [(qo, .inl (cJ, 1, .inr (.inl f)))]) ++ MW cI cZ cA mo mb P' S4) := hD
  have hTr2 : zXr (k + 1) P S P' S4 := zk_apart hT hr2.1
  refine lv_pop hx hb dLA_law_838 rfl ?_
  refine lv_goto (tgt := 842) hx hb dLA_law_839 (by decide) ?_
  refine W.widen (k := cs + 1) (n := ss + 6) (Nat.le_add_right _ _) (Nat.le_add_right _ _) ?_
  exact NX H locs ls b P S P' S4 f ⟨hI, gS, gSr2, hTr2⟩ hP hD hS (lv_sub hl [0, 1, 2, 3, 4] rfl)
