theorem k2_39 : tables_1_2[39]? = some (Jvm.Cond.methodLink "RingGuardLaw" (136 : Nat) ({ cls := "RingGuard", name := "casts", desc := "()I" } : Jvm.MethodName)) := by decide +kernel
theorem k2_40 : tables_1_2[40]? = some (Jvm.Cond.instanceMethod ({ cls := "RingGuard", name := "casts", desc := "()I" } : Jvm.MethodName)) := by decide +kernel
theorem k2_41 : tables_1_2[41]? = some (Jvm.Cond.selects "RingGuard" ({ cls := "RingGuard", name := "casts", desc := "()I" } : Jvm.MethodName) ({ cls := "RingGuard", name := "casts", desc := "()I" } : Jvm.MethodName)) := by decide +kernel
theorem k2_42 : tables_1_2[42]? = some (Jvm.Cond.code ({ cls := "RingGuard", name := "casts", desc := "()I" } : Jvm.MethodName) prog_1_method_19_code (1 : Nat) (Option.some Jvm.ClassFile.FieldType.int)) := rfl
theorem k2_47 : tables_1_2[47]? = some (Jvm.Cond.methodLink "RingGuardLaw" (140 : Nat) ({ cls := "RingGuard", name := "lost", desc := "()I" } : Jvm.MethodName)) := by decide +kernel
theorem k2_48 : tables_1_2[48]? = some (Jvm.Cond.instanceMethod ({ cls := "RingGuard", name := "lost", desc := "()I" } : Jvm.MethodName)) := by decide +kernel
theorem k2_49 : tables_1_2[49]? = some (Jvm.Cond.selects "RingGuard" ({ cls := "RingGuard", name := "lost", desc := "()I" } : Jvm.MethodName) ({ cls := "RingGuard", name := "lost", desc := "()I" } : Jvm.MethodName)) := by decide +kernel
theorem k2_50 : tables_1_2[50]? = some (Jvm.Cond.code ({ cls := "RingGuard", name := "lost", desc := "()I" } : Jvm.MethodName) prog_1_method_20_code (1 : Nat) (Option.some Jvm.ClassFile.FieldType.int)) := rfl
theorem k2_51 : tables_1_2[51]? = some (Jvm.Cond.methodLink "RingGuardLaw" (144 : Nat) ({ cls := "RingGuard", name := "circles", desc := "()I" } : Jvm.MethodName)) := by decide +kernel
theorem k2_52 : tables_1_2[52]? = some (Jvm.Cond.instanceMethod ({ cls := "RingGuard", name := "circles", desc := "()I" } : Jvm.MethodName)) := by decide +kernel
theorem k2_53 : tables_1_2[53]? = some (Jvm.Cond.selects "RingGuard" ({ cls := "RingGuard", name := "circles", desc := "()I" } : Jvm.MethodName) ({ cls := "RingGuard", name := "circles", desc := "()I" } : Jvm.MethodName)) := by decide +kernel
theorem k2_54 : tables_1_2[54]? = some (Jvm.Cond.code ({ cls := "RingGuard", name := "circles", desc := "()I" } : Jvm.MethodName) prog_1_method_21_code (1 : Nat) (Option.some Jvm.ClassFile.FieldType.int)) := rfl
theorem k2_55 : tables_1_2[55]? = some (Jvm.Cond.methodLink "RingGuardLaw" (148 : Nat) ({ cls := "RingGuard", name := "apart", desc := "()I" } : Jvm.MethodName)) := by decide +kernel
theorem k2_56 : tables_1_2[56]? = some (Jvm.Cond.instanceMethod ({ cls := "RingGuard", name := "apart", desc := "()I" } : Jvm.MethodName)) := by decide +kernel
theorem k2_57 : tables_1_2[57]? = some (Jvm.Cond.selects "RingGuard" ({ cls := "RingGuard", name := "apart", desc := "()I" } : Jvm.MethodName) ({ cls := "RingGuard", name := "apart", desc := "()I" } : Jvm.MethodName)) := by decide +kernel
theorem k2_58 : tables_1_2[58]? = some (Jvm.Cond.code ({ cls := "RingGuard", name := "apart", desc := "()I" } : Jvm.MethodName) prog_1_method_22_code (1 : Nat) (Option.some Jvm.ClassFile.FieldType.int)) := rfl
theorem k4_93 : tables_1_4[93]? = some (Jvm.Cond.methodLink "RingGuardLaw" (130 : Nat) ({ cls := "RingGuardLaw", name := "learned", desc := "(LRingGuard;III[J)I" } : Jvm.MethodName)) := by decide +kernel
theorem k4_94 : tables_1_4[94]? = some (Jvm.Cond.static ({ cls := "RingGuardLaw", name := "learned", desc := "(LRingGuard;III[J)I" } : Jvm.MethodName)) := by decide +kernel
theorem k4_95 : tables_1_4[95]? = some (Jvm.Cond.codeWith ({ cls := "RingGuardLaw", name := "learned", desc := "(LRingGuard;III[J)I" } : Jvm.MethodName) method_17_code (6 : Nat) (Option.some Jvm.ClassFile.FieldType.int) [((0 : Nat), (12 : Nat), (15 : Nat), (19 : Nat))]) := rfl
theorem k4_101 : tables_1_4[101]? = some (Jvm.Cond.methodLink "RingGuardLaw" (133 : Nat) ({ cls := "RingGuardLaw", name := "joined", desc := "(LRingGuard;II[J)I" } : Jvm.MethodName)) := by decide +kernel
theorem k4_102 : tables_1_4[102]? = some (Jvm.Cond.static ({ cls := "RingGuardLaw", name := "joined", desc := "(LRingGuard;II[J)I" } : Jvm.MethodName)) := by decide +kernel
theorem k4_103 : tables_1_4[103]? = some (Jvm.Cond.codeWith ({ cls := "RingGuardLaw", name := "joined", desc := "(LRingGuard;II[J)I" } : Jvm.MethodName) method_18_code (5 : Nat) (Option.some Jvm.ClassFile.FieldType.int) [((0 : Nat), (17 : Nat), (20 : Nat), (19 : Nat))]) := rfl
theorem k6_12 : tables_1_6[12]? = some (Jvm.Cond.methodLink "RingGuardLaw" (132 : Nat) ({ cls := "RingGuardModel", name := "learned", desc := "(III)I" } : Jvm.MethodName)) := by decide +kernel
theorem k6_13 : tables_1_6[13]? = some (Jvm.Cond.instanceMethod ({ cls := "RingGuardModel", name := "learned", desc := "(III)I" } : Jvm.MethodName)) := by decide +kernel
theorem k6_14 : tables_1_6[14]? = some (Jvm.Cond.selects "RingGuardModel" ({ cls := "RingGuardModel", name := "learned", desc := "(III)I" } : Jvm.MethodName) ({ cls := "RingGuardModel", name := "learned", desc := "(III)I" } : Jvm.MethodName)) := by decide +kernel
theorem k6_15 : tables_1_6[15]? = some (Jvm.Cond.code ({ cls := "RingGuardModel", name := "learned", desc := "(III)I" } : Jvm.MethodName) prog_10_method_57_code (4 : Nat) (Option.some Jvm.ClassFile.FieldType.int)) := rfl
theorem k6_16 : tables_1_6[16]? = some (Jvm.Cond.methodLink "RingGuardLaw" (135 : Nat) ({ cls := "RingGuardModel", name := "joined", desc := "(II)Z" } : Jvm.MethodName)) := by decide +kernel
theorem k6_17 : tables_1_6[17]? = some (Jvm.Cond.instanceMethod ({ cls := "RingGuardModel", name := "joined", desc := "(II)Z" } : Jvm.MethodName)) := by decide +kernel
theorem k6_18 : tables_1_6[18]? = some (Jvm.Cond.selects "RingGuardModel" ({ cls := "RingGuardModel", name := "joined", desc := "(II)Z" } : Jvm.MethodName) ({ cls := "RingGuardModel", name := "joined", desc := "(II)Z" } : Jvm.MethodName)) := by decide +kernel
theorem k6_19 : tables_1_6[19]? = some (Jvm.Cond.code ({ cls := "RingGuardModel", name := "joined", desc := "(II)Z" } : Jvm.MethodName) prog_10_method_58_code (5 : Nat) (Option.some Jvm.ClassFile.FieldType.boolean)) := rfl
theorem k6_20 : tables_1_6[20]? = some (Jvm.Cond.methodLink "RingGuardLaw" (139 : Nat) ({ cls := "RingGuardModel", name := "casts", desc := "()I" } : Jvm.MethodName)) := by decide +kernel
theorem k6_21 : tables_1_6[21]? = some (Jvm.Cond.instanceMethod ({ cls := "RingGuardModel", name := "casts", desc := "()I" } : Jvm.MethodName)) := by decide +kernel
theorem k6_22 : tables_1_6[22]? = some (Jvm.Cond.selects "RingGuardModel" ({ cls := "RingGuardModel", name := "casts", desc := "()I" } : Jvm.MethodName) ({ cls := "RingGuardModel", name := "casts", desc := "()I" } : Jvm.MethodName)) := by decide +kernel
theorem k6_23 : tables_1_6[23]? = some (Jvm.Cond.code ({ cls := "RingGuardModel", name := "casts", desc := "()I" } : Jvm.MethodName) prog_10_method_59_code (3 : Nat) (Option.some Jvm.ClassFile.FieldType.int)) := rfl
theorem k6_24 : tables_1_6[24]? = some (Jvm.Cond.methodLink "RingGuardLaw" (143 : Nat) ({ cls := "RingGuardModel", name := "lost", desc := "()I" } : Jvm.MethodName)) := by decide +kernel
theorem k6_25 : tables_1_6[25]? = some (Jvm.Cond.instanceMethod ({ cls := "RingGuardModel", name := "lost", desc := "()I" } : Jvm.MethodName)) := by decide +kernel
theorem k6_26 : tables_1_6[26]? = some (Jvm.Cond.selects "RingGuardModel" ({ cls := "RingGuardModel", name := "lost", desc := "()I" } : Jvm.MethodName) ({ cls := "RingGuardModel", name := "lost", desc := "()I" } : Jvm.MethodName)) := by decide +kernel
theorem k6_27 : tables_1_6[27]? = some (Jvm.Cond.code ({ cls := "RingGuardModel", name := "lost", desc := "()I" } : Jvm.MethodName) prog_10_method_60_code (1 : Nat) (Option.some Jvm.ClassFile.FieldType.int)) := rfl
theorem k6_28 : tables_1_6[28]? = some (Jvm.Cond.methodLink "RingGuardLaw" (147 : Nat) ({ cls := "RingGuardModel", name := "circles", desc := "()I" } : Jvm.MethodName)) := by decide +kernel
theorem k6_29 : tables_1_6[29]? = some (Jvm.Cond.instanceMethod ({ cls := "RingGuardModel", name := "circles", desc := "()I" } : Jvm.MethodName)) := by decide +kernel
theorem k6_30 : tables_1_6[30]? = some (Jvm.Cond.selects "RingGuardModel" ({ cls := "RingGuardModel", name := "circles", desc := "()I" } : Jvm.MethodName) ({ cls := "RingGuardModel", name := "circles", desc := "()I" } : Jvm.MethodName)) := by decide +kernel
theorem k6_31 : tables_1_6[31]? = some (Jvm.Cond.code ({ cls := "RingGuardModel", name := "circles", desc := "()I" } : Jvm.MethodName) prog_10_method_61_code (1 : Nat) (Option.some Jvm.ClassFile.FieldType.int)) := rfl
theorem k6_32 : tables_1_6[32]? = some (Jvm.Cond.methodLink "RingGuardLaw" (151 : Nat) ({ cls := "RingGuardModel", name := "apart", desc := "()I" } : Jvm.MethodName)) := by decide +kernel
theorem k6_33 : tables_1_6[33]? = some (Jvm.Cond.instanceMethod ({ cls := "RingGuardModel", name := "apart", desc := "()I" } : Jvm.MethodName)) := by decide +kernel
theorem k6_34 : tables_1_6[34]? = some (Jvm.Cond.selects "RingGuardModel" ({ cls := "RingGuardModel", name := "apart", desc := "()I" } : Jvm.MethodName) ({ cls := "RingGuardModel", name := "apart", desc := "()I" } : Jvm.MethodName)) := by decide +kernel
theorem k6_35 : tables_1_6[35]? = some (Jvm.Cond.code ({ cls := "RingGuardModel", name := "apart", desc := "()I" } : Jvm.MethodName) prog_10_method_62_code (1 : Nat) (Option.some Jvm.ClassFile.FieldType.int)) := rfl
theorem dLA_law_733 : decode bLA_law 733 = .ok (.aload_n 1, 1) := by decide +kernel
theorem dLA_law_734 : decode bLA_law 734 = .ok (.aload_n 0, 1) := by decide +kernel
theorem dLA_law_735 : decode bLA_law 735 = .ok (.iload 4, 2) := by decide +kernel
theorem dLA_law_737 : decode bLA_law 737 = .ok (.iconst 1, 1) := by decide +kernel
theorem dLA_law_738 : decode bLA_law 738 = .ok (.iadd, 1) := by decide +kernel
theorem dLA_law_739 : decode bLA_law 739 = .ok (.iaload, 1) := by decide +kernel
theorem dLA_law_740 : decode bLA_law 740 = .ok (.aload_n 0, 1) := by decide +kernel
theorem dLA_law_741 : decode bLA_law 741 = .ok (.iload 4, 2) := by decide +kernel
theorem dLA_law_743 : decode bLA_law 743 = .ok (.iconst 2, 1) := by decide +kernel
theorem dLA_law_744 : decode bLA_law 744 = .ok (.iadd, 1) := by decide +kernel
theorem dLA_law_745 : decode bLA_law 745 = .ok (.iaload, 1) := by decide +kernel
theorem dLA_law_746 : decode bLA_law 746 = .ok (.aload_n 0, 1) := by decide +kernel
theorem dLA_law_747 : decode bLA_law 747 = .ok (.iload 4, 2) := by decide +kernel
theorem dLA_law_749 : decode bLA_law 749 = .ok (.iconst 3, 1) := by decide +kernel
theorem dLA_law_750 : decode bLA_law 750 = .ok (.iadd, 1) := by decide +kernel
theorem dLA_law_751 : decode bLA_law 751 = .ok (.iaload, 1) := by decide +kernel
theorem dLA_law_752 : decode bLA_law 752 = .ok (.aload_n 3, 1) := by decide +kernel
theorem dLA_law_753 : decode bLA_law 753 = .ok (.invokestatic 130, 3) := by decide +kernel
theorem dLA_law_756 : decode bLA_law 756 = .ok (.istore 5, 2) := by decide +kernel
theorem dLA_law_758 : decode bLA_law 758 = .ok (.aload_n 2, 1) := by decide +kernel
theorem dLA_law_759 : decode bLA_law 759 = .ok (.aload_n 0, 1) := by decide +kernel
theorem dLA_law_760 : decode bLA_law 760 = .ok (.iload 4, 2) := by decide +kernel
theorem dLA_law_762 : decode bLA_law 762 = .ok (.iconst 1, 1) := by decide +kernel
theorem dLA_law_763 : decode bLA_law 763 = .ok (.iadd, 1) := by decide +kernel
theorem dLA_law_764 : decode bLA_law 764 = .ok (.iaload, 1) := by decide +kernel
theorem dLA_law_765 : decode bLA_law 765 = .ok (.aload_n 0, 1) := by decide +kernel
theorem dLA_law_766 : decode bLA_law 766 = .ok (.iload 4, 2) := by decide +kernel
theorem dLA_law_768 : decode bLA_law 768 = .ok (.iconst 2, 1) := by decide +kernel
theorem dLA_law_769 : decode bLA_law 769 = .ok (.iadd, 1) := by decide +kernel
theorem dLA_law_770 : decode bLA_law 770 = .ok (.iaload, 1) := by decide +kernel
theorem dLA_law_771 : decode bLA_law 771 = .ok (.aload_n 0, 1) := by decide +kernel
theorem dLA_law_772 : decode bLA_law 772 = .ok (.iload 4, 2) := by decide +kernel
theorem dLA_law_774 : decode bLA_law 774 = .ok (.iconst 3, 1) := by decide +kernel
theorem dLA_law_775 : decode bLA_law 775 = .ok (.iadd, 1) := by decide +kernel
theorem dLA_law_776 : decode bLA_law 776 = .ok (.iaload, 1) := by decide +kernel
theorem dLA_law_777 : decode bLA_law 777 = .ok (.invokevirtual 132, 3) := by decide +kernel
theorem dLA_law_780 : decode bLA_law 780 = .ok (.istore 6, 2) := by decide +kernel
theorem dLA_law_782 : decode bLA_law 782 = .ok (.goto 95, 3) := by decide +kernel
theorem dLA_law_785 : decode bLA_law 785 = .ok (.aload_n 1, 1) := by decide +kernel
theorem dLA_law_786 : decode bLA_law 786 = .ok (.aload_n 0, 1) := by decide +kernel
theorem dLA_law_787 : decode bLA_law 787 = .ok (.iload 4, 2) := by decide +kernel
theorem dLA_law_789 : decode bLA_law 789 = .ok (.iconst 1, 1) := by decide +kernel
theorem dLA_law_790 : decode bLA_law 790 = .ok (.iadd, 1) := by decide +kernel
theorem dLA_law_791 : decode bLA_law 791 = .ok (.iaload, 1) := by decide +kernel
theorem dLA_law_792 : decode bLA_law 792 = .ok (.aload_n 0, 1) := by decide +kernel
theorem dLA_law_793 : decode bLA_law 793 = .ok (.iload 4, 2) := by decide +kernel
theorem dLA_law_795 : decode bLA_law 795 = .ok (.iconst 2, 1) := by decide +kernel
theorem dLA_law_796 : decode bLA_law 796 = .ok (.iadd, 1) := by decide +kernel
theorem dLA_law_797 : decode bLA_law 797 = .ok (.iaload, 1) := by decide +kernel
theorem dLA_law_798 : decode bLA_law 798 = .ok (.aload_n 3, 1) := by decide +kernel
theorem dLA_law_799 : decode bLA_law 799 = .ok (.invokestatic 133, 3) := by decide +kernel
theorem dLA_law_802 : decode bLA_law 802 = .ok (.istore 5, 2) := by decide +kernel
theorem dLA_law_804 : decode bLA_law 804 = .ok (.aload_n 2, 1) := by decide +kernel
theorem dLA_law_805 : decode bLA_law 805 = .ok (.aload_n 0, 1) := by decide +kernel
theorem dLA_law_806 : decode bLA_law 806 = .ok (.iload 4, 2) := by decide +kernel
theorem dLA_law_808 : decode bLA_law 808 = .ok (.iconst 1, 1) := by decide +kernel
theorem dLA_law_809 : decode bLA_law 809 = .ok (.iadd, 1) := by decide +kernel
theorem dLA_law_810 : decode bLA_law 810 = .ok (.iaload, 1) := by decide +kernel
theorem dLA_law_811 : decode bLA_law 811 = .ok (.aload_n 0, 1) := by decide +kernel
theorem dLA_law_812 : decode bLA_law 812 = .ok (.iload 4, 2) := by decide +kernel
theorem dLA_law_814 : decode bLA_law 814 = .ok (.iconst 2, 1) := by decide +kernel
theorem dLA_law_815 : decode bLA_law 815 = .ok (.iadd, 1) := by decide +kernel
theorem dLA_law_816 : decode bLA_law 816 = .ok (.iaload, 1) := by decide +kernel
theorem dLA_law_817 : decode bLA_law 817 = .ok (.invokevirtual 135, 3) := by decide +kernel
theorem dLA_law_820 : decode bLA_law 820 = .ok (.istore 6, 2) := by decide +kernel
theorem dLA_law_822 : decode bLA_law 822 = .ok (.goto 55, 3) := by decide +kernel
theorem dLA_law_825 : decode bLA_law 825 = .ok (.aload_n 1, 1) := by decide +kernel
theorem dLA_law_826 : decode bLA_law 826 = .ok (.invokevirtual 136, 3) := by decide +kernel
theorem dLA_law_829 : decode bLA_law 829 = .ok (.pop, 1) := by decide +kernel
theorem dLA_law_830 : decode bLA_law 830 = .ok (.aload_n 2, 1) := by decide +kernel
theorem dLA_law_831 : decode bLA_law 831 = .ok (.invokevirtual 139, 3) := by decide +kernel
theorem dLA_law_834 : decode bLA_law 834 = .ok (.pop, 1) := by decide +kernel
theorem dLA_law_835 : decode bLA_law 835 = .ok (.goto 42, 3) := by decide +kernel
theorem dLA_law_838 : decode bLA_law 838 = .ok (.aload_n 1, 1) := by decide +kernel
theorem dLA_law_839 : decode bLA_law 839 = .ok (.invokevirtual 140, 3) := by decide +kernel
theorem dLA_law_842 : decode bLA_law 842 = .ok (.pop, 1) := by decide +kernel
theorem dLA_law_843 : decode bLA_law 843 = .ok (.aload_n 2, 1) := by decide +kernel
theorem dLA_law_844 : decode bLA_law 844 = .ok (.invokevirtual 143, 3) := by decide +kernel
theorem dLA_law_847 : decode bLA_law 847 = .ok (.pop, 1) := by decide +kernel
theorem dLA_law_848 : decode bLA_law 848 = .ok (.goto 29, 3) := by decide +kernel
theorem dLA_law_851 : decode bLA_law 851 = .ok (.aload_n 1, 1) := by decide +kernel
theorem dLA_law_852 : decode bLA_law 852 = .ok (.invokevirtual 144, 3) := by decide +kernel
theorem dLA_law_855 : decode bLA_law 855 = .ok (.pop, 1) := by decide +kernel
theorem dLA_law_856 : decode bLA_law 856 = .ok (.aload_n 2, 1) := by decide +kernel
theorem dLA_law_857 : decode bLA_law 857 = .ok (.invokevirtual 147, 3) := by decide +kernel
theorem dLA_law_860 : decode bLA_law 860 = .ok (.pop, 1) := by decide +kernel
theorem dLA_law_861 : decode bLA_law 861 = .ok (.goto 16, 3) := by decide +kernel
theorem dLA_law_864 : decode bLA_law 864 = .ok (.aload_n 1, 1) := by decide +kernel
theorem dLA_law_865 : decode bLA_law 865 = .ok (.invokevirtual 148, 3) := by decide +kernel
theorem dLA_law_868 : decode bLA_law 868 = .ok (.pop, 1) := by decide +kernel
theorem dLA_law_869 : decode bLA_law 869 = .ok (.aload_n 2, 1) := by decide +kernel
theorem dLA_law_870 : decode bLA_law 870 = .ok (.invokevirtual 151, 3) := by decide +kernel
theorem dLA_law_873 : decode bLA_law 873 = .ok (.pop, 1) := by decide +kernel
theorem dLA_law_874 : decode bLA_law 874 = .ok (.goto 3, 3) := by decide +kernel
set_option maxHeartbeats 4000000 in
set_option maxRecDepth 100000 in
theorem law_14 {p : Program} {e : Env} {s : State} {m : MethodId} {below : List Frame} {meth : Method} {c : Code} (l : Launch) (hfl : l.flags = Jvm.pinnedFlags ++ [Jvm.noTraceFlag]) {sb L : Nat} {xs : Nat → Int32} (C0 : zAt p s m meth c sb L xs) (dC : Nat → ClassId) (dI : Nat → Nat → Nat) (cI cZ cJ cA : ClassId) (hK : va_K (dC, dI) zCl (zTZ cI cZ cJ cA) s) {o mo mb : Nat → Nat} {qo : Nat} {k cs ss : Nat} (hL : L ≤ 2048) (hcs : cs + 1 ≤ 601024) (hss : ss + 6 ≤ 7293034) (hk : 4 * k + 4 ≤ L) (NX : zGo p l e s m below meth c dC dI cI cZ cJ cA sb qo o mo mb (k + 1) (nI (4 * k)) 877 (cs + 1) (ss + 6)) : zGo p l e s m below meth c dC dI cI cZ cJ cA sb qo o mo mb (k) (nI (4 * k)) 681 (cs) (ss) := by
  intro H locs ls b P S P' S' f hR hP hD hS hl
  have C1 := C0
  obtain ⟨hx, hb, hr, hml, hown, hB, hX, hbl, hlocks⟩ := C0
  have hA0 : ∀ q, zN s.heap.size q → s.heap.size ≤ q := fun _ h => h
  have hAD := hA0
  have hA : ∀ q : Nat, s.heap.size ≤ q → zN s.heap.size q := fun _ h => h
  have hbA : ¬ zN s.heap.size sb := Nat.not_le.mpr hbl
  obtain ⟨hI, gS, gS', hT⟩ := hR
  have gP := hI.1
  have gP' := hI.2.1
  refine lv_aload_n hx hb dLA_law_681 rfl (lv_at hl 3 rfl) ?_
  refine lv_aload_n hx hb dLA_law_682 rfl (lv_at hl 4 rfl) ?_
  refine lv_iload hx hb dLA_law_683 (lv_at hl 0 rfl) ?_
  refine lv_iconst (v := 1) hx hb dLA_law_685 (by decide) ?_
  refine lv_iadd hx hb dLA_law_686 ?_
  refine lv_topi (fun k1 ek1 => ?_)
  have ek1 : k1 = nI ((4 * k) + 1) := ek1.trans (nI_add (4 * k) 1)
  subst ek1
  refine va_sld hx hb hX hbl hbA hS (i := nI ((4 * k) + 1)) (vp_in_nI (by omega) (by omega)) dLA_law_687 ?_
  refine lv_aload_n hx hb dLA_law_688 rfl (lv_at hl 4 rfl) ?_
  refine lv_iload hx hb dLA_law_689 (lv_at hl 0 rfl) ?_
  refine lv_iconst (v := 2) hx hb dLA_law_691 (by decide) ?_
  refine lv_iadd hx hb dLA_law_692 ?_
  refine lv_topi (fun k2 ek2 => ?_)
  have ek2 : k2 = nI ((4 * k) + 2) := ek2.trans (nI_add (4 * k) 2)
  subst ek2
  refine va_sld hx hb hX hbl hbA hS (i := nI ((4 * k) + 2)) (vp_in_nI (by omega) (by omega)) dLA_law_693 ?_
  refine lv_aload_n hx hb dLA_law_694 rfl (lv_at hl 4 rfl) ?_
  refine lv_iload hx hb dLA_law_695 (lv_at hl 0 rfl) ?_
  refine lv_iconst (v := 3) hx hb dLA_law_697 (by decide) ?_
  refine lv_iadd hx hb dLA_law_698 ?_
  refine lv_topi (fun k3 ek3 => ?_)
  have ek3 : k3 = nI ((4 * k) + 3) := ek3.trans (nI_add (4 * k) 3)
  subst ek3
  refine va_sld hx hb hX hbl hbA hS (i := nI ((4 * k) + 3)) (vp_in_nI (by omega) (by omega)) dLA_law_699 ?_
  refine lv_aload_n hx hb dLA_law_700 rfl (lv_at hl 1 rfl) ?_
  have hcw : ∀ w ∈ [Cond.codeWith yLA_told bLA_told 6 (some .int) [(0, 12, 15, 19)]], w.before ([.ref sb] : List Value).toArray s = true := fun w h => by rw [List.mem_singleton.mp h]; exact hB.word (zm4 k4_87) rfl
  refine zcIL (tq_runSW (n := 5) (As := [.ref (o 0), .int (xs (nI ((4 * k) + 1)).toNatClampNeg), .int (xs (nI ((4 * k) + 2)).toNatClampNeg), .int (xs (nI ((4 * k) + 3)).toNatClampNeg), .ref qo]) (rest := []) ⟨hx, hb, hml, hown, hcw⟩ (tLA_told l dC dI cI cZ cJ cA #[Value.ref sb] s o b hfl P S f qo H.size (xs (nI ((4 * k) + 1)).toNatClampNeg) (xs (nI ((4 * k) + 2)).toNatClampNeg) (xs (nI ((4 * k) + 3)).toNatClampNeg) gP gS) zgoodW rfl rfl rfl ⟨Nat.le_of_ble_eq_true rfl, Nat.le_of_ble_eq_true rfl⟩ (hB.word (zm4 k4_86) rfl) (hB.word (zm1 k1_0) rfl) (hB.word (zm4 k4_85) rfl) (by decide +kernel) ⟨zP_blind, zP_pre (zPL hP) hK (zDL hD) hAD (zB_on hB hA0 hS)⟩ rfl rfl hl.1 rfl (lv_room (Nat.le_of_ble_eq_true rfl)) dLA_law_701 ⟨hcs, hss⟩) hP hD hS hA (fun r4 x9 H locs hr4 hP hD hS => ?_)
  obtain ⟨P5, S6, f7⟩ := x9
  have hP : va_P (dC, dI) zCl ((CW cI cZ cA o b P5 S6 ++ [(qo, .inl (cJ, 1, .inr (.inl f7)))]) ++ MW cI cZ cA mo mb P' S') H := hP
  have hD : va_D (zN s.heap.size) ((CW cI cZ cA o b P5 S6 ++ [(qo, .inl (cJ, 1, .inr (.inl f7)))]) ++ MW cI cZ cA mo mb P' S') := hD
  have gPr4 := hr4.2.1
  have gSr4 := hr4.2.2
  have ePr4 : P5 = P := zH_told_P hr4.1
  rw [ePr4] at hP hD
  refine lv_istore (lv' := [(5, .int r4), (4, .int (nI (4 * k))), (3, .ref qo), (2, .ref (mo 0)), (1, .ref (o 0)), (0, .ref sb)]) hx hb dLA_law_704 hl (by decide) rfl (fun ls hl => ?_)
  refine lv_aload_n hx hb dLA_law_706 rfl (lv_at hl 3 rfl) ?_
  refine lv_aload_n hx hb dLA_law_707 rfl (lv_at hl 5 rfl) ?_
  refine lv_iload hx hb dLA_law_708 (lv_at hl 1 rfl) ?_
  refine lv_iconst (v := 1) hx hb dLA_law_710 (by decide) ?_
  refine lv_iadd hx hb dLA_law_711 ?_
  refine lv_topi (fun k9 ek9 => ?_)
  have ek9 : k9 = nI ((4 * k) + 1) := ek9.trans (nI_add (4 * k) 1)
  subst ek9
  refine va_sld hx hb hX hbl hbA hS (i := nI ((4 * k) + 1)) (vp_in_nI (by omega) (by omega)) dLA_law_712 ?_
  refine lv_aload_n hx hb dLA_law_713 rfl (lv_at hl 5 rfl) ?_
  refine lv_iload hx hb dLA_law_714 (lv_at hl 1 rfl) ?_
  refine lv_iconst (v := 2) hx hb dLA_law_716 (by decide) ?_
  refine lv_iadd hx hb dLA_law_717 ?_
  refine lv_topi (fun k10 ek10 => ?_)
  have ek10 : k10 = nI ((4 * k) + 2) := ek10.trans (nI_add (4 * k) 2)
  subst ek10
  refine va_sld hx hb hX hbl hbA hS (i := nI ((4 * k) + 2)) (vp_in_nI (by omega) (by omega)) dLA_law_718 ?_
  refine lv_aload_n hx hb dLA_law_719 rfl (lv_at hl 5 rfl) ?_
  refine lv_iload hx hb dLA_law_720 (lv_at hl 1 rfl) ?_
  refine lv_iconst (v := 3) hx hb dLA_law_722 (by decide) ?_
  refine lv_iadd hx hb dLA_law_723 ?_
  refine lv_topi (fun k11 ek11 => ?_)
  have ek11 : k11 = nI ((4 * k) + 3) := ek11.trans (nI_add (4 * k) 3)
  subst ek11
  refine va_sld hx hb hX hbl hbA hS (i := nI ((4 * k) + 3)) (vp_in_nI (by omega) (by omega)) dLA_law_724 ?_
  have hP := zPC hP
  have hD := zDC hD
  have hPc := zPL hP
  have hDc := zDL hD
  refine zcIL (va_runV (As := [.int (xs (nI ((4 * k) + 1)).toNatClampNeg), .int (xs (nI ((4 * k) + 2)).toNatClampNeg), .int (xs (nI ((4 * k) + 3)).toNatClampNeg)]) (rest := []) ⟨hx, hb, hml, hown, zno⟩ (tMO_told l dC dI cI cZ cJ cA #[Value.ref sb] s mo mb P' S' H.size (xs (nI ((4 * k) + 1)).toNatClampNeg) (xs (nI ((4 * k) + 2)).toNatClampNeg) (xs (nI ((4 * k) + 3)).toNatClampNeg) gP' gS') (zcw 3 (hB.word (zm6 k6_11) rfl) (hB.word (zm1 k1_9) rfl) (hB.word (zm6 k6_8) rfl) (hB.word (zm6 k6_9) rfl) (hB.word (zm6 k6_10) rfl) rfl rfl (by decide +kernel) ⟨Nat.le_of_ble_eq_true rfl, Nat.le_of_ble_eq_true rfl⟩) ⟨zP_blind, va_recv hK hPc (ci := 7) (q0 := 0) rfl rfl, zP_pre hPc hK hDc hAD (zB_on hB hA0 hS)⟩ rfl rfl hl.1 rfl (lv_room (Nat.le_of_ble_eq_true rfl)) dLA_law_725 ⟨hcs, hss⟩) hP hD hS hA (fun r12 x9 H locs hr12 hP hD hS => ?_)
  generalize x9 = S14 at hr12 hP hD
  have gSr12 := hr12.2.1
  have hP := zPC hP
  have hD := zDC hD
  have hP : va_P (dC, dI) zCl ((CW cI cZ cA o b P S6 ++ [(qo, .inl (cJ, 1, .inr (.inl f7)))]) ++ MW cI cZ cA mo mb P' S14) H := hP
  have hD : va_D (zN s.heap.size) ((CW cI cZ cA o b P S6 ++ [(qo, .inl (cJ, 1, .inr (.inl f7)))]) ++ MW cI cZ cA mo mb P' S14) := hD
  have hTr12 : zXr (k + 1) P S6 P' S14 := zk_told hT hr4.1 hr12.1
  refine lv_istore (lv' := [(6, .int r12), (5, .int r4), (4, .int (nI (4 * k))), (3, .ref qo), (2, .ref (mo 0)), (1, .ref (o 0)), (0, .ref sb)]) hx hb dLA_law_728 hl (by decide) rfl (fun ls hl => ?_)
  refine lv_goto (tgt := 877) hx hb dLA_law_730 (by decide) ?_
  exact NX H locs ls b P S6 P' S14 f7 ⟨hI, gSr4, gSr12, hTr12⟩ hP hD hS (lv_sub hl [2, 3, 4, 5, 6] rfl)
set_option maxHeartbeats 4000000 in
set_option maxRecDepth 100000 in
theorem law_15 {p : Program} {e : Env} {s : State} {m : MethodId} {below : List Frame} {meth : Method} {c : Code} (l : Launch) (hfl : l.flags = Jvm.pinnedFlags ++ [Jvm.noTraceFlag]) {sb L : Nat} {xs : Nat → Int32} (C0 : zAt p s m meth c sb L xs) (dC : Nat → ClassId) (dI : Nat → Nat → Nat) (cI cZ cJ cA : ClassId) (hK : va_K (dC, dI) zCl (zTZ cI cZ cJ cA) s) {o mo mb : Nat → Nat} {qo : Nat} {k cs ss : Nat} (hL : L ≤ 2048) (hcs : cs + 1 ≤ 601024) (hss : ss + 6 ≤ 7293034) (hk : 4 * k + 4 ≤ L) (NX : zGo p l e s m below meth c dC dI cI cZ cJ cA sb qo o mo mb (k + 1) (nI (4 * k)) 877 (cs + 1) (ss + 6)) : zGo p l e s m below meth c dC dI cI cZ cJ cA sb qo o mo mb (k) (nI (4 * k)) 733 (cs) (ss) := by
  intro H locs ls b P S P' S' f hR hP hD hS hl
  have C1 := C0
  obtain ⟨hx, hb, hr, hml, hown, hB, hX, hbl, hlocks⟩ := C0
  have hA0 : ∀ q, zN s.heap.size q → s.heap.size ≤ q := fun _ h => h
  have hAD := hA0
  have hA : ∀ q : Nat, s.heap.size ≤ q → zN s.heap.size q := fun _ h => h
  have hbA : ¬ zN s.heap.size sb := Nat.not_le.mpr hbl
  obtain ⟨hI, gS, gS', hT⟩ := hR
  have gP := hI.1
  have gP' := hI.2.1
  refine lv_aload_n hx hb dLA_law_733 rfl (lv_at hl 3 rfl) ?_
  refine lv_aload_n hx hb dLA_law_734 rfl (lv_at hl 4 rfl) ?_
  refine lv_iload hx hb dLA_law_735 (lv_at hl 0 rfl) ?_
  refine lv_iconst (v := 1) hx hb dLA_law_737 (by decide) ?_
  refine lv_iadd hx hb dLA_law_738 ?_
  refine lv_topi (fun k1 ek1 => ?_)
  have ek1 : k1 = nI ((4 * k) + 1) := ek1.trans (nI_add (4 * k) 1)
  subst ek1
  refine va_sld hx hb hX hbl hbA hS (i := nI ((4 * k) + 1)) (vp_in_nI (by omega) (by omega)) dLA_law_739 ?_
  refine lv_aload_n hx hb dLA_law_740 rfl (lv_at hl 4 rfl) ?_
  refine lv_iload hx hb dLA_law_741 (lv_at hl 0 rfl) ?_
  refine lv_iconst (v := 2) hx hb dLA_law_743 (by decide) ?_
  refine lv_iadd hx hb dLA_law_744 ?_
  refine lv_topi (fun k2 ek2 => ?_)
  have ek2 : k2 = nI ((4 * k) + 2) := ek2.trans (nI_add (4 * k) 2)
  subst ek2
  refine va_sld hx hb hX hbl hbA hS (i := nI ((4 * k) + 2)) (vp_in_nI (by omega) (by omega)) dLA_law_745 ?_
  refine lv_aload_n hx hb dLA_law_746 rfl (lv_at hl 4 rfl) ?_
  refine lv_iload hx hb dLA_law_747 (lv_at hl 0 rfl) ?_
  refine lv_iconst (v := 3) hx hb dLA_law_749 (by decide) ?_
  refine lv_iadd hx hb dLA_law_750 ?_
  refine lv_topi (fun k3 ek3 => ?_)
  have ek3 : k3 = nI ((4 * k) + 3) := ek3.trans (nI_add (4 * k) 3)
  subst ek3
  refine va_sld hx hb hX hbl hbA hS (i := nI ((4 * k) + 3)) (vp_in_nI (by omega) (by omega)) dLA_law_751 ?_
  refine lv_aload_n hx hb dLA_law_752 rfl (lv_at hl 1 rfl) ?_
  have hcw : ∀ w ∈ [Cond.codeWith yLA_learned bLA_learned 6 (some .int) [(0, 12, 15, 19)]], w.before ([.ref sb] : List Value).toArray s = true := fun w h => by rw [List.mem_singleton.mp h]; exact hB.word (zm4 k4_95) rfl
  refine zcIL (tq_runSW (n := 5) (As := [.ref (o 0), .int (xs (nI ((4 * k) + 1)).toNatClampNeg), .int (xs (nI ((4 * k) + 2)).toNatClampNeg), .int (xs (nI ((4 * k) + 3)).toNatClampNeg), .ref qo]) (rest := []) ⟨hx, hb, hml, hown, hcw⟩ (tLA_learned l dC dI cI cZ cJ cA #[Value.ref sb] s o b hfl P S f qo H.size (xs (nI ((4 * k) + 1)).toNatClampNeg) (xs (nI ((4 * k) + 2)).toNatClampNeg) (xs (nI ((4 * k) + 3)).toNatClampNeg) gP gS) zgoodW rfl rfl rfl ⟨Nat.le_of_ble_eq_true rfl, Nat.le_of_ble_eq_true rfl⟩ (hB.word (zm4 k4_94) rfl) (hB.word (zm1 k1_0) rfl) (hB.word (zm4 k4_93) rfl) (by decide +kernel) ⟨zP_blind, zP_pre (zPL hP) hK (zDL hD) hAD (zB_on hB hA0 hS)⟩ rfl rfl hl.1 rfl (lv_room (Nat.le_of_ble_eq_true rfl)) dLA_law_753 ⟨hcs, hss⟩) hP hD hS hA (fun r4 x9 H locs hr4 hP hD hS => ?_)
  obtain ⟨P5, S6, f7⟩ := x9
  have hP : va_P (dC, dI) zCl ((CW cI cZ cA o b P5 S6 ++ [(qo, .inl (cJ, 1, .inr (.inl f7)))]) ++ MW cI cZ cA mo mb P' S') H := hP
  have hD : va_D (zN s.heap.size) ((CW cI cZ cA o b P5 S6 ++ [(qo, .inl (cJ, 1, .inr (.inl f7)))]) ++ MW cI cZ cA mo mb P' S') := hD
  have gPr4 := hr4.2.1
  have gSr4 := hr4.2.2
  have ePr4 : P5 = P := zH_learned_P hr4.1
  rw [ePr4] at hP hD
  refine lv_istore (lv' := [(5, .int r4), (4, .int (nI (4 * k))), (3, .ref qo), (2, .ref (mo 0)), (1, .ref (o 0)), (0, .ref sb)]) hx hb dLA_law_756 hl (by decide) rfl (fun ls hl => ?_)
  refine lv_aload_n hx hb dLA_law_758 rfl (lv_at hl 3 rfl) ?_
  refine lv_aload_n hx hb dLA_law_759 rfl (lv_at hl 5 rfl) ?_
  refine lv_iload hx hb dLA_law_760 (lv_at hl 1 rfl) ?_
  refine lv_iconst (v := 1) hx hb dLA_law_762 (by decide) ?_
  refine lv_iadd hx hb dLA_law_763 ?_
  refine lv_topi (fun k9 ek9 => ?_)
  have ek9 : k9 = nI ((4 * k) + 1) := ek9.trans (nI_add (4 * k) 1)
  subst ek9
  refine va_sld hx hb hX hbl hbA hS (i := nI ((4 * k) + 1)) (vp_in_nI (by omega) (by omega)) dLA_law_764 ?_
  refine lv_aload_n hx hb dLA_law_765 rfl (lv_at hl 5 rfl) ?_
  refine lv_iload hx hb dLA_law_766 (lv_at hl 1 rfl) ?_
  refine lv_iconst (v := 2) hx hb dLA_law_768 (by decide) ?_
  refine lv_iadd hx hb dLA_law_769 ?_
  refine lv_topi (fun k10 ek10 => ?_)
  have ek10 : k10 = nI ((4 * k) + 2) := ek10.trans (nI_add (4 * k) 2)
  subst ek10
  refine va_sld hx hb hX hbl hbA hS (i := nI ((4 * k) + 2)) (vp_in_nI (by omega) (by omega)) dLA_law_770 ?_
  refine lv_aload_n hx hb dLA_law_771 rfl (lv_at hl 5 rfl) ?_
  refine lv_iload hx hb dLA_law_772 (lv_at hl 1 rfl) ?_
  refine lv_iconst (v := 3) hx hb dLA_law_774 (by decide) ?_
  refine lv_iadd hx hb dLA_law_775 ?_
  refine lv_topi (fun k11 ek11 => ?_)
  have ek11 : k11 = nI ((4 * k) + 3) := ek11.trans (nI_add (4 * k) 3)
  subst ek11
  refine va_sld hx hb hX hbl hbA hS (i := nI ((4 * k) + 3)) (vp_in_nI (by omega) (by omega)) dLA_law_776 ?_
  have hP := zPC hP
  have hD := zDC hD
  have hPc := zPL hP
  have hDc := zDL hD
  refine zcIL (va_runV (As := [.int (xs (nI ((4 * k) + 1)).toNatClampNeg), .int (xs (nI ((4 * k) + 2)).toNatClampNeg), .int (xs (nI ((4 * k) + 3)).toNatClampNeg)]) (rest := []) ⟨hx, hb, hml, hown, zno⟩ (tMO_learned l dC dI cI cZ cJ cA #[Value.ref sb] s mo mb P' S' H.size (xs (nI ((4 * k) + 1)).toNatClampNeg) (xs (nI ((4 * k) + 2)).toNatClampNeg) (xs (nI ((4 * k) + 3)).toNatClampNeg) gP' gS') (zcw 3 (hB.word (zm6 k6_15) rfl) (hB.word (zm1 k1_9) rfl) (hB.word (zm6 k6_12) rfl) (hB.word (zm6 k6_13) rfl) (hB.word (zm6 k6_14) rfl) rfl rfl (by decide +kernel) ⟨Nat.le_of_ble_eq_true rfl, Nat.le_of_ble_eq_true rfl⟩) ⟨zP_blind, va_recv hK hPc (ci := 7) (q0 := 0) rfl rfl, zP_pre hPc hK hDc hAD (zB_on hB hA0 hS)⟩ rfl rfl hl.1 rfl (lv_room (Nat.le_of_ble_eq_true rfl)) dLA_law_777 ⟨hcs, hss⟩) hP hD hS hA (fun r12 x9 H locs hr12 hP hD hS => ?_)
  generalize x9 = S14 at hr12 hP hD
  have gSr12 := hr12.2.1
  have hP := zPC hP
  have hD := zDC hD
  have hP : va_P (dC, dI) zCl ((CW cI cZ cA o b P S6 ++ [(qo, .inl (cJ, 1, .inr (.inl f7)))]) ++ MW cI cZ cA mo mb P' S14) H := hP
  have hD : va_D (zN s.heap.size) ((CW cI cZ cA o b P S6 ++ [(qo, .inl (cJ, 1, .inr (.inl f7)))]) ++ MW cI cZ cA mo mb P' S14) := hD
  have hTr12 : zXr (k + 1) P S6 P' S14 := zk_learned hT hr4.1 hr12.1
  refine lv_istore (lv' := [(6, .int r12), (5, .int r4), (4, .int (nI (4 * k))), (3, .ref qo), (2, .ref (mo 0)), (1, .ref (o 0)), (0, .ref sb)]) hx hb dLA_law_780 hl (by decide) rfl (fun ls hl => ?_)
  refine lv_goto (tgt := 877) hx hb dLA_law_782 (by decide) ?_
  exact NX H locs ls b P S6 P' S14 f7 ⟨hI, gSr4, gSr12, hTr12⟩ hP hD hS (lv_sub hl [2, 3, 4, 5, 6] rfl)
set_option maxHeartbeats 4000000 in
set_option maxRecDepth 100000 in
theorem law_16 {p : Program} {e : Env} {s : State} {m : MethodId} {below : List Frame} {meth : Method} {c : Code} (l : Launch) (hfl : l.flags = Jvm.pinnedFlags ++ [Jvm.noTraceFlag]) {sb L : Nat} {xs : Nat → Int32} (C0 : zAt p s m meth c sb L xs) (dC : Nat → ClassId) (dI : Nat → Nat → Nat) (cI cZ cJ cA : ClassId) (hK : va_K (dC, dI) zCl (zTZ cI cZ cJ cA) s) {o mo mb : Nat → Nat} {qo : Nat} {k cs ss : Nat} (hL : L ≤ 2048) (hcs : cs + 1 ≤ 601024) (hss : ss + 6 ≤ 7293034) (hk : 4 * k + 4 ≤ L) (NX : zGo p l e s m below meth c dC dI cI cZ cJ cA sb qo o mo mb (k + 1) (nI (4 * k)) 877 (cs + 1) (ss + 6)) : zGo p l e s m below meth c dC dI cI cZ cJ cA sb qo o mo mb (k) (nI (4 * k)) 785 (cs) (ss) := by
  intro H locs ls b P S P' S' f hR hP hD hS hl
  have C1 := C0
  obtain ⟨hx, hb, hr, hml, hown, hB, hX, hbl, hlocks⟩ := C0
  have hA0 : ∀ q, zN s.heap.size q → s.heap.size ≤ q := fun _ h => h
  have hAD := hA0
  have hA : ∀ q : Nat, s.heap.size ≤ q → zN s.heap.size q := fun _ h => h
  have hbA : ¬ zN s.heap.size sb := Nat.not_le.mpr hbl
  obtain ⟨hI, gS, gS', hT⟩ := hR
  have gP := hI.1
  have gP' := hI.2.1
  refine lv_aload_n hx hb dLA_law_785 rfl (lv_at hl 3 rfl) ?_
  refine lv_aload_n hx hb dLA_law_786 rfl (lv_at hl 4 rfl) ?_
  refine lv_iload hx hb dLA_law_787 (lv_at hl 0 rfl) ?_
  refine lv_iconst (v := 1) hx hb dLA_law_789 (by decide) ?_
  refine lv_iadd hx hb dLA_law_790 ?_
  refine lv_topi (fun k1 ek1 => ?_)
  have ek1 : k1 = nI ((4 * k) + 1) := ek1.trans (nI_add (4 * k) 1)
  subst ek1
  refine va_sld hx hb hX hbl hbA hS (i := nI ((4 * k) + 1)) (vp_in_nI (by omega) (by omega)) dLA_law_791 ?_
  refine lv_aload_n hx hb dLA_law_792 rfl (lv_at hl 4 rfl) ?_
  refine lv_iload hx hb dLA_law_793 (lv_at hl 0 rfl) ?_
  refine lv_iconst (v := 2) hx hb dLA_law_795 (by decide) ?_
  refine lv_iadd hx hb dLA_law_796 ?_
  refine lv_topi (fun k2 ek2 => ?_)
  have ek2 : k2 = nI ((4 * k) + 2) := ek2.trans (nI_add (4 * k) 2)
  subst ek2
  refine va_sld hx hb hX hbl hbA hS (i := nI ((4 * k) + 2)) (vp_in_nI (by omega) (by omega)) dLA_law_797 ?_
  refine lv_aload_n hx hb dLA_law_798 rfl (lv_at hl 1 rfl) ?_
  have hcw : ∀ w ∈ [Cond.codeWith yLA_joined bLA_joined 5 (some .int) [(0, 17, 20, 19)]], w.before ([.ref sb] : List Value).toArray s = true := fun w h => by rw [List.mem_singleton.mp h]; exact hB.word (zm4 k4_103) rfl
  refine zcIL (tq_runSW (n := 4) (As := [.ref (o 0), .int (xs (nI ((4 * k) + 1)).toNatClampNeg), .int (xs (nI ((4 * k) + 2)).toNatClampNeg), .ref qo]) (rest := []) ⟨hx, hb, hml, hown, hcw⟩ (tLA_joined l dC dI cI cZ cJ cA #[Value.ref sb] s o b hfl P S f qo H.size (xs (nI ((4 * k) + 1)).toNatClampNeg) (xs (nI ((4 * k) + 2)).toNatClampNeg) gP gS) zgoodW rfl rfl rfl ⟨Nat.le_of_ble_eq_true rfl, Nat.le_of_ble_eq_true rfl⟩ (hB.word (zm4 k4_102) rfl) (hB.word (zm1 k1_0) rfl) (hB.word (zm4 k4_101) rfl) (by decide +kernel) ⟨zP_blind, zP_pre (zPL hP) hK (zDL hD) hAD (zB_on hB hA0 hS)⟩ rfl rfl hl.1 rfl (lv_room (Nat.le_of_ble_eq_true rfl)) dLA_law_799 ⟨hcs, hss⟩) hP hD hS hA (fun r3 x9 H locs hr3 hP hD hS => ?_)
  obtain ⟨P4, S5, f6⟩ := x9
  have hP : va_P (dC, dI) zCl ((CW cI cZ cA o b P4 S5 ++ [(qo, .inl (cJ, 1, .inr (.inl f6)))]) ++ MW cI cZ cA mo mb P' S') H := hP
  have hD : va_D (zN s.heap.size) ((CW cI cZ cA o b P4 S5 ++ [(qo, .inl (cJ, 1, .inr (.inl f6)))]) ++ MW cI cZ cA mo mb P' S') := hD
  have gPr3 := hr3.2.1
  have gSr3 := hr3.2.2
  have ePr3 : P4 = P := zH_joined_P hr3.1
  rw [ePr3] at hP hD
  refine lv_istore (lv' := [(5, .int r3), (4, .int (nI (4 * k))), (3, .ref qo), (2, .ref (mo 0)), (1, .ref (o 0)), (0, .ref sb)]) hx hb dLA_law_802 hl (by decide) rfl (fun ls hl => ?_)
  refine lv_aload_n hx hb dLA_law_804 rfl (lv_at hl 3 rfl) ?_
  refine lv_aload_n hx hb dLA_law_805 rfl (lv_at hl 5 rfl) ?_
  refine lv_iload hx hb dLA_law_806 (lv_at hl 1 rfl) ?_
  refine lv_iconst (v := 1) hx hb dLA_law_808 (by decide) ?_
  refine lv_iadd hx hb dLA_law_809 ?_
  refine lv_topi (fun k8 ek8 => ?_)
  have ek8 : k8 = nI ((4 * k) + 1) := ek8.trans (nI_add (4 * k) 1)
  subst ek8
  refine va_sld hx hb hX hbl hbA hS (i := nI ((4 * k) + 1)) (vp_in_nI (by omega) (by omega)) dLA_law_810 ?_
  refine lv_aload_n hx hb dLA_law_811 rfl (lv_at hl 5 rfl) ?_
  refine lv_iload hx hb dLA_law_812 (lv_at hl 1 rfl) ?_
  refine lv_iconst (v := 2) hx hb dLA_law_814 (by decide) ?_
  refine lv_iadd hx hb dLA_law_815 ?_
  refine lv_topi (fun k9 ek9 => ?_)
  have ek9 : k9 = nI ((4 * k) + 2) := ek9.trans (nI_add (4 * k) 2)
  subst ek9
  refine va_sld hx hb hX hbl hbA hS (i := nI ((4 * k) + 2)) (vp_in_nI (by omega) (by omega)) dLA_law_816 ?_
  have hP := zPC hP
  have hD := zDC hD
  have hPc := zPL hP
  have hDc := zDL hD
  refine zcIL (va_runV (As := [.int (xs (nI ((4 * k) + 1)).toNatClampNeg), .int (xs (nI ((4 * k) + 2)).toNatClampNeg)]) (rest := []) ⟨hx, hb, hml, hown, zno⟩ (tMO_joined l dC dI cI cZ cJ cA #[Value.ref sb] s mo mb P' S' H.size (xs (nI ((4 * k) + 1)).toNatClampNeg) (xs (nI ((4 * k) + 2)).toNatClampNeg) gP' gS') (zcw 2 (hB.word (zm6 k6_19) rfl) (hB.word (zm1 k1_9) rfl) (hB.word (zm6 k6_16) rfl) (hB.word (zm6 k6_17) rfl) (hB.word (zm6 k6_18) rfl) rfl rfl (by decide +kernel) ⟨Nat.le_of_ble_eq_true rfl, Nat.le_of_ble_eq_true rfl⟩) ⟨zP_blind, va_recv hK hPc (ci := 7) (q0 := 0) rfl rfl, zP_pre hPc hK hDc hAD (zB_on hB hA0 hS)⟩ rfl rfl hl.1 rfl (lv_room (Nat.le_of_ble_eq_true rfl)) dLA_law_817 ⟨hcs, hss⟩) hP hD hS hA (fun r10 x9 H locs hr10 hP hD hS => ?_)
  generalize x9 = S12 at hr10 hP hD
  have gSr10 := hr10.2.1
  have hP := zPC hP
  have hD := zDC hD
  have hP : va_P (dC, dI) zCl ((CW cI cZ cA o b P S5 ++ [(qo, .inl (cJ, 1, .inr (.inl f6)))]) ++ MW cI cZ cA mo mb P' S12) H := hP
  have hD : va_D (zN s.heap.size) ((CW cI cZ cA o b P S5 ++ [(qo, .inl (cJ, 1, .inr (.inl f6)))]) ++ MW cI cZ cA mo mb P' S12) := hD
  have hZ := zs_joined hI hT (by omega) hr3.1 hr10.1
  have hTr10 : zXr (k + 1) P S5 P' S12 := hZ.2
  refine lv_istore (lv' := [(6, .int r10), (5, .int r3), (4, .int (nI (4 * k))), (3, .ref qo), (2, .ref (mo 0)), (1, .ref (o 0)), (0, .ref sb)]) hx hb dLA_law_820 hl (by decide) rfl (fun ls hl => ?_)
  refine lv_goto (tgt := 877) hx hb dLA_law_822 (by decide) ?_
  exact NX H locs ls b P S5 P' S12 f6 ⟨hI, gSr3, gSr10, hTr10⟩ hP hD hS (lv_sub hl [2, 3, 4, 5, 6] rfl)
set_option maxHeartbeats 4000000 in
set_option maxRecDepth 100000 in
theorem law_17 {p : Program} {e : Env} {s : State} {m : MethodId} {below : List Frame} {meth : Method} {c : Code} (l : Launch) (hfl : l.flags = Jvm.pinnedFlags ++ [Jvm.noTraceFlag]) {sb L : Nat} {xs : Nat → Int32} (C0 : zAt p s m meth c sb L xs) (dC : Nat → ClassId) (dI : Nat → Nat → Nat) (cI cZ cJ cA : ClassId) (hK : va_K (dC, dI) zCl (zTZ cI cZ cJ cA) s) {o mo mb : Nat → Nat} {qo : Nat} {k cs ss : Nat} (hL : L ≤ 2048) (hcs : cs + 1 ≤ 601024) (hss : ss + 6 ≤ 7293034) (hk : 4 * k + 4 ≤ L) (NX : zGo p l e s m below meth c dC dI cI cZ cJ cA sb qo o mo mb (k + 1) (nI (4 * k)) 877 (cs + 1) (ss + 6)) : zGo p l e s m below meth c dC dI cI cZ cJ cA sb qo o mo mb (k) (nI (4 * k)) 825 (cs) (ss) := by
  intro H locs ls b P S P' S' f hR hP hD hS hl
  have C1 := C0
  obtain ⟨hx, hb, hr, hml, hown, hB, hX, hbl, hlocks⟩ := C0
  have hA0 : ∀ q, zN s.heap.size q → s.heap.size ≤ q := fun _ h => h
  have hAD := hA0
  have hA : ∀ q : Nat, s.heap.size ≤ q → zN s.heap.size q := fun _ h => h
  have hbA : ¬ zN s.heap.size sb := Nat.not_le.mpr hbl
  obtain ⟨hI, gS, gS', hT⟩ := hR
  have gP := hI.1
  have gP' := hI.2.1
  refine lv_aload_n hx hb dLA_law_825 rfl (lv_at hl 3 rfl) ?_
  have hPc := zPL (zPL hP)
  have hDc := zDL (zDL hD)
  refine zcallp (va_runV (As := []) (rest := []) ⟨hx, hb, hml, hown, zno⟩ (tRG_casts l dC dI cI cZ cJ cA #[Value.ref sb] s o b P S H.size  gP gS) (zcw 0 (hB.word (zm2 k2_42) rfl) (hB.word (zm1 k1_1) rfl) (hB.word (zm2 k2_39) rfl) (hB.word (zm2 k2_40) rfl) (hB.word (zm2 k2_41) rfl) rfl rfl (by decide +kernel) ⟨Nat.le_of_ble_eq_true rfl, Nat.le_of_ble_eq_true rfl⟩) ⟨zP_blind, va_recv hK hPc (ci := 0) (q0 := 0) rfl rfl, zP_pre hPc hK hDc hAD (zB_on hB hA0 hS)⟩ rfl rfl hl.1 rfl (lv_room (Nat.le_of_ble_eq_true rfl)) dLA_law_826 ⟨Nat.le_of_succ_le hcs, Nat.le_trans (Nat.le_add_right _ _) hss⟩) hS hA (fun r1 H1 locs hr1 hz1 hk1 hS => ?_)
  have hP := zKeep hP hk1
  generalize H1 = H at hP hS ⊢
  have hP : va_P (dC, dI) zCl ((CW cI cZ cA o b P S ++ [(qo, .inl (cJ, 1, .inr (.inl f)))]) ++ MW cI cZ cA mo mb P' S') H := hP
  have hD : va_D (zN s.heap.size) ((CW cI cZ cA o b P S ++ [(qo, .inl (cJ, 1, .inr (.inl f)))]) ++ MW cI cZ cA mo mb P' S') := hD
  refine lv_pop hx hb dLA_law_829 rfl ?_
  refine lv_aload_n hx hb dLA_law_830 rfl (lv_at hl 2 rfl) ?_
  have hP := zPC hP
  have hD := zDC hD
  have hPc := zPL hP
  have hDc := zDL hD
  refine zcIL (va_runV (As := []) (rest := []) ⟨hx, hb, hml, hown, zno⟩ (tMO_casts l dC dI cI cZ cJ cA #[Value.ref sb] s mo mb P' S' H.size  gP' gS') (zcw 0 (hB.word (zm6 k6_23) rfl) (hB.word (zm1 k1_9) rfl) (hB.word (zm6 k6_20) rfl) (hB.word (zm6 k6_21) rfl) (hB.word (zm6 k6_22) rfl) rfl rfl (by decide +kernel) ⟨Nat.le_of_ble_eq_true rfl, Nat.le_of_ble_eq_true rfl⟩) ⟨zP_blind, va_recv hK hPc (ci := 7) (q0 := 0) rfl rfl, zP_pre hPc hK hDc hAD (zB_on hB hA0 hS)⟩ rfl rfl hl.1 rfl (lv_room (Nat.le_of_ble_eq_true rfl)) dLA_law_831 ⟨Nat.le_of_succ_le hcs, Nat.le_trans (Nat.le_add_right _ _) hss⟩) hP hD hS hA (fun r2 x9 H locs hr2 hP hD hS => ?_)
  generalize x9 = S4 at hr2 hP hD
  have gSr2 := hr2.2.1
  have hP := zPC hP
  have hD := zDC hD
  have hP : va_P (dC, dI) zCl ((CW cI cZ cA o b P S ++ [(qo, .inl (cJ, 1, .inr (.inl f)))]) ++ MW cI cZ cA mo mb P' S4) H := hP
  have hD : va_D (zN s.heap.size) ((CW cI cZ cA o b P S ++ [(qo, .inl (cJ, 1, .inr (.inl f)))]) ++ MW cI cZ cA mo mb P' S4) := hD
  have hTr2 : zXr (k + 1) P S P' S4 := zk_casts hT hr2.1
  refine lv_pop hx hb dLA_law_834 rfl ?_
  refine lv_goto (tgt := 877) hx hb dLA_law_835 (by decide) ?_
  refine W.widen (k := cs + 1) (n := ss + 6) (Nat.le_add_right _ _) (Nat.le_add_right _ _) ?_
  exact NX H locs ls b P S P' S4 f ⟨hI, gS, gSr2, hTr2⟩ hP hD hS (lv_sub hl [0, 1, 2, 3, 4] rfl)
set_option maxHeartbeats 4000000 in
set_option maxRecDepth 100000 in
theorem law_18 {p : Program} {e : Env} {s : State} {m : MethodId} {below : List Frame} {meth : Method} {c : Code} (l : Launch) (hfl : l.flags = Jvm.pinnedFlags ++ [Jvm.noTraceFlag]) {sb L : Nat} {xs : Nat → Int32} (C0 : zAt p s m meth c sb L xs) (dC : Nat → ClassId) (dI : Nat → Nat → Nat) (cI cZ cJ cA : ClassId) (hK : va_K (dC, dI) zCl (zTZ cI cZ cJ cA) s) {o mo mb : Nat → Nat} {qo : Nat} {k cs ss : Nat} (hL : L ≤ 2048) (hcs : cs + 1 ≤ 601024) (hss : ss + 6 ≤ 7293034) (hk : 4 * k + 4 ≤ L) (NX : zGo p l e s m below meth c dC dI cI cZ cJ cA sb qo o mo mb (k + 1) (nI (4 * k)) 877 (cs + 1) (ss + 6)) : zGo p l e s m below meth c dC dI cI cZ cJ cA sb qo o mo mb (k) (nI (4 * k)) 838 (cs) (ss) := by
  intro H locs ls b P S P' S' f hR hP hD hS hl
  have C1 := C0
  obtain ⟨hx, hb, hr, hml, hown, hB, hX, hbl, hlocks⟩ := C0
  have hA0 : ∀ q, zN s.heap.size q → s.heap.size ≤ q := fun _ h => h
  have hAD := hA0
  have hA : ∀ q : Nat, s.heap.size ≤ q → zN s.heap.size q := fun _ h => h
  have hbA : ¬ zN s.heap.size sb := Nat.not_le.mpr hbl
  obtain ⟨hI, gS, gS', hT⟩ := hR
  have gP := hI.1
  have gP' := hI.2.1
  refine lv_aload_n hx hb dLA_law_838 rfl (lv_at hl 3 rfl) ?_
  have hPc := zPL (zPL hP)
  have hDc := zDL (zDL hD)
  refine zcallp (va_runV (As := []) (rest := []) ⟨hx, hb, hml, hown, zno⟩ (tRG_lost l dC dI cI cZ cJ cA #[Value.ref sb] s o b P S H.size  gP gS) (zcw 0 (hB.word (zm2 k2_50) rfl) (hB.word (zm1 k1_1) rfl) (hB.word (zm2 k2_47) rfl) (hB.word (zm2 k2_48) rfl) (hB.word (zm2 k2_49) rfl) rfl rfl (by decide +kernel) ⟨Nat.le_of_ble_eq_true rfl, Nat.le_of_ble_eq_true rfl⟩) ⟨zP_blind, va_recv hK hPc (ci := 0) (q0 := 0) rfl rfl, zP_pre hPc hK hDc hAD (zB_on hB hA0 hS)⟩ rfl rfl hl.1 rfl (lv_room (Nat.le_of_ble_eq_true rfl)) dLA_law_839 ⟨Nat.le_of_succ_le hcs, Nat.le_trans (Nat.le_add_right _ _) hss⟩) hS hA (fun r1 H1 locs hr1 hz1 hk1 hS => ?_)
  have hP := zKeep hP hk1
  generalize H1 = H at hP hS ⊢
  have hP : va_P (dC, dI) zCl ((CW cI cZ cA o b P S ++ [(qo, .inl (cJ, 1, .inr (.inl f)))]) ++ MW cI cZ cA mo mb P' S') H := hP
  have hD : va_D (zN s.heap.size) ((CW cI cZ cA o b P S ++ [(qo, .inl (cJ, 1, .inr (.inl f)))]) ++ MW cI cZ cA mo mb P' S') := hD
  refine lv_pop hx hb dLA_law_842 rfl ?_
  refine lv_aload_n hx hb dLA_law_843 rfl (lv_at hl 2 rfl) ?_
  have hP := zPC hP
  have hD := zDC hD
  have hPc := zPL hP
  have hDc := zDL hD
  refine zcIL (va_runV (As := []) (rest := []) ⟨hx, hb, hml, hown, zno⟩ (tMO_lost l dC dI cI cZ cJ cA #[Value.ref sb] s mo mb P' S' H.size  gP' gS') (zcw 0 (hB.word (zm6 k6_27) rfl) (hB.word (zm1 k1_9) rfl) (hB.word (zm6 k6_24) rfl) (hB.word (zm6 k6_25) rfl) (hB.word (zm6 k6_26) rfl) rfl rfl (by decide +kernel) ⟨Nat.le_of_ble_eq_true rfl, Nat.le_of_ble_eq_true rfl⟩) ⟨zP_blind, va_recv hK hPc (ci := 7) (q0 := 0) rfl rfl, zP_pre hPc hK hDc hAD (zB_on hB hA0 hS)⟩ rfl rfl hl.1 rfl (lv_room (Nat.le_of_ble_eq_true rfl)) dLA_law_844 ⟨Nat.le_of_succ_le hcs, Nat.le_trans (Nat.le_add_right _ _) hss⟩) hP hD hS hA (fun r2 x9 H locs hr2 hP hD hS => ?_)
  generalize x9 = S4 at hr2 hP hD
  have gSr2 := hr2.2.1
  have hP := zPC hP
  have hD := zDC hD
  have hP : va_P (dC, dI) zCl ((CW cI cZ cA o b P S ++ [(qo, .inl (cJ, 1, .inr (.inl f)))]) ++ MW cI cZ cA mo mb P' S4) H := hP
  have hD : va_D (zN s.heap.size) ((CW cI cZ cA o b P S ++ [(qo, .inl (cJ, 1, .inr (.inl f)))]) ++ MW cI cZ cA mo mb P' S4) := hD
  have hTr2 : zXr (k + 1) P S P' S4 := zk_lost hT hr2.1
  refine lv_pop hx hb dLA_law_847 rfl ?_
  refine lv_goto (tgt := 877) hx hb dLA_law_848 (by decide) ?_
  refine W.widen (k := cs + 1) (n := ss + 6) (Nat.le_add_right _ _) (Nat.le_add_right _ _) ?_
  exact NX H locs ls b P S P' S4 f ⟨hI, gS, gSr2, hTr2⟩ hP hD hS (lv_sub hl [0, 1, 2, 3, 4] rfl)
set_option maxHeartbeats 4000000 in
set_option maxRecDepth 100000 in
theorem law_19 {p : Program} {e : Env} {s : State} {m : MethodId} {below : List Frame} {meth : Method} {c : Code} (l : Launch) (hfl : l.flags = Jvm.pinnedFlags ++ [Jvm.noTraceFlag]) {sb L : Nat} {xs : Nat → Int32} (C0 : zAt p s m meth c sb L xs) (dC : Nat → ClassId) (dI : Nat → Nat → Nat) (cI cZ cJ cA : ClassId) (hK : va_K (dC, dI) zCl (zTZ cI cZ cJ cA) s) {o mo mb : Nat → Nat} {qo : Nat} {k cs ss : Nat} (hL : L ≤ 2048) (hcs : cs + 1 ≤ 601024) (hss : ss + 6 ≤ 7293034) (hk : 4 * k + 4 ≤ L) (NX : zGo p l e s m below meth c dC dI cI cZ cJ cA sb qo o mo mb (k + 1) (nI (4 * k)) 877 (cs + 1) (ss + 6)) : zGo p l e s m below meth c dC dI cI cZ cJ cA sb qo o mo mb (k) (nI (4 * k)) 851 (cs) (ss) := by
  intro H locs ls b P S P' S' f hR hP hD hS hl
  have C1 := C0
  obtain ⟨hx, hb, hr, hml, hown, hB, hX, hbl, hlocks⟩ := C0
  have hA0 : ∀ q, zN s.heap.size q → s.heap.size ≤ q := fun _ h => h
  have hAD := hA0
  have hA : ∀ q : Nat, s.heap.size ≤ q → zN s.heap.size q := fun _ h => h
  have hbA : ¬ zN s.heap.size sb := Nat.not_le.mpr hbl
  obtain ⟨hI, gS, gS', hT⟩ := hR
  have gP := hI.1
  have gP' := hI.2.1
  refine lv_aload_n hx hb dLA_law_851 rfl (lv_at hl 3 rfl) ?_
  have hPc := zPL (zPL hP)
  have hDc := zDL (zDL hD)
  refine zcallp (va_runV (As := []) (rest := []) ⟨hx, hb, hml, hown, zno⟩ (tRG_circles l dC dI cI cZ cJ cA #[Value.ref sb] s o b P S H.size  gP gS) (zcw 0 (hB.word (zm2 k2_54) rfl) (hB.word (zm1 k1_1) rfl) (hB.word (zm2 k2_51) rfl) (hB.word (zm2 k2_52) rfl) (hB.word (zm2 k2_53) rfl) rfl rfl (by decide +kernel) ⟨Nat.le_of_ble_eq_true rfl, Nat.le_of_ble_eq_true rfl⟩) ⟨zP_blind, va_recv hK hPc (ci := 0) (q0 := 0) rfl rfl, zP_pre hPc hK hDc hAD (zB_on hB hA0 hS)⟩ rfl rfl hl.1 rfl (lv_room (Nat.le_of_ble_eq_true rfl)) dLA_law_852 ⟨Nat.le_of_succ_le hcs, Nat.le_trans (Nat.le_add_right _ _) hss⟩) hS hA (fun r1 H1 locs hr1 hz1 hk1 hS => ?_)
  have hP := zKeep hP hk1
  generalize H1 = H at hP hS ⊢
  have hP : va_P (dC, dI) zCl ((CW cI cZ cA o b P S ++ [(qo, .inl (cJ, 1, .inr (.inl f)))]) ++ MW cI cZ cA mo mb P' S') H := hP
  have hD : va_D (zN s.heap.size) ((CW cI cZ cA o b P S ++ [(qo, .inl (cJ, 1, .inr (.inl f)))]) ++ MW cI cZ cA mo mb P' S') := hD
  refine lv_pop hx hb dLA_law_855 rfl ?_
  refine lv_aload_n hx hb dLA_law_856 rfl (lv_at hl 2 rfl) ?_
  have hP := zPC hP
  have hD := zDC hD
  have hPc := zPL hP
  have hDc := zDL hD
  refine zcIL (va_runV (As := []) (rest := []) ⟨hx, hb, hml, hown, zno⟩ (tMO_circles l dC dI cI cZ cJ cA #[Value.ref sb] s mo mb P' S' H.size  gP' gS') (zcw 0 (hB.word (zm6 k6_31) rfl) (hB.word (zm1 k1_9) rfl) (hB.word (zm6 k6_28) rfl) (hB.word (zm6 k6_29) rfl) (hB.word (zm6 k6_30) rfl) rfl rfl (by decide +kernel) ⟨Nat.le_of_ble_eq_true rfl, Nat.le_of_ble_eq_true rfl⟩) ⟨zP_blind, va_recv hK hPc (ci := 7) (q0 := 0) rfl rfl, zP_pre hPc hK hDc hAD (zB_on hB hA0 hS)⟩ rfl rfl hl.1 rfl (lv_room (Nat.le_of_ble_eq_true rfl)) dLA_law_857 ⟨Nat.le_of_succ_le hcs, Nat.le_trans (Nat.le_add_right _ _) hss⟩) hP hD hS hA (fun r2 x9 H locs hr2 hP hD hS => ?_)
  generalize x9 = S4 at hr2 hP hD
  have gSr2 := hr2.2.1
  have hP := zPC hP
  have hD := zDC hD
  have hP : va_P (dC, dI) zCl ((CW cI cZ cA o b P S ++ [(qo, .inl (cJ, 1, .inr (.inl f)))]) ++ MW cI cZ cA mo mb P' S4) H := hP
  have hD : va_D (zN s.heap.size) ((CW cI cZ cA o b P S ++ [(qo, .inl (cJ, 1, .inr (.inl f)))]) ++ MW cI cZ cA mo mb P' S4) := hD
  have hTr2 : zXr (k + 1) P S P' S4 := zk_circles hT hr2.1
  refine lv_pop hx hb dLA_law_860 rfl ?_
  refine lv_goto (tgt := 877) hx hb dLA_law_861 (by decide) ?_
  refine W.widen (k := cs + 1) (n := ss + 6) (Nat.le_add_right _ _) (Nat.le_add_right _ _) ?_
  exact NX H locs ls b P S P' S4 f ⟨hI, gS, gSr2, hTr2⟩ hP hD hS (lv_sub hl [0, 1, 2, 3, 4] rfl)
set_option maxHeartbeats 4000000 in
set_option maxRecDepth 100000 in
theorem law_20 {p : Program} {e : Env} {s : State} {m : MethodId} {below : List Frame} {meth : Method} {c : Code} (l : Launch) (hfl : l.flags = Jvm.pinnedFlags ++ [Jvm.noTraceFlag]) {sb L : Nat} {xs : Nat → Int32} (C0 : zAt p s m meth c sb L xs) (dC : Nat → ClassId) (dI : Nat → Nat → Nat) (cI cZ cJ cA : ClassId) (hK : va_K (dC, dI) zCl (zTZ cI cZ cJ cA) s) {o mo mb : Nat → Nat} {qo : Nat} {k cs ss : Nat} (hL : L ≤ 2048) (hcs : cs + 1 ≤ 601024) (hss : ss + 6 ≤ 7293034) (hk : 4 * k + 4 ≤ L) (NX : zGo p l e s m below meth c dC dI cI cZ cJ cA sb qo o mo mb (k + 1) (nI (4 * k)) 877 (cs + 1) (ss + 6)) : zGo p l e s m below meth c dC dI cI cZ cJ cA sb qo o mo mb (k) (nI (4 * k)) 864 (cs) (ss) := by
  intro H locs ls b P S P' S' f hR hP hD hS hl
  have C1 := C0
  obtain ⟨hx, hb, hr, hml, hown, hB, hX, hbl, hlocks⟩ := C0
  have hA0 : ∀ q, zN s.heap.size q → s.heap.size ≤ q := fun _ h => h
  have hAD := hA0
  have hA : ∀ q : Nat, s.heap.size ≤ q → zN s.heap.size q := fun _ h => h
  have hbA : ¬ zN s.heap.size sb := Nat.not_le.mpr hbl
  obtain ⟨hI, gS, gS', hT⟩ := hR
  have gP := hI.1
  have gP' := hI.2.1
  refine lv_aload_n hx hb dLA_law_864 rfl (lv_at hl 3 rfl) ?_
  have hPc := zPL (zPL hP)
  have hDc := zDL (zDL hD)
  refine zcallp (va_runV (As := []) (rest := []) ⟨hx, hb, hml, hown, zno⟩ (tRG_apart l dC dI cI cZ cJ cA #[Value.ref sb] s o b P S H.size  gP gS) (zcw 0 (hB.word (zm2 k2_58) rfl) (hB.word (zm1 k1_1) rfl) (hB.word (zm2 k2_55) rfl) (hB.word (zm2 k2_56) rfl) (hB.word (zm2 k2_57) rfl) rfl rfl (by decide +kernel) ⟨Nat.le_of_ble_eq_true rfl, Nat.le_of_ble_eq_true rfl⟩) ⟨zP_blind, va_recv hK hPc (ci := 0) (q0 := 0) rfl rfl, zP_pre hPc hK hDc hAD (zB_on hB hA0 hS)⟩ rfl rfl hl.1 rfl (lv_room (Nat.le_of_ble_eq_true rfl)) dLA_law_865 ⟨Nat.le_of_succ_le hcs, Nat.le_trans (Nat.le_add_right _ _) hss⟩) hS hA (fun r1 H1 locs hr1 hz1 hk1 hS => ?_)
  have hP := zKeep hP hk1
  generalize H1 = H at hP hS ⊢
  have hP : va_P (dC, dI) zCl ((CW cI cZ cA o b P S ++ [(qo, .inl (cJ, 1, .inr (.inl f)))]) ++ MW cI cZ cA mo mb P' S') H := hP
  have hD : va_D (zN s.heap.size) ((CW cI cZ cA o b P S ++ [(qo, .inl (cJ, 1, .inr (.inl f)))]) ++ MW cI cZ cA mo mb P' S') := hD
  refine lv_pop hx hb dLA_law_868 rfl ?_
  refine lv_aload_n hx hb dLA_law_869 rfl (lv_at hl 2 rfl) ?_
  have hP := zPC hP
  have hD := zDC hD
  have hPc := zPL hP
  have hDc := zDL hD
  refine zcIL (va_runV (As := []) (rest := []) ⟨hx, hb, hml, hown, zno⟩ (tMO_apart l dC dI cI cZ cJ cA #[Value.ref sb] s mo mb P' S' H.size  gP' gS') (zcw 0 (hB.word (zm6 k6_35) rfl) (hB.word (zm1 k1_9) rfl) (hB.word (zm6 k6_32) rfl) (hB.word (zm6 k6_33) rfl) (hB.word (zm6 k6_34) rfl) rfl rfl (by decide +kernel) ⟨Nat.le_of_ble_eq_true rfl, Nat.le_of_ble_eq_true rfl⟩) ⟨zP_blind, va_recv hK hPc (ci := 7) (q0 := 0) rfl rfl, zP_pre hPc hK hDc hAD (zB_on hB hA0 hS)⟩ rfl rfl hl.1 rfl (lv_room (Nat.le_of_ble_eq_true rfl)) dLA_law_870 ⟨Nat.le_of_succ_le hcs, Nat.le_trans (Nat.le_add_right _ _) hss⟩) hP hD hS hA (fun r2 x9 H locs hr2 hP hD hS => ?_)
  generalize x9 = S4 at hr2 hP hD
  have gSr2 := hr2.2.1
  have hP := zPC hP
  have hD := zDC hD
  have hP : va_P (dC, dI) zCl ((CW cI cZ cA o b P S ++ [(qo, .inl (cJ, 1, .inr (.inl f)))]) ++ MW cI cZ cA mo mb P' S4) H := hP
  have hD : va_D (zN s.heap.size) ((CW cI cZ cA o b P S ++ [(qo, .inl (cJ, 1, .inr (.inl f)))]) ++ MW cI cZ cA mo mb P' S4) := hD
  have hTr2 : zXr (k + 1) P S P' S4 := zk_apart hT hr2.1
  refine lv_pop hx hb dLA_law_873 rfl ?_
  refine lv_goto (tgt := 877) hx hb dLA_law_874 (by decide) ?_
  refine W.widen (k := cs + 1) (n := ss + 6) (Nat.le_add_right _ _) (Nat.le_add_right _ _) ?_
  exact NX H locs ls b P S P' S4 f ⟨hI, gS, gSr2, hTr2⟩ hP hD hS (lv_sub hl [0, 1, 2, 3, 4] rfl)
