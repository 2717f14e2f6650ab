
theorem zno_ISE : Cond.not (.castable "java/lang/IllegalStateException" "java/lang/IllegalArgumentException") ∈ zT := List.mem_append_right _ (List.mem_cons_of_mem _ (List.mem_cons_of_mem _ List.mem_cons_self))
theorem zgoodW {y : MethodName} {b : ByteArray} {n : Nat} {r : Option FieldType} {hs : List (Nat × Nat × Nat × Nat)} : GoodIn [Cond.codeWith y b n r hs] [Cond.codeWith y b n r hs] := fun w h => ⟨h, by rw [List.mem_singleton.mp h]; exact Or.inl rfl⟩
theorem zk_rS {P S : ZS} {u : Unit} (h : fRG_requireStarted P S = .ok u) : ¬ P.I 2 = 0 := by
  simp only [fRG_requireStarted, zl] at h
  split at h
  · cases h
  · rename_i c
    exact c
theorem zk_rN {P S : ZS} {u : Unit} (h : fRG_requireNotStarted P S = .ok u) : P.I 2 = 0 := by
  simp only [fRG_requireNotStarted, zl] at h
  split at h
  · rename_i c
    exact c
  · cases h
/-! worlds side by side -/
theorem zPL {D : va_G} {cl : List vw_C} {w1 w2 : va_W} {H : Heap} (h : va_P D cl (w1 ++ w2) H) : va_P D cl w1 H := fun k q hk => h k q (by rw [List.getElem?_append_left (List.getElem?_eq_some_iff.mp hk).1]; exact hk)
theorem zPR {D : va_G} {cl : List vw_C} {w1 w2 : va_W} {H : Heap} (h : va_P D cl (w1 ++ w2) H) : va_P D cl w2 H := fun k q hk => h (w1.length + k) q (by rw [List.getElem?_append_right (Nat.le_add_right _ _), Nat.add_sub_cancel_left]; exact hk)
theorem zDL {A : Nat → Prop} {w1 w2 : va_W} (h : va_D A (w1 ++ w2)) : va_D A w1 := by
  have e : ∀ {k : Nat} {q : Nat × va_E}, w1[k]? = some q → (w1 ++ w2)[k]? = some q := fun hk => by rw [List.getElem?_append_left (List.getElem?_eq_some_iff.mp hk).1]; exact hk
  exact ⟨fun i j p q hi hj => h.1 i j p q (e hi) (e hj), fun k q hk => h.2 k q (e hk)⟩
theorem zDR {A : Nat → Prop} {w1 w2 : va_W} (h : va_D A (w1 ++ w2)) : va_D A w2 := by
  have e : ∀ {k : Nat} {q : Nat × va_E}, w2[k]? = some q → (w1 ++ w2)[w1.length + k]? = some q := fun hk => by rw [List.getElem?_append_right (Nat.le_add_right _ _), Nat.add_sub_cancel_left]; exact hk
  exact ⟨fun i j p q hi hj hpq => by have := h.1 _ _ p q (e hi) (e hj) hpq; omega, fun k q hk => h.2 _ q (e hk)⟩
theorem zPC {D : va_G} {cl : List vw_C} {w1 w2 : va_W} {H : Heap} (h : va_P D cl (w1 ++ w2) H) : va_P D cl (w2 ++ w1) H := va_P.app (zPR h) (zPL h)
theorem zDC {A : Nat → Prop} {w1 w2 : va_W} (h : va_D A (w1 ++ w2)) : va_D A (w2 ++ w1) := by
  refine va_D.app (zDR h) (zDL h) (fun i j p q hi hj hpq => ?_)
  have h1 : (w1 ++ w2)[w1.length + i]? = some p := by rw [List.getElem?_append_right (Nat.le_add_right _ _), Nat.add_sub_cancel_left]; exact hi
  have hl := (List.getElem?_eq_some_iff.mp hj).1
  have h2 : (w1 ++ w2)[j]? = some q := by rw [List.getElem?_append_left hl]; exact hj
  have := h.1 _ _ p q h1 h2 hpq
  omega
theorem zjoinL {A0 : Nat → Prop} {D : va_G} {cl : List vw_C} {w1 w2 w : va_W} {H H1 : Heap} (hP : va_P D cl (w1 ++ w2) H) (hD : va_D A0 (w1 ++ w2)) (hk : ∀ q : Nat, q < H.size → ¬ va_A w1 H.size q → H1[q]? = H[q]?) (hF : ∀ q, va_A w1 H.size q → A0 q) (hP1 : va_P D cl w H1) (hD1 : va_D (va_A w1 H.size) w) : va_P D cl (w ++ w2) H1 ∧ va_D A0 (w ++ w2) := by
  have apart : ∀ (k : Nat) (q : Nat × va_E), w2[k]? = some q → q.1 < H.size ∧ ¬ va_A w1 H.size q.1 := by
    intro k q hq
    have h2 : (w1 ++ w2)[w1.length + k]? = some q := by rw [List.getElem?_append_right (Nat.le_add_right _ _), Nat.add_sub_cancel_left]; exact hq
    have hl := (hP _ q h2).lt
    refine ⟨hl, fun h => ?_⟩
    rcases h with ⟨k2, e, h⟩ | h
    · have hk2 := (List.getElem?_eq_some_iff.mp h).1
      have h3 : (w1 ++ w2)[k2]? = some (q.1, e) := by rw [List.getElem?_append_left hk2]; exact h
      have := hD.1 _ _ q (q.1, e) h2 h3 rfl
      omega
    · omega
  refine ⟨va_P.app hP1 (fun k q hq => ?_), va_D.app (hD1.weaken (fun k q _ h => hF q.1 h)) (zDR hD) (fun i j x y hx hy hxy => ?_)⟩
  · obtain ⟨g1, g2⟩ := apart k q hq
    exact (zPR hP k q hq).kept (hk q.1 g1 g2)
  · exact (apart j y hy).2 (by rw [← hxy]; exact hD1.2 i x hx)
section ZLc
variable {p : Program} {l : Launch} {e : Env} {R : Room} {s : State} {m : MethodId} {args : Array Value} {below : List Frame} {meth : Method} {c : Code} {H : Heap} {locs : List Loc} {cells slots : Nat} {Q : State → Prop}
variable {pc : Nat} {ls : Array Slot} {rest st0 : List Value} {a : Array Value} {A0 : Nat → Prop} {H0 : Heap} {mc ms : Nat} {cl : List vw_C} {dC : Nat → ClassId} {dI : Nat → Nat → Nat}
theorem zfreeL {w1 w2 : va_W} (hD : va_D A0 (w1 ++ w2)) (hS : va_S A0 H0 H locs) (hA : ∀ q, H0.size ≤ q → A0 q) : ∀ q, va_A w1 H.size q → A0 q := fun q h => by
  rcases h with ⟨k, e, h⟩ | h
  · exact (zDL hD).2 k (q, e) h
  · exact hA q (Nat.le_trans hS.1 h)
theorem zcVL {α : Type} {post : α → Prop} {Wf : α → va_W} {w1 w2 : va_W} (hr : va_Run p l e R s m args below meth c H locs cells slots mc ms (F0 m pc ls st0) rest (zQG cl dC dI post Wf (va_A w1 H.size) a) (va_A w1 H.size)) (hP : va_P (dC, dI) cl (w1 ++ w2) H) (hD : va_D A0 (w1 ++ w2)) (hS : va_S A0 H0 H locs) (hA : ∀ q, H0.size ≤ q → A0 q)
    (kk : ∀ (x : α) (H1 : Heap) (locs1 : List Loc), post x → va_P (dC, dI) cl (Wf x ++ w2) H1 → va_D A0 (Wf x ++ w2) → va_S A0 H0 H1 locs1 → W p l e R s m args below meth c H1 locs1 (cells + mc) (slots + ms) Q (F0 m (pc + 3) ls rest)) : W p l e R s m args below meth c H locs cells slots Q (F0 m pc ls st0) := by
  have hF := zfreeL hD hS hA
  refine va_callv hr hS (fun q _ h => hF q h) hF (fun x t H1 locs1 ht _ hw hB hz hk hS1 => ?_)
  obtain ⟨hP1, hD1⟩ := hB
  rw [ht] at hP1
  obtain ⟨hP2, hD2⟩ := zjoinL hP hD hk hF hP1 hD1
  exact kk x H1 locs1 hw hP2 hD2 hS1
theorem zcIL {α : Type} {post : Int32 → α → Prop} {Wf : α → va_W} {w1 w2 : va_W} (hr : va_Run p l e R s m args below meth c H locs cells slots mc ms (F0 m pc ls st0) rest (zQH cl dC dI post Wf (va_A w1 H.size) a) (va_A w1 H.size)) (hP : va_P (dC, dI) cl (w1 ++ w2) H) (hD : va_D A0 (w1 ++ w2)) (hS : va_S A0 H0 H locs) (hA : ∀ q, H0.size ≤ q → A0 q)
    (kk : ∀ (r : Int32) (x : α) (H1 : Heap) (locs1 : List Loc), post r x → va_P (dC, dI) cl (Wf x ++ w2) H1 → va_D A0 (Wf x ++ w2) → va_S A0 H0 H1 locs1 → W p l e R s m args below meth c H1 locs1 (cells + mc) (slots + ms) Q (F0 m (pc + 3) ls (.int r :: rest))) : W p l e R s m args below meth c H locs cells slots Q (F0 m pc ls st0) := by
  have hF := zfreeL hD hS hA
  refine va_calli hr hS (fun q _ h => hF q h) hF (fun r x t H1 locs1 ht _ hw hB hz hk hS1 => ?_)
  obtain ⟨hP1, hD1⟩ := hB
  rw [ht] at hP1
  obtain ⟨hP2, hD2⟩ := zjoinL hP hD hk hF hP1 hD1
  exact kk r x H1 locs1 hw hP2 hD2 hS1
end ZLc
theorem zAtL {w : va_W} {n : Nat} {x : Nat × va_E} (h : w.length = n) : (w ++ [x])[n]? = some x := by
  rw [List.getElem?_append_right (by omega), h, Nat.sub_self]
  rfl
theorem zSetL {w : va_W} {n : Nat} {x z : Nat × va_E} (h : w.length = n) : (w ++ [x]).set n z = w ++ [z] := by
  rw [List.set_append_right _ _ (by omega), h, Nat.sub_self]
  rfl
theorem k2_62 : tables_1_2[62]? = some (Jvm.Cond.classLink "RingGuardLaw" (13 : Nat) "java/lang/IllegalStateException") := by decide +kernel
theorem k2_63 : tables_1_2[63]? = some (Jvm.Cond.methodLink "RingGuardLaw" (7 : Nat) ({ cls := "RingGuard", name := "bridge", desc := "()I" } : Jvm.MethodName)) := by decide +kernel
theorem k2_64 : tables_1_2[64]? = some (Jvm.Cond.instanceMethod ({ cls := "RingGuard", name := "bridge", desc := "()I" } : Jvm.MethodName)) := by decide +kernel
theorem k2_65 : tables_1_2[65]? = some (Jvm.Cond.selects "RingGuard" ({ cls := "RingGuard", name := "bridge", desc := "()I" } : Jvm.MethodName) ({ cls := "RingGuard", name := "bridge", desc := "()I" } : Jvm.MethodName)) := by decide +kernel
theorem k2_66 : tables_1_2[66]? = some (Jvm.Cond.code ({ cls := "RingGuard", name := "bridge", desc := "()I" } : Jvm.MethodName) prog_1_method_2_code (2 : Nat) (Option.some Jvm.ClassFile.FieldType.int)) := rfl
theorem k2_73 : tables_1_2[73]? = some (Jvm.Cond.castable "java/lang/IllegalStateException" "java/lang/IllegalStateException") := by decide +kernel
theorem k2_142 : tables_1_2[142]? = some (Jvm.Cond.classLink "RingGuardLaw" (19 : Nat) "java/lang/IllegalArgumentException") := by decide +kernel
theorem k2_143 : tables_1_2[143]? = some (Jvm.Cond.methodLink "RingGuardLaw" (15 : Nat) ({ cls := "RingGuard", name := "link", desc := "(III)I" } : Jvm.MethodName)) := by decide +kernel
theorem k2_144 : tables_1_2[144]? = some (Jvm.Cond.instanceMethod ({ cls := "RingGuard", name := "link", desc := "(III)I" } : Jvm.MethodName)) := by decide +kernel
theorem k2_145 : tables_1_2[145]? = some (Jvm.Cond.selects "RingGuard" ({ cls := "RingGuard", name := "link", desc := "(III)I" } : Jvm.MethodName) ({ cls := "RingGuard", name := "link", desc := "(III)I" } : Jvm.MethodName)) := by decide +kernel
theorem k2_146 : tables_1_2[146]? = some (Jvm.Cond.code ({ cls := "RingGuard", name := "link", desc := "(III)I" } : Jvm.MethodName) prog_1_method_3_code (4 : Nat) (Option.some Jvm.ClassFile.FieldType.int)) := rfl
theorem k2_153 : tables_1_2[153]? = some (Jvm.Cond.castable "java/lang/IllegalArgumentException" "java/lang/IllegalArgumentException") := by decide +kernel
theorem k2_181 : tables_1_2[181]? = some (Jvm.Cond.methodLink "RingGuardLaw" (21 : Nat) ({ cls := "RingGuard", name := "owner", desc := "(III)V" } : Jvm.MethodName)) := by decide +kernel
theorem k2_182 : tables_1_2[182]? = some (Jvm.Cond.instanceMethod ({ cls := "RingGuard", name := "owner", desc := "(III)V" } : Jvm.MethodName)) := by decide +kernel
theorem k2_183 : tables_1_2[183]? = some (Jvm.Cond.selects "RingGuard" ({ cls := "RingGuard", name := "owner", desc := "(III)V" } : Jvm.MethodName) ({ cls := "RingGuard", name := "owner", desc := "(III)V" } : Jvm.MethodName)) := by decide +kernel
theorem k2_184 : tables_1_2[184]? = some (Jvm.Cond.code ({ cls := "RingGuard", name := "owner", desc := "(III)V" } : Jvm.MethodName) prog_1_method_4_code (4 : Nat) (Option.none : Option Jvm.ClassFile.FieldType)) := rfl
theorem k2_193 : tables_1_2[193]? = some (Jvm.Cond.methodLink "RingGuardLaw" (25 : Nat) ({ cls := "RingGuard", name := "start", desc := "()I" } : Jvm.MethodName)) := by decide +kernel
theorem k2_194 : tables_1_2[194]? = some (Jvm.Cond.instanceMethod ({ cls := "RingGuard", name := "start", desc := "()I" } : Jvm.MethodName)) := by decide +kernel
theorem k2_195 : tables_1_2[195]? = some (Jvm.Cond.selects "RingGuard" ({ cls := "RingGuard", name := "start", desc := "()I" } : Jvm.MethodName) ({ cls := "RingGuard", name := "start", desc := "()I" } : Jvm.MethodName)) := by decide +kernel
theorem k2_196 : tables_1_2[196]? = some (Jvm.Cond.code ({ cls := "RingGuard", name := "start", desc := "()I" } : Jvm.MethodName) prog_1_method_5_code (2 : Nat) (Option.some Jvm.ClassFile.FieldType.int)) := rfl
theorem k3_51 : tables_1_3[51]? = some (Jvm.Cond.methodLink "RingGuardLaw" (28 : Nat) ({ cls := "RingGuard", name := "fail", desc := "(I)Z" } : Jvm.MethodName)) := by decide +kernel
theorem k3_52 : tables_1_3[52]? = some (Jvm.Cond.instanceMethod ({ cls := "RingGuard", name := "fail", desc := "(I)Z" } : Jvm.MethodName)) := by decide +kernel
theorem k3_53 : tables_1_3[53]? = some (Jvm.Cond.selects "RingGuard" ({ cls := "RingGuard", name := "fail", desc := "(I)Z" } : Jvm.MethodName) ({ cls := "RingGuard", name := "fail", desc := "(I)Z" } : Jvm.MethodName)) := by decide +kernel
theorem k3_54 : tables_1_3[54]? = some (Jvm.Cond.code ({ cls := "RingGuard", name := "fail", desc := "(I)Z" } : Jvm.MethodName) prog_1_method_6_code (3 : Nat) (Option.some Jvm.ClassFile.FieldType.boolean)) := rfl
theorem k3_97 : tables_1_3[97]? = some (Jvm.Cond.methodLink "RingGuardLaw" (32 : Nat) ({ cls := "RingGuard", name := "heal", desc := "(I)Z" } : Jvm.MethodName)) := by decide +kernel
theorem k3_98 : tables_1_3[98]? = some (Jvm.Cond.instanceMethod ({ cls := "RingGuard", name := "heal", desc := "(I)Z" } : Jvm.MethodName)) := by decide +kernel
theorem k3_99 : tables_1_3[99]? = some (Jvm.Cond.selects "RingGuard" ({ cls := "RingGuard", name := "heal", desc := "(I)Z" } : Jvm.MethodName) ({ cls := "RingGuard", name := "heal", desc := "(I)Z" } : Jvm.MethodName)) := by decide +kernel
theorem k3_100 : tables_1_3[100]? = some (Jvm.Cond.code ({ cls := "RingGuard", name := "heal", desc := "(I)Z" } : Jvm.MethodName) prog_1_method_7_code (3 : Nat) (Option.some Jvm.ClassFile.FieldType.boolean)) := rfl
theorem k3_112 : tables_1_3[112]? = some (Jvm.Cond.methodLink "RingGuardLaw" (35 : Nat) ({ cls := "RingGuard", name := "lose", desc := "(II)I" } : Jvm.MethodName)) := by decide +kernel
theorem k3_113 : tables_1_3[113]? = some (Jvm.Cond.instanceMethod ({ cls := "RingGuard", name := "lose", desc := "(II)I" } : Jvm.MethodName)) := by decide +kernel
theorem k3_114 : tables_1_3[114]? = some (Jvm.Cond.selects "RingGuard" ({ cls := "RingGuard", name := "lose", desc := "(II)I" } : Jvm.MethodName) ({ cls := "RingGuard", name := "lose", desc := "(II)I" } : Jvm.MethodName)) := by decide +kernel
theorem k3_115 : tables_1_3[115]? = some (Jvm.Cond.code ({ cls := "RingGuard", name := "lose", desc := "(II)I" } : Jvm.MethodName) prog_1_method_8_code (4 : Nat) (Option.some Jvm.ClassFile.FieldType.int)) := rfl
theorem k3_120 : tables_1_3[120]? = some (Jvm.Cond.methodLink "RingGuardLaw" (39 : Nat) ({ cls := "RingGuard", name := "order", desc := "(IIZ)Z" } : Jvm.MethodName)) := by decide +kernel
theorem k3_121 : tables_1_3[121]? = some (Jvm.Cond.instanceMethod ({ cls := "RingGuard", name := "order", desc := "(IIZ)Z" } : Jvm.MethodName)) := by decide +kernel
theorem k3_122 : tables_1_3[122]? = some (Jvm.Cond.selects "RingGuard" ({ cls := "RingGuard", name := "order", desc := "(IIZ)Z" } : Jvm.MethodName) ({ cls := "RingGuard", name := "order", desc := "(IIZ)Z" } : Jvm.MethodName)) := by decide +kernel
theorem k3_123 : tables_1_3[123]? = some (Jvm.Cond.code ({ cls := "RingGuard", name := "order", desc := "(IIZ)Z" } : Jvm.MethodName) prog_1_method_9_code (5 : Nat) (Option.some Jvm.ClassFile.FieldType.boolean)) := rfl
abbrev yLA_bridge : MethodName := ⟨"RingGuardLaw", "bridge", "(LRingGuard;[J)I"⟩
abbrev bLA_bridge : ByteArray := method_3_code
abbrev yLA_link : MethodName := ⟨"RingGuardLaw", "link", "(LRingGuard;III[J)I"⟩
abbrev bLA_link : ByteArray := method_4_code
abbrev yLA_owner : MethodName := ⟨"RingGuardLaw", "owner", "(LRingGuard;III)I"⟩
abbrev bLA_owner : ByteArray := method_5_code
abbrev yLA_start : MethodName := ⟨"RingGuardLaw", "start", "(LRingGuard;[J)I"⟩
abbrev bLA_start : ByteArray := method_6_code
abbrev yLA_fail : MethodName := ⟨"RingGuardLaw", "fail", "(LRingGuard;I[J)I"⟩
abbrev bLA_fail : ByteArray := method_7_code
abbrev yLA_heal : MethodName := ⟨"RingGuardLaw", "heal", "(LRingGuard;I[J)I"⟩
abbrev bLA_heal : ByteArray := method_8_code
abbrev yLA_lose : MethodName := ⟨"RingGuardLaw", "lose", "(LRingGuard;II[J)I"⟩
abbrev bLA_lose : ByteArray := method_9_code
abbrev yLA_order : MethodName := ⟨"RingGuardLaw", "order", "(LRingGuard;IIZ[J)I"⟩
abbrev bLA_order : ByteArray := method_10_code
theorem dLA_bridge_0 : decode bLA_bridge 0 = .ok (.aload_n 1, 1) := by decide +kernel
theorem dLA_bridge_1 : decode bLA_bridge 1 = .ok (.iconst 0, 1) := by decide +kernel
theorem dLA_bridge_2 : decode bLA_bridge 2 = .ok (.aload_n 0, 1) := by decide +kernel
theorem dLA_bridge_3 : decode bLA_bridge 3 = .ok (.invokevirtual 7, 3) := by decide +kernel
theorem dLA_bridge_6 : decode bLA_bridge 6 = .ok (.i2l, 1) := by decide +kernel
theorem dLA_bridge_7 : decode bLA_bridge 7 = .ok (.lastore, 1) := by decide +kernel
theorem dLA_bridge_8 : decode bLA_bridge 8 = .ok (.goto 6, 3) := by decide +kernel
theorem dLA_bridge_11 : decode bLA_bridge 11 = .ok (.astore_n 2, 1) := by decide +kernel
theorem dLA_bridge_12 : decode bLA_bridge 12 = .ok (.iconst 1, 1) := by decide +kernel
theorem dLA_bridge_13 : decode bLA_bridge 13 = .ok (.ireturn, 1) := by decide +kernel
theorem dLA_bridge_14 : decode bLA_bridge 14 = .ok (.iconst 0, 1) := by decide +kernel
theorem dLA_bridge_15 : decode bLA_bridge 15 = .ok (.ireturn, 1) := by decide +kernel
theorem dLA_fail_0 : decode bLA_fail 0 = .ok (.aload_n 2, 1) := by decide +kernel
theorem dLA_fail_1 : decode bLA_fail 1 = .ok (.iconst 0, 1) := by decide +kernel
theorem dLA_fail_2 : decode bLA_fail 2 = .ok (.aload_n 0, 1) := by decide +kernel
theorem dLA_fail_3 : decode bLA_fail 3 = .ok (.iload_n 1, 1) := by decide +kernel
theorem dLA_fail_4 : decode bLA_fail 4 = .ok (.invokevirtual 28, 3) := by decide +kernel
theorem dLA_fail_7 : decode bLA_fail 7 = .ok (.ifCond .eq 7, 3) := by decide +kernel
theorem dLA_fail_10 : decode bLA_fail 10 = .ok (.lconst 1, 1) := by decide +kernel
theorem dLA_fail_11 : decode bLA_fail 11 = .ok (.goto 4, 3) := by decide +kernel
theorem dLA_fail_14 : decode bLA_fail 14 = .ok (.lconst 0, 1) := by decide +kernel
theorem dLA_fail_15 : decode bLA_fail 15 = .ok (.lastore, 1) := by decide +kernel
theorem dLA_fail_16 : decode bLA_fail 16 = .ok (.goto 9, 3) := by decide +kernel
theorem dLA_fail_19 : decode bLA_fail 19 = .ok (.astore_n 3, 1) := by decide +kernel
theorem dLA_fail_20 : decode bLA_fail 20 = .ok (.iconst 1, 1) := by decide +kernel
theorem dLA_fail_21 : decode bLA_fail 21 = .ok (.ireturn, 1) := by decide +kernel
theorem dLA_fail_22 : decode bLA_fail 22 = .ok (.astore_n 3, 1) := by decide +kernel
theorem dLA_fail_23 : decode bLA_fail 23 = .ok (.iconst 2, 1) := by decide +kernel
theorem dLA_fail_24 : decode bLA_fail 24 = .ok (.ireturn, 1) := by decide +kernel
theorem dLA_fail_25 : decode bLA_fail 25 = .ok (.iconst 0, 1) := by decide +kernel
theorem dLA_fail_26 : decode bLA_fail 26 = .ok (.ireturn, 1) := by decide +kernel
theorem dLA_heal_0 : decode bLA_heal 0 = .ok (.aload_n 2, 1) := by decide +kernel
theorem dLA_heal_1 : decode bLA_heal 1 = .ok (.iconst 0, 1) := by decide +kernel
theorem dLA_heal_2 : decode bLA_heal 2 = .ok (.aload_n 0, 1) := by decide +kernel
theorem dLA_heal_3 : decode bLA_heal 3 = .ok (.iload_n 1, 1) := by decide +kernel
theorem dLA_heal_4 : decode bLA_heal 4 = .ok (.invokevirtual 32, 3) := by decide +kernel
theorem dLA_heal_7 : decode bLA_heal 7 = .ok (.ifCond .eq 7, 3) := by decide +kernel
theorem dLA_heal_10 : decode bLA_heal 10 = .ok (.lconst 1, 1) := by decide +kernel
theorem dLA_heal_11 : decode bLA_heal 11 = .ok (.goto 4, 3) := by decide +kernel
theorem dLA_heal_14 : decode bLA_heal 14 = .ok (.lconst 0, 1) := by decide +kernel
theorem dLA_heal_15 : decode bLA_heal 15 = .ok (.lastore, 1) := by decide +kernel
theorem dLA_heal_16 : decode bLA_heal 16 = .ok (.goto 9, 3) := by decide +kernel
theorem dLA_heal_19 : decode bLA_heal 19 = .ok (.astore_n 3, 1) := by decide +kernel
theorem dLA_heal_20 : decode bLA_heal 20 = .ok (.iconst 1, 1) := by decide +kernel
theorem dLA_heal_21 : decode bLA_heal 21 = .ok (.ireturn, 1) := by decide +kernel
theorem dLA_heal_22 : decode bLA_heal 22 = .ok (.astore_n 3, 1) := by decide +kernel
theorem dLA_heal_23 : decode bLA_heal 23 = .ok (.iconst 2, 1) := by decide +kernel
theorem dLA_heal_24 : decode bLA_heal 24 = .ok (.ireturn, 1) := by decide +kernel
theorem dLA_heal_25 : decode bLA_heal 25 = .ok (.iconst 0, 1) := by decide +kernel
theorem dLA_heal_26 : decode bLA_heal 26 = .ok (.ireturn, 1) := by decide +kernel
theorem dLA_link_0 : decode bLA_link 0 = .ok (.aload 4, 2) := by decide +kernel
theorem dLA_link_2 : decode bLA_link 2 = .ok (.iconst 0, 1) := by decide +kernel
theorem dLA_link_3 : decode bLA_link 3 = .ok (.aload_n 0, 1) := by decide +kernel
theorem dLA_link_4 : decode bLA_link 4 = .ok (.iload_n 1, 1) := by decide +kernel
theorem dLA_link_5 : decode bLA_link 5 = .ok (.iload_n 2, 1) := by decide +kernel
theorem dLA_link_6 : decode bLA_link 6 = .ok (.iload_n 3, 1) := by decide +kernel
theorem dLA_link_7 : decode bLA_link 7 = .ok (.invokevirtual 15, 3) := by decide +kernel
theorem dLA_link_10 : decode bLA_link 10 = .ok (.i2l, 1) := by decide +kernel
theorem dLA_link_11 : decode bLA_link 11 = .ok (.lastore, 1) := by decide +kernel
theorem dLA_link_12 : decode bLA_link 12 = .ok (.goto 11, 3) := by decide +kernel
theorem dLA_link_15 : decode bLA_link 15 = .ok (.astore 5, 2) := by decide +kernel
theorem dLA_link_17 : decode bLA_link 17 = .ok (.iconst 1, 1) := by decide +kernel
theorem dLA_link_18 : decode bLA_link 18 = .ok (.ireturn, 1) := by decide +kernel
theorem dLA_link_19 : decode bLA_link 19 = .ok (.astore 5, 2) := by decide +kernel
theorem dLA_link_21 : decode bLA_link 21 = .ok (.iconst 2, 1) := by decide +kernel
theorem dLA_link_22 : decode bLA_link 22 = .ok (.ireturn, 1) := by decide +kernel
theorem dLA_link_23 : decode bLA_link 23 = .ok (.iconst 0, 1) := by decide +kernel
theorem dLA_link_24 : decode bLA_link 24 = .ok (.ireturn, 1) := by decide +kernel
theorem dLA_lose_0 : decode bLA_lose 0 = .ok (.aload_n 3, 1) := by decide +kernel
theorem dLA_lose_1 : decode bLA_lose 1 = .ok (.iconst 0, 1) := by decide +kernel
theorem dLA_lose_2 : decode bLA_lose 2 = .ok (.aload_n 0, 1) := by decide +kernel
theorem dLA_lose_3 : decode bLA_lose 3 = .ok (.iload_n 1, 1) := by decide +kernel
theorem dLA_lose_4 : decode bLA_lose 4 = .ok (.iload_n 2, 1) := by decide +kernel
theorem dLA_lose_5 : decode bLA_lose 5 = .ok (.invokevirtual 35, 3) := by decide +kernel
theorem dLA_lose_8 : decode bLA_lose 8 = .ok (.i2l, 1) := by decide +kernel
theorem dLA_lose_9 : decode bLA_lose 9 = .ok (.lastore, 1) := by decide +kernel
theorem dLA_lose_10 : decode bLA_lose 10 = .ok (.goto 11, 3) := by decide +kernel
theorem dLA_lose_13 : decode bLA_lose 13 = .ok (.astore 4, 2) := by decide +kernel
theorem dLA_lose_15 : decode bLA_lose 15 = .ok (.iconst 1, 1) := by decide +kernel
theorem dLA_lose_16 : decode bLA_lose 16 = .ok (.ireturn, 1) := by decide +kernel
theorem dLA_lose_17 : decode bLA_lose 17 = .ok (.astore 4, 2) := by decide +kernel
theorem dLA_lose_19 : decode bLA_lose 19 = .ok (.iconst 2, 1) := by decide +kernel
theorem dLA_lose_20 : decode bLA_lose 20 = .ok (.ireturn, 1) := by decide +kernel
theorem dLA_lose_21 : decode bLA_lose 21 = .ok (.iconst 0, 1) := by decide +kernel
theorem dLA_lose_22 : decode bLA_lose 22 = .ok (.ireturn, 1) := by decide +kernel
theorem dLA_order_0 : decode bLA_order 0 = .ok (.aload 4, 2) := by decide +kernel
theorem dLA_order_2 : decode bLA_order 2 = .ok (.iconst 0, 1) := by decide +kernel
theorem dLA_order_3 : decode bLA_order 3 = .ok (.aload_n 0, 1) := by decide +kernel
theorem dLA_order_4 : decode bLA_order 4 = .ok (.iload_n 1, 1) := by decide +kernel
theorem dLA_order_5 : decode bLA_order 5 = .ok (.iload_n 2, 1) := by decide +kernel
theorem dLA_order_6 : decode bLA_order 6 = .ok (.iload_n 3, 1) := by decide +kernel
theorem dLA_order_7 : decode bLA_order 7 = .ok (.invokevirtual 39, 3) := by decide +kernel
theorem dLA_order_10 : decode bLA_order 10 = .ok (.ifCond .eq 7, 3) := by decide +kernel
theorem dLA_order_13 : decode bLA_order 13 = .ok (.lconst 1, 1) := by decide +kernel
theorem dLA_order_14 : decode bLA_order 14 = .ok (.goto 4, 3) := by decide +kernel
theorem dLA_order_17 : decode bLA_order 17 = .ok (.lconst 0, 1) := by decide +kernel
theorem dLA_order_18 : decode bLA_order 18 = .ok (.lastore, 1) := by decide +kernel
theorem dLA_order_19 : decode bLA_order 19 = .ok (.goto 11, 3) := by decide +kernel
theorem dLA_order_22 : decode bLA_order 22 = .ok (.astore 5, 2) := by decide +kernel
theorem dLA_order_24 : decode bLA_order 24 = .ok (.iconst 1, 1) := by decide +kernel
theorem dLA_order_25 : decode bLA_order 25 = .ok (.ireturn, 1) := by decide +kernel
theorem dLA_order_26 : decode bLA_order 26 = .ok (.astore 5, 2) := by decide +kernel
theorem dLA_order_28 : decode bLA_order 28 = .ok (.iconst 2, 1) := by decide +kernel
theorem dLA_order_29 : decode bLA_order 29 = .ok (.ireturn, 1) := by decide +kernel
theorem dLA_order_30 : decode bLA_order 30 = .ok (.iconst 0, 1) := by decide +kernel
theorem dLA_order_31 : decode bLA_order 31 = .ok (.ireturn, 1) := by decide +kernel
theorem dLA_owner_0 : decode bLA_owner 0 = .ok (.aload_n 0, 1) := by decide +kernel
theorem dLA_owner_1 : decode bLA_owner 1 = .ok (.iload_n 1, 1) := by decide +kernel
theorem dLA_owner_2 : decode bLA_owner 2 = .ok (.iload_n 2, 1) := by decide +kernel
theorem dLA_owner_3 : decode bLA_owner 3 = .ok (.iload_n 3, 1) := by decide +kernel
theorem dLA_owner_4 : decode bLA_owner 4 = .ok (.invokevirtual 21, 3) := by decide +kernel
theorem dLA_owner_7 : decode bLA_owner 7 = .ok (.goto 11, 3) := by decide +kernel
theorem dLA_owner_10 : decode bLA_owner 10 = .ok (.astore 4, 2) := by decide +kernel
theorem dLA_owner_12 : decode bLA_owner 12 = .ok (.iconst 1, 1) := by decide +kernel
theorem dLA_owner_13 : decode bLA_owner 13 = .ok (.ireturn, 1) := by decide +kernel
theorem dLA_owner_14 : decode bLA_owner 14 = .ok (.astore 4, 2) := by decide +kernel
theorem dLA_owner_16 : decode bLA_owner 16 = .ok (.iconst 2, 1) := by decide +kernel
theorem dLA_owner_17 : decode bLA_owner 17 = .ok (.ireturn, 1) := by decide +kernel
theorem dLA_owner_18 : decode bLA_owner 18 = .ok (.iconst 0, 1) := by decide +kernel
theorem dLA_owner_19 : decode bLA_owner 19 = .ok (.ireturn, 1) := by decide +kernel
theorem dLA_start_0 : decode bLA_start 0 = .ok (.aload_n 1, 1) := by decide +kernel
theorem dLA_start_1 : decode bLA_start 1 = .ok (.iconst 0, 1) := by decide +kernel
theorem dLA_start_2 : decode bLA_start 2 = .ok (.aload_n 0, 1) := by decide +kernel
theorem dLA_start_3 : decode bLA_start 3 = .ok (.invokevirtual 25, 3) := by decide +kernel
theorem dLA_start_6 : decode bLA_start 6 = .ok (.i2l, 1) := by decide +kernel
theorem dLA_start_7 : decode bLA_start 7 = .ok (.lastore, 1) := by decide +kernel
theorem dLA_start_8 : decode bLA_start 8 = .ok (.goto 6, 3) := by decide +kernel
theorem dLA_start_11 : decode bLA_start 11 = .ok (.astore_n 2, 1) := by decide +kernel
theorem dLA_start_12 : decode bLA_start 12 = .ok (.iconst 1, 1) := by decide +kernel
theorem dLA_start_13 : decode bLA_start 13 = .ok (.ireturn, 1) := by decide +kernel
theorem dLA_start_14 : decode bLA_start 14 = .ok (.iconst 0, 1) := by decide +kernel
theorem dLA_start_15 : decode bLA_start 15 = .ok (.ireturn, 1) := by decide +kernel
/-- what the helper leaves and answers -/
def zH_bridge (P S : ZS) (f : Nat → Int64) (r : Int32) (w : ZS × ZS × (Nat → Int64)) : Prop := match fRG_bridge P S with
  | .error k => r = (1) ∧ w = (P, S, f)
  | .ok z => r = 0 ∧ w = (z.1, z.2.1, vp_updL f (0 : Int32).toNatClampNeg (z.2.2.toInt64))
theorem fRG_bridge_cs {P S : ZS} {k : Nat} (h : fRG_bridge P S = .error k) : k = 2 := by
  simp only [fRG_bridge, zbind, zl] at h
  repeat' split at h
  all_goals first | (cases h; rfl) | (cases h; first | exact fRG_requireNotStarted_c (by assumption)) | cases h
set_option maxHeartbeats 4000000 in
set_option maxRecDepth 100000 in
theorem tLA_bridge (l : Launch) (dC : Nat → ClassId) (dI : Nat → Nat → Nat) (cI cZ cJ cA : ClassId) (a0 : Array Value) (s0 : State) (o b : Nat → Nat) (hfl : l.flags = Jvm.pinnedFlags ++ [Jvm.noTraceFlag]) (P S : ZS) (f : Nat → Int64) (qo sz : Nat) (gP : cok P) (gS : cok S) : Met l yLA_bridge [Cond.codeWith yLA_bridge bLA_bridge 3 (some .int) [(0, 8, 11, 13)]] ({ frames := 8, cells := 1, slots := 6, locals := 131 } : Room) (zP zCl dC dI (zTZ cI cZ cJ cA) a0 s0 [.ref (o 0), .ref qo] sz (CW cI cZ cA o b P S ++ [(qo, .inl (cJ, 1, .inr (.inl f)))])) (zQH zCl dC dI (fun (r : Int32) (x9 : ZS × ZS × (Nat → Int64)) => zH_bridge P S f  r x9 ∧ cok x9.1 ∧ cok x9.2.1) (fun x9 : ZS × ZS × (Nat → Int64) => (CW cI cZ cA o b x9.1 x9.2.1 ++ [(qo, .inl (cJ, 1, .inr (.inl x9.2.2)))])) (va_A (CW cI cZ cA o b P S ++ [(qo, .inl (cJ, 1, .inr (.inl f)))]) sz)) 1 6 (va_A (CW cI cZ cA o b P S ++ [(qo, .inl (cJ, 1, .inr (.inl f)))]) sz) := by
  refine tq_ofWith (cc := bLA_bridge) (maxL := 3) (ret := (some .int)) (hs := [(0, 8, 11, 13)]) (by decide) rfl ?_
  intro p e s m args below meth c s₁ B hml htab hv
  obtain ⟨rfl, hsz, hP, hK, hD0, hB⟩ := hv
  have hx := B.exec
  have hb := B.bytes
  have hr := B.returns
  have hown : s.vm.findClass "RingGuardLaw" = some m.cls := findClass_of_methodNamed B.named
  have hlocks := B.notSynchronized
  subst hsz
  have hD := hD0.self (sz := s.heap.size)
  have hA0 := zA0 hD0 hB
  generalize hAe : va_A (CW cI cZ cA o b P S ++ [(qo, .inl (cJ, 1, .inr (.inl f)))]) s.heap.size = A at hD hA0 ⊢
  have hAD := hA0
  have hA : ∀ q : Nat, s.heap.size ≤ q → A q := fun q h => by rw [← hAe]; exact Or.inr h
  have hS : va_S A s.heap s.heap [] := va_S.rf
  have hl := lv_entry ([.ref (o 0), .ref qo]) (n := 3) (Nat.le_of_ble_eq_true rfl)
  rw [lg_entry_eq]
  generalize (lg_sl ([.ref (o 0), .ref qo]) ++ List.replicate (3 - (lg_sl ([.ref (o 0), .ref qo])).length) Slot.unset).toArray = ls at hl ⊢
  have hl : lv_has ls 3 [(0, .ref (o 0)), (1, .ref qo)] := hl
  refine lv_aload_n hx hb dLA_bridge_0 rfl (lv_at hl 1 rfl) ?_
  refine lv_iconst (v := 0) hx hb dLA_bridge_1 (by decide) ?_
  refine lv_aload_n hx hb dLA_bridge_2 rfl (lv_at hl 0 rfl) ?_
  have hPc := zPL hP
  have hDc := zDL hD
  rcases hc : fRG_bridge P S with k | y
  · have x9 := fRG_bridge_cs hc
    subst x9
    refine tq_catch (hp := 11) (tq_runV (As := []) (rest := [.int 0, .ref qo]) ⟨hx, hb, hml, hown, zno⟩ (tRG_bridge_T2 l dC dI cI cZ cJ cA a0 s0 o b hfl P S s.heap.size gP gS hc) (zcw 0 (hB.word (zm2 k2_66) rfl) (hB.word (zm1 k1_1) rfl) (hB.word (zm2 k2_63) rfl) (hB.word (zm2 k2_64) rfl) (hB.word (zm2 k2_65) rfl) rfl rfl (by decide +kernel) ⟨Nat.le_of_ble_eq_true rfl, Nat.le_of_ble_eq_true rfl⟩) ⟨zP_blind, va_recv hK hPc (ci := 0) (q0 := 0) rfl rfl, zP_pre hPc hK hDc hAD (zB_on hB hA0 hS)⟩ rfl rfl hl.1 rfl (lv_room (Nat.le_of_ble_eq_true rfl)) dLA_bridge_3 ⟨Nat.le_of_ble_eq_true rfl, Nat.le_of_ble_eq_true rfl⟩) hown htab (zsel1 (by decide) (by decide) (hB.word (zm2 k2_62) rfl) (zfit (args := #[]) (hB.word (zm2 k2_73) rfl))) hS (fun q h => hA q (Nat.le_trans hS.1 h)) (fun xq H1 locs hz1 hk1 hS => ?_)
    have hP := zKeep hP hk1
    refine lv_astore_n (lv' := [(2, .ref xq), (0, .ref (o 0)), (1, .ref qo)]) hx hb dLA_bridge_11 rfl hl (by decide) rfl (fun ls hl => ?_)
    refine lv_iconst (v := 1) hx hb dLA_bridge_12 (by decide) ?_
    exact W.iret (v := 1) hx hb hr (fun t ht hW => ⟨⟨1, (P, S, f), rfl, ⟨by unfold zH_bridge; rw [hc]; exact ⟨by decide, rfl⟩, gP, gS⟩, by rw [ht]; exact hP, hD⟩, hS.F ht⟩) hS.2.2 dLA_bridge_13
  · skip
    refine zcIL (va_runV (As := []) (rest := [.int 0, .ref qo]) ⟨hx, hb, hml, hown, zno⟩ (tRG_bridge l dC dI cI cZ cJ cA a0 s0 o b P S s.heap.size gP gS y hc) (zcw 0 (hB.word (zm2 k2_66) rfl) (hB.word (zm1 k1_1) rfl) (hB.word (zm2 k2_63) rfl) (hB.word (zm2 k2_64) rfl) (hB.word (zm2 k2_65) rfl) rfl rfl (by decide +kernel) ⟨Nat.le_of_ble_eq_true rfl, Nat.le_of_ble_eq_true rfl⟩) ⟨zP_blind, va_recv hK hPc (ci := 0) (q0 := 0) rfl rfl, zP_pre hPc hK hDc hAD (zB_on hB hA0 hS)⟩ rfl rfl hl.1 rfl (lv_room (Nat.le_of_ble_eq_true rfl)) dLA_bridge_3 ⟨Nat.le_of_ble_eq_true rfl, Nat.le_of_ble_eq_true rfl⟩) hP hD hS hA (fun k9 x9 H1 locs hq hP hD hS => ?_)
    obtain ⟨P1, S1⟩ := x9
    have gP1 := hq.2.1
    have gS1 := hq.2.2.1
    have ey := hq.1
    subst ey
    have hP : va_P (dC, dI) zCl (CW cI cZ cA o b P1 S1 ++ [(qo, .inl (cJ, 1, .inr (.inl f)))]) H1 := hP
    have hD : va_D A (CW cI cZ cA o b P1 S1 ++ [(qo, .inl (cJ, 1, .inr (.inl f)))]) := hD
    refine lv_i2l (v := k9.toInt64) hx hb dLA_bridge_6 rfl ?_
    refine va_last hx hb hK hP hD hS 84 2 (zAtL CW_len) rfl (i := 0) (by unfold vp_in; decide) dLA_bridge_7 (fun H locs hP hD hS => ?_)
    rw [zSetL CW_len] at hP hD
    refine lv_goto (tgt := 14) hx hb dLA_bridge_8 (by decide) ?_
    refine lv_iconst (v := 0) hx hb dLA_bridge_14 (by decide) ?_
    refine W.widen (k := 1) (n := 6) (Nat.le_of_ble_eq_true rfl) (Nat.le_of_ble_eq_true rfl) ?_
    exact W.iret (v := 0) hx hb hr (fun t ht hW => ⟨⟨0, (P1, S1, (vp_updL f (0 : Int32).toNatClampNeg k9.toInt64)), rfl, ⟨by unfold zH_bridge; rw [hc]; exact ⟨rfl, rfl⟩, gP1, gS1⟩, by rw [ht]; exact hP, hD⟩, hS.F ht⟩) hS.2.2 dLA_bridge_15
/-- what the helper leaves and answers -/
def zH_link (P S : ZS) (f : Nat → Int64) (x0 : Int32) (x1 : Int32) (x2 : Int32) (r : Int32) (w : ZS × ZS × (Nat → Int64)) : Prop := match fRG_link P S x0 x1 x2 with
  | .error k => r = (if k = 1 then 1 else 2) ∧ w = (P, S, f)
  | .ok z => r = 0 ∧ w = (z.1, z.2.1, vp_updL f (0 : Int32).toNatClampNeg (z.2.2.toInt64))
theorem fRG_link_cs {P S : ZS} {x0 x1 x2 : Int32} {k : Nat} (h : fRG_link P S x0 x1 x2 = .error k) : k = 1 ∨ k = 2 := by
  simp only [fRG_link, zbind, zl] at h
  repeat' split at h
  all_goals first | (cases h; exact Or.inl rfl) | (cases h; exact Or.inr rfl) | (cases h; first | exact Or.inl (fRG_requireBridge_c (by assumption)) | exact Or.inr (fRG_requireNotStarted_c (by assumption)) | exact Or.inl (fRG_requireRing_c (by assumption))) | cases h
set_option maxHeartbeats 4000000 in
set_option maxRecDepth 100000 in
theorem tLA_link (l : Launch) (dC : Nat → ClassId) (dI : Nat → Nat → Nat) (cI cZ cJ cA : ClassId) (a0 : Array Value) (s0 : State) (o b : Nat → Nat) (hfl : l.flags = Jvm.pinnedFlags ++ [Jvm.noTraceFlag]) (P S : ZS) (f : Nat → Int64) (qo sz : Nat) (x0 : Int32) (x1 : Int32) (x2 : Int32) (gP : cok P) (gS : cok S) : Met l yLA_link [Cond.codeWith yLA_link bLA_link 6 (some .int) [(0, 12, 15, 19), (0, 12, 19, 13)]] ({ frames := 8, cells := 1, slots := 6, locals := 134 } : Room) (zP zCl dC dI (zTZ cI cZ cJ cA) a0 s0 [.ref (o 0), .int x0, .int x1, .int x2, .ref qo] sz (CW cI cZ cA o b P S ++ [(qo, .inl (cJ, 1, .inr (.inl f)))])) (zQH zCl dC dI (fun (r : Int32) (x9 : ZS × ZS × (Nat → Int64)) => zH_link P S f x0 x1 x2 r x9 ∧ cok x9.1 ∧ cok x9.2.1) (fun x9 : ZS × ZS × (Nat → Int64) => (CW cI cZ cA o b x9.1 x9.2.1 ++ [(qo, .inl (cJ, 1, .inr (.inl x9.2.2)))])) (va_A (CW cI cZ cA o b P S ++ [(qo, .inl (cJ, 1, .inr (.inl f)))]) sz)) 1 6 (va_A (CW cI cZ cA o b P S ++ [(qo, .inl (cJ, 1, .inr (.inl f)))]) sz) := by
  refine tq_ofWith (cc := bLA_link) (maxL := 6) (ret := (some .int)) (hs := [(0, 12, 15, 19), (0, 12, 19, 13)]) (by decide) rfl ?_
  intro p e s m args below meth c s₁ B hml htab hv
  obtain ⟨rfl, hsz, hP, hK, hD0, hB⟩ := hv
  have hx := B.exec
  have hb := B.bytes
  have hr := B.returns
  have hown : s.vm.findClass "RingGuardLaw" = some m.cls := findClass_of_methodNamed B.named
  have hlocks := B.notSynchronized
  subst hsz
  have hD := hD0.self (sz := s.heap.size)
  have hA0 := zA0 hD0 hB
  generalize hAe : va_A (CW cI cZ cA o b P S ++ [(qo, .inl (cJ, 1, .inr (.inl f)))]) s.heap.size = A at hD hA0 ⊢
  have hAD := hA0
  have hA : ∀ q : Nat, s.heap.size ≤ q → A q := fun q h => by rw [← hAe]; exact Or.inr h
  have hS : va_S A s.heap s.heap [] := va_S.rf
  have hl := lv_entry ([.ref (o 0), .int x0, .int x1, .int x2, .ref qo]) (n := 6) (Nat.le_of_ble_eq_true rfl)
  rw [lg_entry_eq]
  generalize (lg_sl ([.ref (o 0), .int x0, .int x1, .int x2, .ref qo]) ++ List.replicate (6 - (lg_sl ([.ref (o 0), .int x0, .int x1, .int x2, .ref qo])).length) Slot.unset).toArray = ls at hl ⊢
  have hl : lv_has ls 6 [(0, .ref (o 0)), (1, .int x0), (2, .int x1), (3, .int x2), (4, .ref qo)] := hl
  refine lv_aload hx hb dLA_link_0 (lv_at hl 4 rfl) ?_
  refine lv_iconst (v := 0) hx hb dLA_link_2 (by decide) ?_
  refine lv_aload_n hx hb dLA_link_3 rfl (lv_at hl 0 rfl) ?_
  refine lv_iload_n hx hb dLA_link_4 rfl (lv_at hl 1 rfl) ?_
  refine lv_iload_n hx hb dLA_link_5 rfl (lv_at hl 2 rfl) ?_
  refine lv_iload_n hx hb dLA_link_6 rfl (lv_at hl 3 rfl) ?_
  have hPc := zPL hP
  have hDc := zDL hD
  rcases hc : fRG_link P S x0 x1 x2 with k | y
  · rcases fRG_link_cs hc with rfl | rfl
    · skip
      refine tq_catch (hp := 15) (tq_runV (As := [.int x0, .int x1, .int x2]) (rest := [.int 0, .ref qo]) ⟨hx, hb, hml, hown, zno⟩ (tRG_link_T1 l dC dI cI cZ cJ cA a0 s0 o b hfl P S s.heap.size x0 x1 x2 gP gS hc) (zcw 3 (hB.word (zm2 k2_146) rfl) (hB.word (zm1 k1_1) rfl) (hB.word (zm2 k2_143) rfl) (hB.word (zm2 k2_144) rfl) (hB.word (zm2 k2_145) rfl) rfl rfl (by decide +kernel) ⟨Nat.le_of_ble_eq_true rfl, Nat.le_of_ble_eq_true rfl⟩) ⟨zP_blind, va_recv hK hPc (ci := 0) (q0 := 0) rfl rfl, zP_pre hPc hK hDc hAD (zB_on hB hA0 hS)⟩ rfl rfl hl.1 rfl (lv_room (Nat.le_of_ble_eq_true rfl)) dLA_link_7 ⟨Nat.le_of_ble_eq_true rfl, Nat.le_of_ble_eq_true rfl⟩) hown htab (zsel1 (by decide) (by decide) (hB.word (zm2 k2_142) rfl) (zfit (args := #[]) (hB.word (zm2 k2_153) rfl))) hS (fun q h => hA q (Nat.le_trans hS.1 h)) (fun xq H1 locs hz1 hk1 hS => ?_)
      have hP := zKeep hP hk1
      refine lv_astore (lv' := [(5, .ref xq), (0, .ref (o 0)), (1, .int x0), (2, .int x1), (3, .int x2), (4, .ref qo)]) hx hb dLA_link_15 hl (by decide) rfl (fun ls hl => ?_)
      refine lv_iconst (v := 1) hx hb dLA_link_17 (by decide) ?_
      exact W.iret (v := 1) hx hb hr (fun t ht hW => ⟨⟨1, (P, S, f), rfl, ⟨by unfold zH_link; rw [hc]; exact ⟨by decide, rfl⟩, gP, gS⟩, by rw [ht]; exact hP, hD⟩, hS.F ht⟩) hS.2.2 dLA_link_18
    · skip
      refine tq_catch (hp := 19) (tq_runV (As := [.int x0, .int x1, .int x2]) (rest := [.int 0, .ref qo]) ⟨hx, hb, hml, hown, zno⟩ (tRG_link_T2 l dC dI cI cZ cJ cA a0 s0 o b hfl P S s.heap.size x0 x1 x2 gP gS hc) (zcw 3 (hB.word (zm2 k2_146) rfl) (hB.word (zm1 k1_1) rfl) (hB.word (zm2 k2_143) rfl) (hB.word (zm2 k2_144) rfl) (hB.word (zm2 k2_145) rfl) rfl rfl (by decide +kernel) ⟨Nat.le_of_ble_eq_true rfl, Nat.le_of_ble_eq_true rfl⟩) ⟨zP_blind, va_recv hK hPc (ci := 0) (q0 := 0) rfl rfl, zP_pre hPc hK hDc hAD (zB_on hB hA0 hS)⟩ rfl rfl hl.1 rfl (lv_room (Nat.le_of_ble_eq_true rfl)) dLA_link_7 ⟨Nat.le_of_ble_eq_true rfl, Nat.le_of_ble_eq_true rfl⟩) hown htab (zsel2 (by decide) (by decide) (hB.word (zm2 k2_142) rfl) (znofit hB zno_ISE) (zsel1 (by decide) (by decide) (hB.word (zm2 k2_62) rfl) (zfit (args := #[]) (hB.word (zm2 k2_73) rfl)))) hS (fun q h => hA q (Nat.le_trans hS.1 h)) (fun xq H1 locs hz1 hk1 hS => ?_)
      have hP := zKeep hP hk1
      refine lv_astore (lv' := [(5, .ref xq), (0, .ref (o 0)), (1, .int x0), (2, .int x1), (3, .int x2), (4, .ref qo)]) hx hb dLA_link_19 hl (by decide) rfl (fun ls hl => ?_)
      refine lv_iconst (v := 2) hx hb dLA_link_21 (by decide) ?_
      exact W.iret (v := 2) hx hb hr (fun t ht hW => ⟨⟨2, (P, S, f), rfl, ⟨by unfold zH_link; rw [hc]; exact ⟨by decide, rfl⟩, gP, gS⟩, by rw [ht]; exact hP, hD⟩, hS.F ht⟩) hS.2.2 dLA_link_22
  · skip
    refine zcIL (va_runV (As := [.int x0, .int x1, .int x2]) (rest := [.int 0, .ref qo]) ⟨hx, hb, hml, hown, zno⟩ (tRG_link l dC dI cI cZ cJ cA a0 s0 o b P S s.heap.size x0 x1 x2 gP gS y hc) (zcw 3 (hB.word (zm2 k2_146) rfl) (hB.word (zm1 k1_1) rfl) (hB.word (zm2 k2_143) rfl) (hB.word (zm2 k2_144) rfl) (hB.word (zm2 k2_145) rfl) rfl rfl (by decide +kernel) ⟨Nat.le_of_ble_eq_true rfl, Nat.le_of_ble_eq_true rfl⟩) ⟨zP_blind, va_recv hK hPc (ci := 0) (q0 := 0) rfl rfl, zP_pre hPc hK hDc hAD (zB_on hB hA0 hS)⟩ rfl rfl hl.1 rfl (lv_room (Nat.le_of_ble_eq_true rfl)) dLA_link_7 ⟨Nat.le_of_ble_eq_true rfl, Nat.le_of_ble_eq_true rfl⟩) hP hD hS hA (fun k9 x9 H1 locs hq hP hD hS => ?_)
    obtain ⟨P1, S1⟩ := x9
    have gP1 := hq.2.1
    have gS1 := hq.2.2.1
    have ey := hq.1
    subst ey
    have hP : va_P (dC, dI) zCl (CW cI cZ cA o b P1 S1 ++ [(qo, .inl (cJ, 1, .inr (.inl f)))]) H1 := hP
    have hD : va_D A (CW cI cZ cA o b P1 S1 ++ [(qo, .inl (cJ, 1, .inr (.inl f)))]) := hD
    refine lv_i2l (v := k9.toInt64) hx hb dLA_link_10 rfl ?_
    refine va_last hx hb hK hP hD hS 84 2 (zAtL CW_len) rfl (i := 0) (by unfold vp_in; decide) dLA_link_11 (fun H locs hP hD hS => ?_)
    rw [zSetL CW_len] at hP hD
    refine lv_goto (tgt := 23) hx hb dLA_link_12 (by decide) ?_
    refine lv_iconst (v := 0) hx hb dLA_link_23 (by decide) ?_
    refine W.widen (k := 1) (n := 6) (Nat.le_of_ble_eq_true rfl) (Nat.le_of_ble_eq_true rfl) ?_
    exact W.iret (v := 0) hx hb hr (fun t ht hW => ⟨⟨0, (P1, S1, (vp_updL f (0 : Int32).toNatClampNeg k9.toInt64)), rfl, ⟨by unfold zH_link; rw [hc]; exact ⟨rfl, rfl⟩, gP1, gS1⟩, by rw [ht]; exact hP, hD⟩, hS.F ht⟩) hS.2.2 dLA_link_24
/-- what the helper leaves and answers -/
def zH_owner (P S : ZS) (f : Nat → Int64) (x0 : Int32) (x1 : Int32) (x2 : Int32) (r : Int32) (w : ZS × ZS × (Nat → Int64)) : Prop := match fRG_owner P S x0 x1 x2 with
  | .error k => r = (if k = 1 then 1 else 2) ∧ w = (P, S, f)
  | .ok z => r = 0 ∧ w = (z.1, z.2, f)
theorem fRG_owner_cs {P S : ZS} {x0 x1 x2 : Int32} {k : Nat} (h : fRG_owner P S x0 x1 x2 = .error k) : k = 1 ∨ k = 2 := by
  simp only [fRG_owner, zbind] at h
  repeat' split at h
  all_goals first | (cases h; exact Or.inl rfl) | (cases h; exact Or.inr rfl) | (cases h; first | exact Or.inl (fRG_requireBridge_c (by assumption)) | exact Or.inl (fRG_requireLink_c (by assumption)) | exact Or.inr (fRG_requireNotStarted_c (by assumption)) | exact Or.inl (fRG_requireRing_c (by assumption))) | cases h
set_option maxHeartbeats 4000000 in
set_option maxRecDepth 100000 in
theorem tLA_owner (l : Launch) (dC : Nat → ClassId) (dI : Nat → Nat → Nat) (cI cZ cJ cA : ClassId) (a0 : Array Value) (s0 : State) (o b : Nat → Nat) (hfl : l.flags = Jvm.pinnedFlags ++ [Jvm.noTraceFlag]) (P S : ZS) (f : Nat → Int64) (qo sz : Nat) (x0 : Int32) (x1 : Int32) (x2 : Int32) (gP : cok P) (gS : cok S) : Met l yLA_owner [Cond.codeWith yLA_owner bLA_owner 5 (some .int) [(0, 7, 10, 19), (0, 7, 14, 13)]] ({ frames := 8, cells := 1, slots := 6, locals := 134 } : Room) (zP zCl dC dI (zTZ cI cZ cJ cA) a0 s0 [.ref (o 0), .int x0, .int x1, .int x2] sz (CW cI cZ cA o b P S ++ [(qo, .inl (cJ, 1, .inr (.inl f)))])) (zQH zCl dC dI (fun (r : Int32) (x9 : ZS × ZS × (Nat → Int64)) => zH_owner P S f x0 x1 x2 r x9 ∧ cok x9.1 ∧ cok x9.2.1) (fun x9 : ZS × ZS × (Nat → Int64) => (CW cI cZ cA o b x9.1 x9.2.1 ++ [(qo, .inl (cJ, 1, .inr (.inl x9.2.2)))])) (va_A (CW cI cZ cA o b P S ++ [(qo, .inl (cJ, 1, .inr (.inl f)))]) sz)) 1 6 (va_A (CW cI cZ cA o b P S ++ [(qo, .inl (cJ, 1, .inr (.inl f)))]) sz) := by
  refine tq_ofWith (cc := bLA_owner) (maxL := 5) (ret := (some .int)) (hs := [(0, 7, 10, 19), (0, 7, 14, 13)]) (by decide) rfl ?_
  intro p e s m args below meth c s₁ B hml htab hv
  obtain ⟨rfl, hsz, hP, hK, hD0, hB⟩ := hv
  have hx := B.exec
  have hb := B.bytes
  have hr := B.returns
  have hown : s.vm.findClass "RingGuardLaw" = some m.cls := findClass_of_methodNamed B.named
  have hlocks := B.notSynchronized
  subst hsz
  have hD := hD0.self (sz := s.heap.size)
  have hA0 := zA0 hD0 hB
  generalize hAe : va_A (CW cI cZ cA o b P S ++ [(qo, .inl (cJ, 1, .inr (.inl f)))]) s.heap.size = A at hD hA0 ⊢
  have hAD := hA0
  have hA : ∀ q : Nat, s.heap.size ≤ q → A q := fun q h => by rw [← hAe]; exact Or.inr h
  have hS : va_S A s.heap s.heap [] := va_S.rf
  have hl := lv_entry ([.ref (o 0), .int x0, .int x1, .int x2]) (n := 5) (Nat.le_of_ble_eq_true rfl)
  rw [lg_entry_eq]
  generalize (lg_sl ([.ref (o 0), .int x0, .int x1, .int x2]) ++ List.replicate (5 - (lg_sl ([.ref (o 0), .int x0, .int x1, .int x2])).length) Slot.unset).toArray = ls at hl ⊢
  have hl : lv_has ls 5 [(0, .ref (o 0)), (1, .int x0), (2, .int x1), (3, .int x2)] := hl
  refine lv_aload_n hx hb dLA_owner_0 rfl (lv_at hl 0 rfl) ?_
  refine lv_iload_n hx hb dLA_owner_1 rfl (lv_at hl 1 rfl) ?_
  refine lv_iload_n hx hb dLA_owner_2 rfl (lv_at hl 2 rfl) ?_
  refine lv_iload_n hx hb dLA_owner_3 rfl (lv_at hl 3 rfl) ?_
  have hPc := zPL hP
  have hDc := zDL hD
  rcases hc : fRG_owner P S x0 x1 x2 with k | y
  · rcases fRG_owner_cs hc with rfl | rfl
    · skip
      refine tq_catch (hp := 10) (tq_runV (As := [.int x0, .int x1, .int x2]) (rest := []) ⟨hx, hb, hml, hown, zno⟩ (tRG_owner_T1 l dC dI cI cZ cJ cA a0 s0 o b hfl P S s.heap.size x0 x1 x2 gP gS hc) (zcw 3 (hB.word (zm2 k2_184) rfl) (hB.word (zm1 k1_1) rfl) (hB.word (zm2 k2_181) rfl) (hB.word (zm2 k2_182) rfl) (hB.word (zm2 k2_183) rfl) rfl rfl (by decide +kernel) ⟨Nat.le_of_ble_eq_true rfl, Nat.le_of_ble_eq_true rfl⟩) ⟨zP_blind, va_recv hK hPc (ci := 0) (q0 := 0) rfl rfl, zP_pre hPc hK hDc hAD (zB_on hB hA0 hS)⟩ rfl rfl hl.1 rfl (lv_room (Nat.le_of_ble_eq_true rfl)) dLA_owner_4 ⟨Nat.le_of_ble_eq_true rfl, Nat.le_of_ble_eq_true rfl⟩) hown htab (zsel1 (by decide) (by decide) (hB.word (zm2 k2_142) rfl) (zfit (args := #[]) (hB.word (zm2 k2_153) rfl))) hS (fun q h => hA q (Nat.le_trans hS.1 h)) (fun xq H1 locs hz1 hk1 hS => ?_)
      have hP := zKeep hP hk1
      refine lv_astore (lv' := [(4, .ref xq), (0, .ref (o 0)), (1, .int x0), (2, .int x1), (3, .int x2)]) hx hb dLA_owner_10 hl (by decide) rfl (fun ls hl => ?_)
      refine lv_iconst (v := 1) hx hb dLA_owner_12 (by decide) ?_
      exact W.iret (v := 1) hx hb hr (fun t ht hW => ⟨⟨1, (P, S, f), rfl, ⟨by unfold zH_owner; rw [hc]; exact ⟨by decide, rfl⟩, gP, gS⟩, by rw [ht]; exact hP, hD⟩, hS.F ht⟩) hS.2.2 dLA_owner_13
    · skip
      refine tq_catch (hp := 14) (tq_runV (As := [.int x0, .int x1, .int x2]) (rest := []) ⟨hx, hb, hml, hown, zno⟩ (tRG_owner_T2 l dC dI cI cZ cJ cA a0 s0 o b hfl P S s.heap.size x0 x1 x2 gP gS hc) (zcw 3 (hB.word (zm2 k2_184) rfl) (hB.word (zm1 k1_1) rfl) (hB.word (zm2 k2_181) rfl) (hB.word (zm2 k2_182) rfl) (hB.word (zm2 k2_183) rfl) rfl rfl (by decide +kernel) ⟨Nat.le_of_ble_eq_true rfl, Nat.le_of_ble_eq_true rfl⟩) ⟨zP_blind, va_recv hK hPc (ci := 0) (q0 := 0) rfl rfl, zP_pre hPc hK hDc hAD (zB_on hB hA0 hS)⟩ rfl rfl hl.1 rfl (lv_room (Nat.le_of_ble_eq_true rfl)) dLA_owner_4 ⟨Nat.le_of_ble_eq_true rfl, Nat.le_of_ble_eq_true rfl⟩) hown htab (zsel2 (by decide) (by decide) (hB.word (zm2 k2_142) rfl) (znofit hB zno_ISE) (zsel1 (by decide) (by decide) (hB.word (zm2 k2_62) rfl) (zfit (args := #[]) (hB.word (zm2 k2_73) rfl)))) hS (fun q h => hA q (Nat.le_trans hS.1 h)) (fun xq H1 locs hz1 hk1 hS => ?_)
      have hP := zKeep hP hk1
      refine lv_astore (lv' := [(4, .ref xq), (0, .ref (o 0)), (1, .int x0), (2, .int x1), (3, .int x2)]) hx hb dLA_owner_14 hl (by decide) rfl (fun ls hl => ?_)
      refine lv_iconst (v := 2) hx hb dLA_owner_16 (by decide) ?_
      exact W.iret (v := 2) hx hb hr (fun t ht hW => ⟨⟨2, (P, S, f), rfl, ⟨by unfold zH_owner; rw [hc]; exact ⟨by decide, rfl⟩, gP, gS⟩, by rw [ht]; exact hP, hD⟩, hS.F ht⟩) hS.2.2 dLA_owner_17
  · skip
    refine zcVL (va_runV (As := [.int x0, .int x1, .int x2]) (rest := []) ⟨hx, hb, hml, hown, zno⟩ (tRG_owner l dC dI cI cZ cJ cA a0 s0 o b P S s.heap.size x0 x1 x2 gP gS y hc) (zcw 3 (hB.word (zm2 k2_184) rfl) (hB.word (zm1 k1_1) rfl) (hB.word (zm2 k2_181) rfl) (hB.word (zm2 k2_182) rfl) (hB.word (zm2 k2_183) rfl) rfl rfl (by decide +kernel) ⟨Nat.le_of_ble_eq_true rfl, Nat.le_of_ble_eq_true rfl⟩) ⟨zP_blind, va_recv hK hPc (ci := 0) (q0 := 0) rfl rfl, zP_pre hPc hK hDc hAD (zB_on hB hA0 hS)⟩ rfl rfl hl.1 rfl (lv_room (Nat.le_of_ble_eq_true rfl)) dLA_owner_4 ⟨Nat.le_of_ble_eq_true rfl, Nat.le_of_ble_eq_true rfl⟩) hP hD hS hA (fun x9 H1 locs hq hP hD hS => ?_)
    obtain ⟨P1, S1⟩ := x9
    have gP1 := hq.2.1
    have gS1 := hq.2.2
    have ey := hq.1
    subst ey
    have hP : va_P (dC, dI) zCl (CW cI cZ cA o b P1 S1 ++ [(qo, .inl (cJ, 1, .inr (.inl f)))]) H1 := hP
    have hD : va_D A (CW cI cZ cA o b P1 S1 ++ [(qo, .inl (cJ, 1, .inr (.inl f)))]) := hD
    refine lv_goto (tgt := 18) hx hb dLA_owner_7 (by decide) ?_
    refine lv_iconst (v := 0) hx hb dLA_owner_18 (by decide) ?_
    refine W.widen (k := 1) (n := 6) (Nat.le_of_ble_eq_true rfl) (Nat.le_of_ble_eq_true rfl) ?_
    exact W.iret (v := 0) hx hb hr (fun t ht hW => ⟨⟨0, (P1, S1, f), rfl, ⟨by unfold zH_owner; rw [hc]; exact ⟨rfl, rfl⟩, gP1, gS1⟩, by rw [ht]; exact hP, hD⟩, hS.F ht⟩) hS.2.2 dLA_owner_19
/-- what the helper leaves and answers -/
def zH_start (P S : ZS) (f : Nat → Int64) (r : Int32) (w : ZS × ZS × (Nat → Int64)) : Prop := match fRG_start P S with
  | .error k => r = (1) ∧ w = (P, S, f)
  | .ok z => r = 0 ∧ w = (z.1, z.2.1, vp_updL f (0 : Int32).toNatClampNeg (z.2.2.toInt64))
theorem fRG_start_cs {P S : ZS} {k : Nat} (h : fRG_start P S = .error k) : k = 2 := by
  simp only [fRG_start, zbind] at h
  repeat' split at h
  all_goals first | (cases h; rfl) | (cases h; first | exact fRG_requireNotStarted_c (by assumption)) | cases h
theorem fRG_start_st {P S : ZS} {y : ZS × ZS × Int32} (h : fRG_start P S = .ok y) : P.I 2 = 0 := by
  simp only [fRG_start, zbind, zl] at h
  repeat' split at h
  all_goals first | exact zk_rN (by assumption) | cases h
set_option maxHeartbeats 4000000 in
set_option maxRecDepth 100000 in
theorem tLA_start (l : Launch) (dC : Nat → ClassId) (dI : Nat → Nat → Nat) (cI cZ cJ cA : ClassId) (a0 : Array Value) (s0 : State) (o b : Nat → Nat) (hfl : l.flags = Jvm.pinnedFlags ++ [Jvm.noTraceFlag]) (P S : ZS) (f : Nat → Int64) (qo sz : Nat) (gP : cok P) (gS : cok S) (hPre : P.I 2 = 0 → zPre P) : Met l yLA_start [Cond.codeWith yLA_start bLA_start 3 (some .int) [(0, 8, 11, 13)]] ({ frames := 8, cells := 1, slots := 6, locals := 163 } : Room) (zP zCl dC dI (zTZ cI cZ cJ cA) a0 s0 [.ref (o 0), .ref qo] sz (CW cI cZ cA o b P S ++ [(qo, .inl (cJ, 1, .inr (.inl f)))])) (zQH zCl dC dI (fun (r : Int32) (x9 : ZS × ZS × (Nat → Int64)) => zH_start P S f  r x9 ∧ cok x9.1 ∧ cok x9.2.1) (fun x9 : ZS × ZS × (Nat → Int64) => (CW cI cZ cA o b x9.1 x9.2.1 ++ [(qo, .inl (cJ, 1, .inr (.inl x9.2.2)))])) (va_A (CW cI cZ cA o b P S ++ [(qo, .inl (cJ, 1, .inr (.inl f)))]) sz)) 1 6 (va_A (CW cI cZ cA o b P S ++ [(qo, .inl (cJ, 1, .inr (.inl f)))]) sz) := by
  refine tq_ofWith (cc := bLA_start) (maxL := 3) (ret := (some .int)) (hs := [(0, 8, 11, 13)]) (by decide) rfl ?_
  intro p e s m args below meth c s₁ B hml htab hv
  obtain ⟨rfl, hsz, hP, hK, hD0, hB⟩ := hv
  have hx := B.exec
  have hb := B.bytes
  have hr := B.returns
  have hown : s.vm.findClass "RingGuardLaw" = some m.cls := findClass_of_methodNamed B.named
  have hlocks := B.notSynchronized
  subst hsz
  have hD := hD0.self (sz := s.heap.size)
  have hA0 := zA0 hD0 hB
  generalize hAe : va_A (CW cI cZ cA o b P S ++ [(qo, .inl (cJ, 1, .inr (.inl f)))]) s.heap.size = A at hD hA0 ⊢
  have hAD := hA0
  have hA : ∀ q : Nat, s.heap.size ≤ q → A q := fun q h => by rw [← hAe]; exact Or.inr h
  have hS : va_S A s.heap s.heap [] := va_S.rf
  have hl := lv_entry ([.ref (o 0), .ref qo]) (n := 3) (Nat.le_of_ble_eq_true rfl)
  rw [lg_entry_eq]
  generalize (lg_sl ([.ref (o 0), .ref qo]) ++ List.replicate (3 - (lg_sl ([.ref (o 0), .ref qo])).length) Slot.unset).toArray = ls at hl ⊢
  have hl : lv_has ls 3 [(0, .ref (o 0)), (1, .ref qo)] := hl
  refine lv_aload_n hx hb dLA_start_0 rfl (lv_at hl 1 rfl) ?_
  refine lv_iconst (v := 0) hx hb dLA_start_1 (by decide) ?_
  refine lv_aload_n hx hb dLA_start_2 rfl (lv_at hl 0 rfl) ?_
  have hPc := zPL hP
  have hDc := zDL hD
  rcases hc : fRG_start P S with k | y
  · have x9 := fRG_start_cs hc
    subst x9
    refine tq_catch (hp := 11) (tq_runV (As := []) (rest := [.int 0, .ref qo]) ⟨hx, hb, hml, hown, zno⟩ (tRG_start_T2 l dC dI cI cZ cJ cA a0 s0 o b hfl P S s.heap.size gP gS hc) (zcw 0 (hB.word (zm2 k2_196) rfl) (hB.word (zm1 k1_1) rfl) (hB.word (zm2 k2_193) rfl) (hB.word (zm2 k2_194) rfl) (hB.word (zm2 k2_195) rfl) rfl rfl (by decide +kernel) ⟨Nat.le_of_ble_eq_true rfl, Nat.le_of_ble_eq_true rfl⟩) ⟨zP_blind, va_recv hK hPc (ci := 0) (q0 := 0) rfl rfl, zP_pre hPc hK hDc hAD (zB_on hB hA0 hS)⟩ rfl rfl hl.1 rfl (lv_room (Nat.le_of_ble_eq_true rfl)) dLA_start_3 ⟨Nat.le_of_ble_eq_true rfl, Nat.le_of_ble_eq_true rfl⟩) hown htab (zsel1 (by decide) (by decide) (hB.word (zm2 k2_62) rfl) (zfit (args := #[]) (hB.word (zm2 k2_73) rfl))) hS (fun q h => hA q (Nat.le_trans hS.1 h)) (fun xq H1 locs hz1 hk1 hS => ?_)
    have hP := zKeep hP hk1
    refine lv_astore_n (lv' := [(2, .ref xq), (0, .ref (o 0)), (1, .ref qo)]) hx hb dLA_start_11 rfl hl (by decide) rfl (fun ls hl => ?_)
    refine lv_iconst (v := 1) hx hb dLA_start_12 (by decide) ?_
    exact W.iret (v := 1) hx hb hr (fun t ht hW => ⟨⟨1, (P, S, f), rfl, ⟨by unfold zH_start; rw [hc]; exact ⟨by decide, rfl⟩, gP, gS⟩, by rw [ht]; exact hP, hD⟩, hS.F ht⟩) hS.2.2 dLA_start_13
  · skip
    have hPre1 := hPre (fRG_start_st hc)
    refine zcIL (va_runV (As := []) (rest := [.int 0, .ref qo]) ⟨hx, hb, hml, hown, zno⟩ (tRG_start l dC dI cI cZ cJ cA a0 s0 o b P S s.heap.size gP gS hPre1 y hc) (zcw 0 (hB.word (zm2 k2_196) rfl) (hB.word (zm1 k1_1) rfl) (hB.word (zm2 k2_193) rfl) (hB.word (zm2 k2_194) rfl) (hB.word (zm2 k2_195) rfl) rfl rfl (by decide +kernel) ⟨Nat.le_of_ble_eq_true rfl, Nat.le_of_ble_eq_true rfl⟩) ⟨zP_blind, va_recv hK hPc (ci := 0) (q0 := 0) rfl rfl, zP_pre hPc hK hDc hAD (zB_on hB hA0 hS)⟩ rfl rfl hl.1 rfl (lv_room (Nat.le_of_ble_eq_true rfl)) dLA_start_3 ⟨Nat.le_of_ble_eq_true rfl, Nat.le_of_ble_eq_true rfl⟩) hP hD hS hA (fun k9 x9 H1 locs hq hP hD hS => ?_)
    obtain ⟨P1, S1⟩ := x9
    have gP1 := hq.2.1
    have gS1 := hq.2.2.1
    have ey := hq.1
    subst ey
    have hP : va_P (dC, dI) zCl (CW cI cZ cA o b P1 S1 ++ [(qo, .inl (cJ, 1, .inr (.inl f)))]) H1 := hP
    have hD : va_D A (CW cI cZ cA o b P1 S1 ++ [(qo, .inl (cJ, 1, .inr (.inl f)))]) := hD
    refine lv_i2l (v := k9.toInt64) hx hb dLA_start_6 rfl ?_
    refine va_last hx hb hK hP hD hS 84 2 (zAtL CW_len) rfl (i := 0) (by unfold vp_in; decide) dLA_start_7 (fun H locs hP hD hS => ?_)
    rw [zSetL CW_len] at hP hD
    refine lv_goto (tgt := 14) hx hb dLA_start_8 (by decide) ?_
    refine lv_iconst (v := 0) hx hb dLA_start_14 (by decide) ?_
    refine W.widen (k := 1) (n := 6) (Nat.le_of_ble_eq_true rfl) (Nat.le_of_ble_eq_true rfl) ?_
    exact W.iret (v := 0) hx hb hr (fun t ht hW => ⟨⟨0, (P1, S1, (vp_updL f (0 : Int32).toNatClampNeg k9.toInt64)), rfl, ⟨by unfold zH_start; rw [hc]; exact ⟨rfl, rfl⟩, gP1, gS1⟩, by rw [ht]; exact hP, hD⟩, hS.F ht⟩) hS.2.2 dLA_start_15
/-- what the helper leaves and answers -/
def zH_fail (P S : ZS) (f : Nat → Int64) (x0 : Int32) (r : Int32) (w : ZS × ZS × (Nat → Int64)) : Prop := match fRG_fail P S x0 with
  | .error k => r = (if k = 1 then 1 else 2) ∧ w = (P, S, f)
  | .ok z => r = 0 ∧ w = (P, z.1, vp_updL f (0 : Int32).toNatClampNeg ((if z.2 = 0 then (0 : Int64) else 1)))
theorem fRG_fail_cs {P S : ZS} {x0 : Int32} {k : Nat} (h : fRG_fail P S x0 = .error k) : k = 1 ∨ k = 2 := by
  simp only [fRG_fail, zbind] at h
  repeat' split at h
  all_goals first | (cases h; exact Or.inl rfl) | (cases h; exact Or.inr rfl) | (cases h; first | exact Or.inl (fRG_requireLink_c (by assumption)) | exact Or.inr (fRG_requireStarted_c (by assumption))) | cases h
theorem fRG_fail_st {P S : ZS} {x0 : Int32} {y : ZS × Int32} (h : fRG_fail P S x0 = .ok y) : ¬ P.I 2 = 0 := by
  simp only [fRG_fail, zbind, zl] at h
  repeat' split at h
  all_goals first | exact zk_rS (by assumption) | cases h
set_option maxHeartbeats 4000000 in
set_option maxRecDepth 100000 in
theorem tLA_fail (l : Launch) (dC : Nat → ClassId) (dI : Nat → Nat → Nat) (cI cZ cJ cA : ClassId) (a0 : Array Value) (s0 : State) (o b : Nat → Nat) (hfl : l.flags = Jvm.pinnedFlags ++ [Jvm.noTraceFlag]) (P S : ZS) (f : Nat → Int64) (qo sz : Nat) (x0 : Int32) (gP : cok P) (gS : cok S) (hQ : P.I 2 = 0 ∨ zQ P) : Met l yLA_fail [Cond.codeWith yLA_fail bLA_fail 4 (some .int) [(0, 16, 19, 19), (0, 16, 22, 13)]] ({ frames := 8, cells := 1, slots := 6, locals := 133 } : Room) (zP zCl dC dI (zTZ cI cZ cJ cA) a0 s0 [.ref (o 0), .int x0, .ref qo] sz (CW cI cZ cA o b P S ++ [(qo, .inl (cJ, 1, .inr (.inl f)))])) (zQH zCl dC dI (fun (r : Int32) (x9 : ZS × ZS × (Nat → Int64)) => zH_fail P S f x0 r x9 ∧ cok x9.1 ∧ cok x9.2.1) (fun x9 : ZS × ZS × (Nat → Int64) => (CW cI cZ cA o b x9.1 x9.2.1 ++ [(qo, .inl (cJ, 1, .inr (.inl x9.2.2)))])) (va_A (CW cI cZ cA o b P S ++ [(qo, .inl (cJ, 1, .inr (.inl f)))]) sz)) 1 6 (va_A (CW cI cZ cA o b P S ++ [(qo, .inl (cJ, 1, .inr (.inl f)))]) sz) := by
  refine tq_ofWith (cc := bLA_fail) (maxL := 4) (ret := (some .int)) (hs := [(0, 16, 19, 19), (0, 16, 22, 13)]) (by decide) rfl ?_
  intro p e s m args below meth c s₁ B hml htab hv
  obtain ⟨rfl, hsz, hP, hK, hD0, hB⟩ := hv
  have hx := B.exec
  have hb := B.bytes
  have hr := B.returns
  have hown : s.vm.findClass "RingGuardLaw" = some m.cls := findClass_of_methodNamed B.named
  have hlocks := B.notSynchronized
  subst hsz
  have hD := hD0.self (sz := s.heap.size)
  have hA0 := zA0 hD0 hB
  generalize hAe : va_A (CW cI cZ cA o b P S ++ [(qo, .inl (cJ, 1, .inr (.inl f)))]) s.heap.size = A at hD hA0 ⊢
  have hAD := hA0
  have hA : ∀ q : Nat, s.heap.size ≤ q → A q := fun q h => by rw [← hAe]; exact Or.inr h
  have hS : va_S A s.heap s.heap [] := va_S.rf
  have hl := lv_entry ([.ref (o 0), .int x0, .ref qo]) (n := 4) (Nat.le_of_ble_eq_true rfl)
  rw [lg_entry_eq]
  generalize (lg_sl ([.ref (o 0), .int x0, .ref qo]) ++ List.replicate (4 - (lg_sl ([.ref (o 0), .int x0, .ref qo])).length) Slot.unset).toArray = ls at hl ⊢
  have hl : lv_has ls 4 [(0, .ref (o 0)), (1, .int x0), (2, .ref qo)] := hl
  refine lv_aload_n hx hb dLA_fail_0 rfl (lv_at hl 2 rfl) ?_
  refine lv_iconst (v := 0) hx hb dLA_fail_1 (by decide) ?_
  refine lv_aload_n hx hb dLA_fail_2 rfl (lv_at hl 0 rfl) ?_
  refine lv_iload_n hx hb dLA_fail_3 rfl (lv_at hl 1 rfl) ?_
  have hPc := zPL hP
  have hDc := zDL hD
  rcases hc : fRG_fail P S x0 with k | y
  · rcases fRG_fail_cs hc with rfl | rfl
    · skip
      refine tq_catch (hp := 19) (tq_runV (As := [.int x0]) (rest := [.int 0, .ref qo]) ⟨hx, hb, hml, hown, zno⟩ (tRG_fail_T1 l dC dI cI cZ cJ cA a0 s0 o b hfl P S s.heap.size x0 gP gS hc) (zcw 1 (hB.word (zm3 k3_54) rfl) (hB.word (zm1 k1_1) rfl) (hB.word (zm3 k3_51) rfl) (hB.word (zm3 k3_52) rfl) (hB.word (zm3 k3_53) rfl) rfl rfl (by decide +kernel) ⟨Nat.le_of_ble_eq_true rfl, Nat.le_of_ble_eq_true rfl⟩) ⟨zP_blind, va_recv hK hPc (ci := 0) (q0 := 0) rfl rfl, zP_pre hPc hK hDc hAD (zB_on hB hA0 hS)⟩ rfl rfl hl.1 rfl (lv_room (Nat.le_of_ble_eq_true rfl)) dLA_fail_4 ⟨Nat.le_of_ble_eq_true rfl, Nat.le_of_ble_eq_true rfl⟩) hown htab (zsel1 (by decide) (by decide) (hB.word (zm2 k2_142) rfl) (zfit (args := #[]) (hB.word (zm2 k2_153) rfl))) hS (fun q h => hA q (Nat.le_trans hS.1 h)) (fun xq H1 locs hz1 hk1 hS => ?_)
      have hP := zKeep hP hk1
      refine lv_astore_n (lv' := [(3, .ref xq), (0, .ref (o 0)), (1, .int x0), (2, .ref qo)]) hx hb dLA_fail_19 rfl hl (by decide) rfl (fun ls hl => ?_)
      refine lv_iconst (v := 1) hx hb dLA_fail_20 (by decide) ?_
      exact W.iret (v := 1) hx hb hr (fun t ht hW => ⟨⟨1, (P, S, f), rfl, ⟨by unfold zH_fail; rw [hc]; exact ⟨by decide, rfl⟩, gP, gS⟩, by rw [ht]; exact hP, hD⟩, hS.F ht⟩) hS.2.2 dLA_fail_21
    · skip
      refine tq_catch (hp := 22) (tq_runV (As := [.int x0]) (rest := [.int 0, .ref qo]) ⟨hx, hb, hml, hown, zno⟩ (tRG_fail_T2 l dC dI cI cZ cJ cA a0 s0 o b hfl P S s.heap.size x0 gP gS hc) (zcw 1 (hB.word (zm3 k3_54) rfl) (hB.word (zm1 k1_1) rfl) (hB.word (zm3 k3_51) rfl) (hB.word (zm3 k3_52) rfl) (hB.word (zm3 k3_53) rfl) rfl rfl (by decide +kernel) ⟨Nat.le_of_ble_eq_true rfl, Nat.le_of_ble_eq_true rfl⟩) ⟨zP_blind, va_recv hK hPc (ci := 0) (q0 := 0) rfl rfl, zP_pre hPc hK hDc hAD (zB_on hB hA0 hS)⟩ rfl rfl hl.1 rfl (lv_room (Nat.le_of_ble_eq_true rfl)) dLA_fail_4 ⟨Nat.le_of_ble_eq_true rfl, Nat.le_of_ble_eq_true rfl⟩) hown htab (zsel2 (by decide) (by decide) (hB.word (zm2 k2_142) rfl) (znofit hB zno_ISE) (zsel1 (by decide) (by decide) (hB.word (zm2 k2_62) rfl) (zfit (args := #[]) (hB.word (zm2 k2_73) rfl)))) hS (fun q h => hA q (Nat.le_trans hS.1 h)) (fun xq H1 locs hz1 hk1 hS => ?_)
      have hP := zKeep hP hk1
      refine lv_astore_n (lv' := [(3, .ref xq), (0, .ref (o 0)), (1, .int x0), (2, .ref qo)]) hx hb dLA_fail_22 rfl hl (by decide) rfl (fun ls hl => ?_)
      refine lv_iconst (v := 2) hx hb dLA_fail_23 (by decide) ?_
      exact W.iret (v := 2) hx hb hr (fun t ht hW => ⟨⟨2, (P, S, f), rfl, ⟨by unfold zH_fail; rw [hc]; exact ⟨by decide, rfl⟩, gP, gS⟩, by rw [ht]; exact hP, hD⟩, hS.F ht⟩) hS.2.2 dLA_fail_24
  · skip
    have gQ : zQ P := hQ.resolve_left (fRG_fail_st hc)
    refine zcIL (va_runV (As := [.int x0]) (rest := [.int 0, .ref qo]) ⟨hx, hb, hml, hown, zno⟩ (tRG_fail l dC dI cI cZ cJ cA a0 s0 o b P S s.heap.size x0 gP gS gQ y hc) (zcw 1 (hB.word (zm3 k3_54) rfl) (hB.word (zm1 k1_1) rfl) (hB.word (zm3 k3_51) rfl) (hB.word (zm3 k3_52) rfl) (hB.word (zm3 k3_53) rfl) rfl rfl (by decide +kernel) ⟨Nat.le_of_ble_eq_true rfl, Nat.le_of_ble_eq_true rfl⟩) ⟨zP_blind, va_recv hK hPc (ci := 0) (q0 := 0) rfl rfl, zP_pre hPc hK hDc hAD (zB_on hB hA0 hS)⟩ rfl rfl hl.1 rfl (lv_room (Nat.le_of_ble_eq_true rfl)) dLA_fail_4 ⟨Nat.le_of_ble_eq_true rfl, Nat.le_of_ble_eq_true rfl⟩) hP hD hS hA (fun k9 x9 H1 locs hq hP hD hS => ?_)
    generalize x9 = S1 at hq hP hD
    have gS1 := hq.2.1
    have ey := hq.1
    subst ey
    have hP : va_P (dC, dI) zCl (CW cI cZ cA o b P S1 ++ [(qo, .inl (cJ, 1, .inr (.inl f)))]) H1 := hP
    have hD : va_D A (CW cI cZ cA o b P S1 ++ [(qo, .inl (cJ, 1, .inr (.inl f)))]) := hD
    refine lv_if_eq (tgt := 14) hx hb dLA_fail_7 (by decide) (fun cz => ?_) (fun cz => ?_)
    · skip
      refine lv_lconst (v := 0) hx hb dLA_fail_14 (by decide) ?_
      refine va_last hx hb hK hP hD hS 84 2 (zAtL CW_len) rfl (i := 0) (by unfold vp_in; decide) dLA_fail_15 (fun H locs hP hD hS => ?_)
      rw [zSetL CW_len] at hP hD
      refine lv_goto (tgt := 25) hx hb dLA_fail_16 (by decide) ?_
      refine lv_iconst (v := 0) hx hb dLA_fail_25 (by decide) ?_
      refine W.widen (k := 1) (n := 6) (Nat.le_of_ble_eq_true rfl) (Nat.le_of_ble_eq_true rfl) ?_
      exact W.iret (v := 0) hx hb hr (fun t ht hW => ⟨⟨0, (P, S1, (vp_updL f (0 : Int32).toNatClampNeg 0)), rfl, ⟨by unfold zH_fail; rw [hc]; exact ⟨rfl, by show (P, S1, _) = (P, S1, vp_updL f _ (if k9 = 0 then (0 : Int64) else 1)); rw [if_pos cz]⟩, gP, gS1⟩, by rw [ht]; exact hP, hD⟩, hS.F ht⟩) hS.2.2 dLA_fail_26
    · skip
      refine lv_lconst (v := 1) hx hb dLA_fail_10 (by decide) ?_
      refine lv_goto (tgt := 15) hx hb dLA_fail_11 (by decide) ?_
      refine va_last hx hb hK hP hD hS 84 2 (zAtL CW_len) rfl (i := 0) (by unfold vp_in; decide) dLA_fail_15 (fun H locs hP hD hS => ?_)
      rw [zSetL CW_len] at hP hD
      refine lv_goto (tgt := 25) hx hb dLA_fail_16 (by decide) ?_
      refine lv_iconst (v := 0) hx hb dLA_fail_25 (by decide) ?_
      refine W.widen (k := 1) (n := 6) (Nat.le_of_ble_eq_true rfl) (Nat.le_of_ble_eq_true rfl) ?_
      exact W.iret (v := 0) hx hb hr (fun t ht hW => ⟨⟨0, (P, S1, (vp_updL f (0 : Int32).toNatClampNeg 1)), rfl, ⟨by unfold zH_fail; rw [hc]; exact ⟨rfl, by show (P, S1, _) = (P, S1, vp_updL f _ (if k9 = 0 then (0 : Int64) else 1)); rw [if_neg cz]⟩, gP, gS1⟩, by rw [ht]; exact hP, hD⟩, hS.F ht⟩) hS.2.2 dLA_fail_26
/-- what the helper leaves and answers -/
def zH_heal (P S : ZS) (f : Nat → Int64) (x0 : Int32) (r : Int32) (w : ZS × ZS × (Nat → Int64)) : Prop := match fRG_heal P S x0 with
  | .error k => r = (if k = 1 then 1 else 2) ∧ w = (P, S, f)
  | .ok z => r = 0 ∧ w = (P, z.1, vp_updL f (0 : Int32).toNatClampNeg ((if z.2 = 0 then (0 : Int64) else 1)))
theorem fRG_heal_cs {P S : ZS} {x0 : Int32} {k : Nat} (h : fRG_heal P S x0 = .error k) : k = 1 ∨ k = 2 := by
  simp only [fRG_heal, zbind] at h
  repeat' split at h
  all_goals first | (cases h; exact Or.inl rfl) | (cases h; exact Or.inr rfl) | (cases h; first | exact Or.inl (fRG_requireLink_c (by assumption)) | exact Or.inr (fRG_requireStarted_c (by assumption))) | cases h
theorem fRG_heal_st {P S : ZS} {x0 : Int32} {y : ZS × Int32} (h : fRG_heal P S x0 = .ok y) : ¬ P.I 2 = 0 := by
  simp only [fRG_heal, zbind, zl] at h
  repeat' split at h
  all_goals first | exact zk_rS (by assumption) | cases h
set_option maxHeartbeats 4000000 in
set_option maxRecDepth 100000 in
theorem tLA_heal (l : Launch) (dC : Nat → ClassId) (dI : Nat → Nat → Nat) (cI cZ cJ cA : ClassId) (a0 : Array Value) (s0 : State) (o b : Nat → Nat) (hfl : l.flags = Jvm.pinnedFlags ++ [Jvm.noTraceFlag]) (P S : ZS) (f : Nat → Int64) (qo sz : Nat) (x0 : Int32) (gP : cok P) (gS : cok S) (hQ : P.I 2 = 0 ∨ zQ P) : Met l yLA_heal [Cond.codeWith yLA_heal bLA_heal 4 (some .int) [(0, 16, 19, 19), (0, 16, 22, 13)]] ({ frames := 8, cells := 1, slots := 6, locals := 133 } : Room) (zP zCl dC dI (zTZ cI cZ cJ cA) a0 s0 [.ref (o 0), .int x0, .ref qo] sz (CW cI cZ cA o b P S ++ [(qo, .inl (cJ, 1, .inr (.inl f)))])) (zQH zCl dC dI (fun (r : Int32) (x9 : ZS × ZS × (Nat → Int64)) => zH_heal P S f x0 r x9 ∧ cok x9.1 ∧ cok x9.2.1) (fun x9 : ZS × ZS × (Nat → Int64) => (CW cI cZ cA o b x9.1 x9.2.1 ++ [(qo, .inl (cJ, 1, .inr (.inl x9.2.2)))])) (va_A (CW cI cZ cA o b P S ++ [(qo, .inl (cJ, 1, .inr (.inl f)))]) sz)) 1 6 (va_A (CW cI cZ cA o b P S ++ [(qo, .inl (cJ, 1, .inr (.inl f)))]) sz) := by
  refine tq_ofWith (cc := bLA_heal) (maxL := 4) (ret := (some .int)) (hs := [(0, 16, 19, 19), (0, 16, 22, 13)]) (by decide) rfl ?_
  intro p e s m args below meth c s₁ B hml htab hv
  obtain ⟨rfl, hsz, hP, hK, hD0, hB⟩ := hv
  have hx := B.exec
  have hb := B.bytes
  have hr := B.returns
  have hown : s.vm.findClass "RingGuardLaw" = some m.cls := findClass_of_methodNamed B.named
  have hlocks := B.notSynchronized
  subst hsz
  have hD := hD0.self (sz := s.heap.size)
  have hA0 := zA0 hD0 hB
  generalize hAe : va_A (CW cI cZ cA o b P S ++ [(qo, .inl (cJ, 1, .inr (.inl f)))]) s.heap.size = A at hD hA0 ⊢
  have hAD := hA0
  have hA : ∀ q : Nat, s.heap.size ≤ q → A q := fun q h => by rw [← hAe]; exact Or.inr h
  have hS : va_S A s.heap s.heap [] := va_S.rf
  have hl := lv_entry ([.ref (o 0), .int x0, .ref qo]) (n := 4) (Nat.le_of_ble_eq_true rfl)
  rw [lg_entry_eq]
  generalize (lg_sl ([.ref (o 0), .int x0, .ref qo]) ++ List.replicate (4 - (lg_sl ([.ref (o 0), .int x0, .ref qo])).length) Slot.unset).toArray = ls at hl ⊢
  have hl : lv_has ls 4 [(0, .ref (o 0)), (1, .int x0), (2, .ref qo)] := hl
  refine lv_aload_n hx hb dLA_heal_0 rfl (lv_at hl 2 rfl) ?_
  refine lv_iconst (v := 0) hx hb dLA_heal_1 (by decide) ?_
  refine lv_aload_n hx hb dLA_heal_2 rfl (lv_at hl 0 rfl) ?_
  refine lv_iload_n hx hb dLA_heal_3 rfl (lv_at hl 1 rfl) ?_
  have hPc := zPL hP
  have hDc := zDL hD
  rcases hc : fRG_heal P S x0 with k | y
  · rcases fRG_heal_cs hc with rfl | rfl
    · skip
      refine tq_catch (hp := 19) (tq_runV (As := [.int x0]) (rest := [.int 0, .ref qo]) ⟨hx, hb, hml, hown, zno⟩ (tRG_heal_T1 l dC dI cI cZ cJ cA a0 s0 o b hfl P S s.heap.size x0 gP gS hc) (zcw 1 (hB.word (zm3 k3_100) rfl) (hB.word (zm1 k1_1) rfl) (hB.word (zm3 k3_97) rfl) (hB.word (zm3 k3_98) rfl) (hB.word (zm3 k3_99) rfl) rfl rfl (by decide +kernel) ⟨Nat.le_of_ble_eq_true rfl, Nat.le_of_ble_eq_true rfl⟩) ⟨zP_blind, va_recv hK hPc (ci := 0) (q0 := 0) rfl rfl, zP_pre hPc hK hDc hAD (zB_on hB hA0 hS)⟩ rfl rfl hl.1 rfl (lv_room (Nat.le_of_ble_eq_true rfl)) dLA_heal_4 ⟨Nat.le_of_ble_eq_true rfl, Nat.le_of_ble_eq_true rfl⟩) hown htab (zsel1 (by decide) (by decide) (hB.word (zm2 k2_142) rfl) (zfit (args := #[]) (hB.word (zm2 k2_153) rfl))) hS (fun q h => hA q (Nat.le_trans hS.1 h)) (fun xq H1 locs hz1 hk1 hS => ?_)
      have hP := zKeep hP hk1
      refine lv_astore_n (lv' := [(3, .ref xq), (0, .ref (o 0)), (1, .int x0), (2, .ref qo)]) hx hb dLA_heal_19 rfl hl (by decide) rfl (fun ls hl => ?_)
      refine lv_iconst (v := 1) hx hb dLA_heal_20 (by decide) ?_
      exact W.iret (v := 1) hx hb hr (fun t ht hW => ⟨⟨1, (P, S, f), rfl, ⟨by unfold zH_heal; rw [hc]; exact ⟨by decide, rfl⟩, gP, gS⟩, by rw [ht]; exact hP, hD⟩, hS.F ht⟩) hS.2.2 dLA_heal_21
    · skip
      refine tq_catch (hp := 22) (tq_runV (As := [.int x0]) (rest := [.int 0, .ref qo]) ⟨hx, hb, hml, hown, zno⟩ (tRG_heal_T2 l dC dI cI cZ cJ cA a0 s0 o b hfl P S s.heap.size x0 gP gS hc) (zcw 1 (hB.word (zm3 k3_100) rfl) (hB.word (zm1 k1_1) rfl) (hB.word (zm3 k3_97) rfl) (hB.word (zm3 k3_98) rfl) (hB.word (zm3 k3_99) rfl) rfl rfl (by decide +kernel) ⟨Nat.le_of_ble_eq_true rfl, Nat.le_of_ble_eq_true rfl⟩) ⟨zP_blind, va_recv hK hPc (ci := 0) (q0 := 0) rfl rfl, zP_pre hPc hK hDc hAD (zB_on hB hA0 hS)⟩ rfl rfl hl.1 rfl (lv_room (Nat.le_of_ble_eq_true rfl)) dLA_heal_4 ⟨Nat.le_of_ble_eq_true rfl, Nat.le_of_ble_eq_true rfl⟩) hown htab (zsel2 (by decide) (by decide) (hB.word (zm2 k2_142) rfl) (znofit hB zno_ISE) (zsel1 (by decide) (by decide) (hB.word (zm2 k2_62) rfl) (zfit (args := #[]) (hB.word (zm2 k2_73) rfl)))) hS (fun q h => hA q (Nat.le_trans hS.1 h)) (fun xq H1 locs hz1 hk1 hS => ?_)
      have hP := zKeep hP hk1
      refine lv_astore_n (lv' := [(3, .ref xq), (0, .ref (o 0)), (1, .int x0), (2, .ref qo)]) hx hb dLA_heal_22 rfl hl (by decide) rfl (fun ls hl => ?_)
      refine lv_iconst (v := 2) hx hb dLA_heal_23 (by decide) ?_
      exact W.iret (v := 2) hx hb hr (fun t ht hW => ⟨⟨2, (P, S, f), rfl, ⟨by unfold zH_heal; rw [hc]; exact ⟨by decide, rfl⟩, gP, gS⟩, by rw [ht]; exact hP, hD⟩, hS.F ht⟩) hS.2.2 dLA_heal_24
  · skip
    have gQ : zQ P := hQ.resolve_left (fRG_heal_st hc)
    refine zcIL (va_runV (As := [.int x0]) (rest := [.int 0, .ref qo]) ⟨hx, hb, hml, hown, zno⟩ (tRG_heal l dC dI cI cZ cJ cA a0 s0 o b P S s.heap.size x0 gP gS gQ y hc) (zcw 1 (hB.word (zm3 k3_100) rfl) (hB.word (zm1 k1_1) rfl) (hB.word (zm3 k3_97) rfl) (hB.word (zm3 k3_98) rfl) (hB.word (zm3 k3_99) rfl) rfl rfl (by decide +kernel) ⟨Nat.le_of_ble_eq_true rfl, Nat.le_of_ble_eq_true rfl⟩) ⟨zP_blind, va_recv hK hPc (ci := 0) (q0 := 0) rfl rfl, zP_pre hPc hK hDc hAD (zB_on hB hA0 hS)⟩ rfl rfl hl.1 rfl (lv_room (Nat.le_of_ble_eq_true rfl)) dLA_heal_4 ⟨Nat.le_of_ble_eq_true rfl, Nat.le_of_ble_eq_true rfl⟩) hP hD hS hA (fun k9 x9 H1 locs hq hP hD hS => ?_)
    generalize x9 = S1 at hq hP hD
    have gS1 := hq.2.1
    have ey := hq.1
    subst ey
    have hP : va_P (dC, dI) zCl (CW cI cZ cA o b P S1 ++ [(qo, .inl (cJ, 1, .inr (.inl f)))]) H1 := hP
    have hD : va_D A (CW cI cZ cA o b P S1 ++ [(qo, .inl (cJ, 1, .inr (.inl f)))]) := hD
    refine lv_if_eq (tgt := 14) hx hb dLA_heal_7 (by decide) (fun cz => ?_) (fun cz => ?_)
    · skip
      refine lv_lconst (v := 0) hx hb dLA_heal_14 (by decide) ?_
      refine va_last hx hb hK hP hD hS 84 2 (zAtL CW_len) rfl (i := 0) (by unfold vp_in; decide) dLA_heal_15 (fun H locs hP hD hS => ?_)
      rw [zSetL CW_len] at hP hD
      refine lv_goto (tgt := 25) hx hb dLA_heal_16 (by decide) ?_
      refine lv_iconst (v := 0) hx hb dLA_heal_25 (by decide) ?_
      refine W.widen (k := 1) (n := 6) (Nat.le_of_ble_eq_true rfl) (Nat.le_of_ble_eq_true rfl) ?_
      exact W.iret (v := 0) hx hb hr (fun t ht hW => ⟨⟨0, (P, S1, (vp_updL f (0 : Int32).toNatClampNeg 0)), rfl, ⟨by unfold zH_heal; rw [hc]; exact ⟨rfl, by show (P, S1, _) = (P, S1, vp_updL f _ (if k9 = 0 then (0 : Int64) else 1)); rw [if_pos cz]⟩, gP, gS1⟩, by rw [ht]; exact hP, hD⟩, hS.F ht⟩) hS.2.2 dLA_heal_26
    · skip
      refine lv_lconst (v := 1) hx hb dLA_heal_10 (by decide) ?_
      refine lv_goto (tgt := 15) hx hb dLA_heal_11 (by decide) ?_
      refine va_last hx hb hK hP hD hS 84 2 (zAtL CW_len) rfl (i := 0) (by unfold vp_in; decide) dLA_heal_15 (fun H locs hP hD hS => ?_)
      rw [zSetL CW_len] at hP hD
      refine lv_goto (tgt := 25) hx hb dLA_heal_16 (by decide) ?_
      refine lv_iconst (v := 0) hx hb dLA_heal_25 (by decide) ?_
      refine W.widen (k := 1) (n := 6) (Nat.le_of_ble_eq_true rfl) (Nat.le_of_ble_eq_true rfl) ?_
      exact W.iret (v := 0) hx hb hr (fun t ht hW => ⟨⟨0, (P, S1, (vp_updL f (0 : Int32).toNatClampNeg 1)), rfl, ⟨by unfold zH_heal; rw [hc]; exact ⟨rfl, by show (P, S1, _) = (P, S1, vp_updL f _ (if k9 = 0 then (0 : Int64) else 1)); rw [if_neg cz]⟩, gP, gS1⟩, by rw [ht]; exact hP, hD⟩, hS.F ht⟩) hS.2.2 dLA_heal_26
/-- what the helper leaves and answers -/
def zH_lose (P S : ZS) (f : Nat → Int64) (x0 : Int32) (x1 : Int32) (r : Int32) (w : ZS × ZS × (Nat → Int64)) : Prop := match fRG_lose P S x0 x1 with
  | .error k => r = (if k = 1 then 1 else 2) ∧ w = (P, S, f)
  | .ok z => r = 0 ∧ w = (P, z.1, vp_updL f (0 : Int32).toNatClampNeg (z.2.toInt64))
theorem fRG_lose_cs {P S : ZS} {x0 x1 : Int32} {k : Nat} (h : fRG_lose P S x0 x1 = .error k) : k = 1 ∨ k = 2 := by
  simp only [fRG_lose, fRG_lose_16, zbind] at h
  repeat' split at h
  all_goals first | (cases h; exact Or.inl rfl) | (cases h; exact Or.inr rfl) | (cases h; first | exact Or.inl (fRG_requireLink_c (by assumption)) | exact Or.inr (fRG_requireStarted_c (by assumption))) | cases h
set_option maxHeartbeats 4000000 in
set_option maxRecDepth 100000 in
theorem tLA_lose (l : Launch) (dC : Nat → ClassId) (dI : Nat → Nat → Nat) (cI cZ cJ cA : ClassId) (a0 : Array Value) (s0 : State) (o b : Nat → Nat) (hfl : l.flags = Jvm.pinnedFlags ++ [Jvm.noTraceFlag]) (P S : ZS) (f : Nat → Int64) (qo sz : Nat) (x0 : Int32) (x1 : Int32) (gP : cok P) (gS : cok S) : Met l yLA_lose [Cond.codeWith yLA_lose bLA_lose 5 (some .int) [(0, 10, 13, 19), (0, 10, 17, 13)]] ({ frames := 8, cells := 1, slots := 6, locals := 134 } : Room) (zP zCl dC dI (zTZ cI cZ cJ cA) a0 s0 [.ref (o 0), .int x0, .int x1, .ref qo] sz (CW cI cZ cA o b P S ++ [(qo, .inl (cJ, 1, .inr (.inl f)))])) (zQH zCl dC dI (fun (r : Int32) (x9 : ZS × ZS × (Nat → Int64)) => zH_lose P S f x0 x1 r x9 ∧ cok x9.1 ∧ cok x9.2.1) (fun x9 : ZS × ZS × (Nat → Int64) => (CW cI cZ cA o b x9.1 x9.2.1 ++ [(qo, .inl (cJ, 1, .inr (.inl x9.2.2)))])) (va_A (CW cI cZ cA o b P S ++ [(qo, .inl (cJ, 1, .inr (.inl f)))]) sz)) 1 6 (va_A (CW cI cZ cA o b P S ++ [(qo, .inl (cJ, 1, .inr (.inl f)))]) sz) := by
  refine tq_ofWith (cc := bLA_lose) (maxL := 5) (ret := (some .int)) (hs := [(0, 10, 13, 19), (0, 10, 17, 13)]) (by decide) rfl ?_
  intro p e s m args below meth c s₁ B hml htab hv
  obtain ⟨rfl, hsz, hP, hK, hD0, hB⟩ := hv
  have hx := B.exec
  have hb := B.bytes
  have hr := B.returns
  have hown : s.vm.findClass "RingGuardLaw" = some m.cls := findClass_of_methodNamed B.named
  have hlocks := B.notSynchronized
  subst hsz
  have hD := hD0.self (sz := s.heap.size)
  have hA0 := zA0 hD0 hB
  generalize hAe : va_A (CW cI cZ cA o b P S ++ [(qo, .inl (cJ, 1, .inr (.inl f)))]) s.heap.size = A at hD hA0 ⊢
  have hAD := hA0
  have hA : ∀ q : Nat, s.heap.size ≤ q → A q := fun q h => by rw [← hAe]; exact Or.inr h
  have hS : va_S A s.heap s.heap [] := va_S.rf
  have hl := lv_entry ([.ref (o 0), .int x0, .int x1, .ref qo]) (n := 5) (Nat.le_of_ble_eq_true rfl)
  rw [lg_entry_eq]
  generalize (lg_sl ([.ref (o 0), .int x0, .int x1, .ref qo]) ++ List.replicate (5 - (lg_sl ([.ref (o 0), .int x0, .int x1, .ref qo])).length) Slot.unset).toArray = ls at hl ⊢
  have hl : lv_has ls 5 [(0, .ref (o 0)), (1, .int x0), (2, .int x1), (3, .ref qo)] := hl
  refine lv_aload_n hx hb dLA_lose_0 rfl (lv_at hl 3 rfl) ?_
  refine lv_iconst (v := 0) hx hb dLA_lose_1 (by decide) ?_
  refine lv_aload_n hx hb dLA_lose_2 rfl (lv_at hl 0 rfl) ?_
  refine lv_iload_n hx hb dLA_lose_3 rfl (lv_at hl 1 rfl) ?_
  refine lv_iload_n hx hb dLA_lose_4 rfl (lv_at hl 2 rfl) ?_
  have hPc := zPL hP
  have hDc := zDL hD
  rcases hc : fRG_lose P S x0 x1 with k | y
  · rcases fRG_lose_cs hc with rfl | rfl
    · skip
      refine tq_catch (hp := 13) (tq_runV (As := [.int x0, .int x1]) (rest := [.int 0, .ref qo]) ⟨hx, hb, hml, hown, zno⟩ (tRG_lose_T1 l dC dI cI cZ cJ cA a0 s0 o b hfl P S s.heap.size x0 x1 gP gS hc) (zcw 2 (hB.word (zm3 k3_115) rfl) (hB.word (zm1 k1_1) rfl) (hB.word (zm3 k3_112) rfl) (hB.word (zm3 k3_113) rfl) (hB.word (zm3 k3_114) rfl) rfl rfl (by decide +kernel) ⟨Nat.le_of_ble_eq_true rfl, Nat.le_of_ble_eq_true rfl⟩) ⟨zP_blind, va_recv hK hPc (ci := 0) (q0 := 0) rfl rfl, zP_pre hPc hK hDc hAD (zB_on hB hA0 hS)⟩ rfl rfl hl.1 rfl (lv_room (Nat.le_of_ble_eq_true rfl)) dLA_lose_5 ⟨Nat.le_of_ble_eq_true rfl, Nat.le_of_ble_eq_true rfl⟩) hown htab (zsel1 (by decide) (by decide) (hB.word (zm2 k2_142) rfl) (zfit (args := #[]) (hB.word (zm2 k2_153) rfl))) hS (fun q h => hA q (Nat.le_trans hS.1 h)) (fun xq H1 locs hz1 hk1 hS => ?_)
      have hP := zKeep hP hk1
      refine lv_astore (lv' := [(4, .ref xq), (0, .ref (o 0)), (1, .int x0), (2, .int x1), (3, .ref qo)]) hx hb dLA_lose_13 hl (by decide) rfl (fun ls hl => ?_)
      refine lv_iconst (v := 1) hx hb dLA_lose_15 (by decide) ?_
      exact W.iret (v := 1) hx hb hr (fun t ht hW => ⟨⟨1, (P, S, f), rfl, ⟨by unfold zH_lose; rw [hc]; exact ⟨by decide, rfl⟩, gP, gS⟩, by rw [ht]; exact hP, hD⟩, hS.F ht⟩) hS.2.2 dLA_lose_16
    · skip
      refine tq_catch (hp := 17) (tq_runV (As := [.int x0, .int x1]) (rest := [.int 0, .ref qo]) ⟨hx, hb, hml, hown, zno⟩ (tRG_lose_T2 l dC dI cI cZ cJ cA a0 s0 o b hfl P S s.heap.size x0 x1 gP gS hc) (zcw 2 (hB.word (zm3 k3_115) rfl) (hB.word (zm1 k1_1) rfl) (hB.word (zm3 k3_112) rfl) (hB.word (zm3 k3_113) rfl) (hB.word (zm3 k3_114) rfl) rfl rfl (by decide +kernel) ⟨Nat.le_of_ble_eq_true rfl, Nat.le_of_ble_eq_true rfl⟩) ⟨zP_blind, va_recv hK hPc (ci := 0) (q0 := 0) rfl rfl, zP_pre hPc hK hDc hAD (zB_on hB hA0 hS)⟩ rfl rfl hl.1 rfl (lv_room (Nat.le_of_ble_eq_true rfl)) dLA_lose_5 ⟨Nat.le_of_ble_eq_true rfl, Nat.le_of_ble_eq_true rfl⟩) hown htab (zsel2 (by decide) (by decide) (hB.word (zm2 k2_142) rfl) (znofit hB zno_ISE) (zsel1 (by decide) (by decide) (hB.word (zm2 k2_62) rfl) (zfit (args := #[]) (hB.word (zm2 k2_73) rfl)))) hS (fun q h => hA q (Nat.le_trans hS.1 h)) (fun xq H1 locs hz1 hk1 hS => ?_)
      have hP := zKeep hP hk1
      refine lv_astore (lv' := [(4, .ref xq), (0, .ref (o 0)), (1, .int x0), (2, .int x1), (3, .ref qo)]) hx hb dLA_lose_17 hl (by decide) rfl (fun ls hl => ?_)
      refine lv_iconst (v := 2) hx hb dLA_lose_19 (by decide) ?_
      exact W.iret (v := 2) hx hb hr (fun t ht hW => ⟨⟨2, (P, S, f), rfl, ⟨by unfold zH_lose; rw [hc]; exact ⟨by decide, rfl⟩, gP, gS⟩, by rw [ht]; exact hP, hD⟩, hS.F ht⟩) hS.2.2 dLA_lose_20
  · skip
    refine zcIL (va_runV (As := [.int x0, .int x1]) (rest := [.int 0, .ref qo]) ⟨hx, hb, hml, hown, zno⟩ (tRG_lose l dC dI cI cZ cJ cA a0 s0 o b P S s.heap.size x0 x1 gP gS y hc) (zcw 2 (hB.word (zm3 k3_115) rfl) (hB.word (zm1 k1_1) rfl) (hB.word (zm3 k3_112) rfl) (hB.word (zm3 k3_113) rfl) (hB.word (zm3 k3_114) rfl) rfl rfl (by decide +kernel) ⟨Nat.le_of_ble_eq_true rfl, Nat.le_of_ble_eq_true rfl⟩) ⟨zP_blind, va_recv hK hPc (ci := 0) (q0 := 0) rfl rfl, zP_pre hPc hK hDc hAD (zB_on hB hA0 hS)⟩ rfl rfl hl.1 rfl (lv_room (Nat.le_of_ble_eq_true rfl)) dLA_lose_5 ⟨Nat.le_of_ble_eq_true rfl, Nat.le_of_ble_eq_true rfl⟩) hP hD hS hA (fun k9 x9 H1 locs hq hP hD hS => ?_)
    generalize x9 = S1 at hq hP hD
    have gS1 := hq.2.1
    have ey := hq.1
    subst ey
    have hP : va_P (dC, dI) zCl (CW cI cZ cA o b P S1 ++ [(qo, .inl (cJ, 1, .inr (.inl f)))]) H1 := hP
    have hD : va_D A (CW cI cZ cA o b P S1 ++ [(qo, .inl (cJ, 1, .inr (.inl f)))]) := hD
    refine lv_i2l (v := k9.toInt64) hx hb dLA_lose_8 rfl ?_
    refine va_last hx hb hK hP hD hS 84 2 (zAtL CW_len) rfl (i := 0) (by unfold vp_in; decide) dLA_lose_9 (fun H locs hP hD hS => ?_)
    rw [zSetL CW_len] at hP hD
    refine lv_goto (tgt := 21) hx hb dLA_lose_10 (by decide) ?_
    refine lv_iconst (v := 0) hx hb dLA_lose_21 (by decide) ?_
    refine W.widen (k := 1) (n := 6) (Nat.le_of_ble_eq_true rfl) (Nat.le_of_ble_eq_true rfl) ?_
    exact W.iret (v := 0) hx hb hr (fun t ht hW => ⟨⟨0, (P, S1, (vp_updL f (0 : Int32).toNatClampNeg k9.toInt64)), rfl, ⟨by unfold zH_lose; rw [hc]; exact ⟨rfl, rfl⟩, gP, gS1⟩, by rw [ht]; exact hP, hD⟩, hS.F ht⟩) hS.2.2 dLA_lose_22
/-- what the helper leaves and answers -/
def zH_order (P S : ZS) (f : Nat → Int64) (x0 : Int32) (x1 : Int32) (x2 : Int32) (r : Int32) (w : ZS × ZS × (Nat → Int64)) : Prop := match fRG_order P S x0 x1 x2 with
  | .error k => r = (if k = 1 then 1 else 2) ∧ w = (P, S, f)
  | .ok z => r = 0 ∧ w = (P, z.1, vp_updL f (0 : Int32).toNatClampNeg ((if z.2 = 0 then (0 : Int64) else 1)))
theorem fRG_order_cs {P S : ZS} {x0 x1 x2 : Int32} {k : Nat} (h : fRG_order P S x0 x1 x2 = .error k) : k = 1 ∨ k = 2 := by
  simp only [fRG_order, zbind] at h
  repeat' split at h
  all_goals first | (cases h; exact Or.inl rfl) | (cases h; exact Or.inr rfl) | (cases h; first | exact Or.inl (fRG_requirePort_c (by assumption)) | exact Or.inr (fRG_requireStarted_c (by assumption))) | cases h
theorem fRG_order_st {P S : ZS} {x0 x1 x2 : Int32} {y : ZS × Int32} (h : fRG_order P S x0 x1 x2 = .ok y) : ¬ P.I 2 = 0 := by
  simp only [fRG_order, zbind, zl] at h
  repeat' split at h
  all_goals first | exact zk_rS (by assumption) | cases h
set_option maxHeartbeats 4000000 in
set_option maxRecDepth 100000 in
theorem tLA_order (l : Launch) (dC : Nat → ClassId) (dI : Nat → Nat → Nat) (cI cZ cJ cA : ClassId) (a0 : Array Value) (s0 : State) (o b : Nat → Nat) (hfl : l.flags = Jvm.pinnedFlags ++ [Jvm.noTraceFlag]) (P S : ZS) (f : Nat → Int64) (qo sz : Nat) (x0 : Int32) (x1 : Int32) (x2 : Int32) (gP : cok P) (gS : cok S) (hQ : P.I 2 = 0 ∨ zQ P) (r_x2 : zr 0 1 x2) : Met l yLA_order [Cond.codeWith yLA_order bLA_order 6 (some .int) [(0, 19, 22, 19), (0, 19, 26, 13)]] ({ frames := 9, cells := 1, slots := 6, locals := 157 } : Room) (zP zCl dC dI (zTZ cI cZ cJ cA) a0 s0 [.ref (o 0), .int x0, .int x1, .int x2, .ref qo] sz (CW cI cZ cA o b P S ++ [(qo, .inl (cJ, 1, .inr (.inl f)))])) (zQH zCl dC dI (fun (r : Int32) (x9 : ZS × ZS × (Nat → Int64)) => zH_order P S f x0 x1 x2 r x9 ∧ cok x9.1 ∧ cok x9.2.1) (fun x9 : ZS × ZS × (Nat → Int64) => (CW cI cZ cA o b x9.1 x9.2.1 ++ [(qo, .inl (cJ, 1, .inr (.inl x9.2.2)))])) (va_A (CW cI cZ cA o b P S ++ [(qo, .inl (cJ, 1, .inr (.inl f)))]) sz)) 1 6 (va_A (CW cI cZ cA o b P S ++ [(qo, .inl (cJ, 1, .inr (.inl f)))]) sz) := by
  refine tq_ofWith (cc := bLA_order) (maxL := 6) (ret := (some .int)) (hs := [(0, 19, 22, 19), (0, 19, 26, 13)]) (by decide) rfl ?_
  intro p e s m args below meth c s₁ B hml htab hv
  obtain ⟨rfl, hsz, hP, hK, hD0, hB⟩ := hv
  have hx := B.exec
  have hb := B.bytes
  have hr := B.returns
  have hown : s.vm.findClass "RingGuardLaw" = some m.cls := findClass_of_methodNamed B.named
  have hlocks := B.notSynchronized
  subst hsz
  have hD := hD0.self (sz := s.heap.size)
  have hA0 := zA0 hD0 hB
  generalize hAe : va_A (CW cI cZ cA o b P S ++ [(qo, .inl (cJ, 1, .inr (.inl f)))]) s.heap.size = A at hD hA0 ⊢
  have hAD := hA0
  have hA : ∀ q : Nat, s.heap.size ≤ q → A q := fun q h => by rw [← hAe]; exact Or.inr h
  have hS : va_S A s.heap s.heap [] := va_S.rf
  have hl := lv_entry ([.ref (o 0), .int x0, .int x1, .int x2, .ref qo]) (n := 6) (Nat.le_of_ble_eq_true rfl)
  rw [lg_entry_eq]
  generalize (lg_sl ([.ref (o 0), .int x0, .int x1, .int x2, .ref qo]) ++ List.replicate (6 - (lg_sl ([.ref (o 0), .int x0, .int x1, .int x2, .ref qo])).length) Slot.unset).toArray = ls at hl ⊢
  have hl : lv_has ls 6 [(0, .ref (o 0)), (1, .int x0), (2, .int x1), (3, .int x2), (4, .ref qo)] := hl
  refine lv_aload hx hb dLA_order_0 (lv_at hl 4 rfl) ?_
  refine lv_iconst (v := 0) hx hb dLA_order_2 (by decide) ?_
  refine lv_aload_n hx hb dLA_order_3 rfl (lv_at hl 0 rfl) ?_
  refine lv_iload_n hx hb dLA_order_4 rfl (lv_at hl 1 rfl) ?_
  refine lv_iload_n hx hb dLA_order_5 rfl (lv_at hl 2 rfl) ?_
  refine lv_iload_n hx hb dLA_order_6 rfl (lv_at hl 3 rfl) ?_
  have hPc := zPL hP
  have hDc := zDL hD
  rcases hc : fRG_order P S x0 x1 x2 with k | y
  · rcases fRG_order_cs hc with rfl | rfl
    · skip
      refine tq_catch (hp := 22) (tq_runV (As := [.int x0, .int x1, .int x2]) (rest := [.int 0, .ref qo]) ⟨hx, hb, hml, hown, zno⟩ (tRG_order_T1 l dC dI cI cZ cJ cA a0 s0 o b hfl P S s.heap.size x0 x1 x2 gP gS hc) (zcw 3 (hB.word (zm3 k3_123) rfl) (hB.word (zm1 k1_1) rfl) (hB.word (zm3 k3_120) rfl) (hB.word (zm3 k3_121) rfl) (hB.word (zm3 k3_122) rfl) rfl rfl (by decide +kernel) ⟨Nat.le_of_ble_eq_true rfl, Nat.le_of_ble_eq_true rfl⟩) ⟨zP_blind, va_recv hK hPc (ci := 0) (q0 := 0) rfl rfl, zP_pre hPc hK hDc hAD (zB_on hB hA0 hS)⟩ rfl rfl hl.1 rfl (lv_room (Nat.le_of_ble_eq_true rfl)) dLA_order_7 ⟨Nat.le_of_ble_eq_true rfl, Nat.le_of_ble_eq_true rfl⟩) hown htab (zsel1 (by decide) (by decide) (hB.word (zm2 k2_142) rfl) (zfit (args := #[]) (hB.word (zm2 k2_153) rfl))) hS (fun q h => hA q (Nat.le_trans hS.1 h)) (fun xq H1 locs hz1 hk1 hS => ?_)
      have hP := zKeep hP hk1
      refine lv_astore (lv' := [(5, .ref xq), (0, .ref (o 0)), (1, .int x0), (2, .int x1), (3, .int x2), (4, .ref qo)]) hx hb dLA_order_22 hl (by decide) rfl (fun ls hl => ?_)
      refine lv_iconst (v := 1) hx hb dLA_order_24 (by decide) ?_
      exact W.iret (v := 1) hx hb hr (fun t ht hW => ⟨⟨1, (P, S, f), rfl, ⟨by unfold zH_order; rw [hc]; exact ⟨by decide, rfl⟩, gP, gS⟩, by rw [ht]; exact hP, hD⟩, hS.F ht⟩) hS.2.2 dLA_order_25
    · skip
      refine tq_catch (hp := 26) (tq_runV (As := [.int x0, .int x1, .int x2]) (rest := [.int 0, .ref qo]) ⟨hx, hb, hml, hown, zno⟩ (tRG_order_T2 l dC dI cI cZ cJ cA a0 s0 o b hfl P S s.heap.size x0 x1 x2 gP gS hc) (zcw 3 (hB.word (zm3 k3_123) rfl) (hB.word (zm1 k1_1) rfl) (hB.word (zm3 k3_120) rfl) (hB.word (zm3 k3_121) rfl) (hB.word (zm3 k3_122) rfl) rfl rfl (by decide +kernel) ⟨Nat.le_of_ble_eq_true rfl, Nat.le_of_ble_eq_true rfl⟩) ⟨zP_blind, va_recv hK hPc (ci := 0) (q0 := 0) rfl rfl, zP_pre hPc hK hDc hAD (zB_on hB hA0 hS)⟩ rfl rfl hl.1 rfl (lv_room (Nat.le_of_ble_eq_true rfl)) dLA_order_7 ⟨Nat.le_of_ble_eq_true rfl, Nat.le_of_ble_eq_true rfl⟩) hown htab (zsel2 (by decide) (by decide) (hB.word (zm2 k2_142) rfl) (znofit hB zno_ISE) (zsel1 (by decide) (by decide) (hB.word (zm2 k2_62) rfl) (zfit (args := #[]) (hB.word (zm2 k2_73) rfl)))) hS (fun q h => hA q (Nat.le_trans hS.1 h)) (fun xq H1 locs hz1 hk1 hS => ?_)
      have hP := zKeep hP hk1
      refine lv_astore (lv' := [(5, .ref xq), (0, .ref (o 0)), (1, .int x0), (2, .int x1), (3, .int x2), (4, .ref qo)]) hx hb dLA_order_26 hl (by decide) rfl (fun ls hl => ?_)
      refine lv_iconst (v := 2) hx hb dLA_order_28 (by decide) ?_
      exact W.iret (v := 2) hx hb hr (fun t ht hW => ⟨⟨2, (P, S, f), rfl, ⟨by unfold zH_order; rw [hc]; exact ⟨by decide, rfl⟩, gP, gS⟩, by rw [ht]; exact hP, hD⟩, hS.F ht⟩) hS.2.2 dLA_order_29
  · skip
    have gQ : zQ P := hQ.resolve_left (fRG_order_st hc)
    refine zcIL (va_runV (As := [.int x0, .int x1, .int x2]) (rest := [.int 0, .ref qo]) ⟨hx, hb, hml, hown, zno⟩ (tRG_order l dC dI cI cZ cJ cA a0 s0 o b P S s.heap.size x0 x1 x2 gP gS gQ r_x2 y hc) (zcw 3 (hB.word (zm3 k3_123) rfl) (hB.word (zm1 k1_1) rfl) (hB.word (zm3 k3_120) rfl) (hB.word (zm3 k3_121) rfl) (hB.word (zm3 k3_122) rfl) rfl rfl (by decide +kernel) ⟨Nat.le_of_ble_eq_true rfl, Nat.le_of_ble_eq_true rfl⟩) ⟨zP_blind, va_recv hK hPc (ci := 0) (q0 := 0) rfl rfl, zP_pre hPc hK hDc hAD (zB_on hB hA0 hS)⟩ rfl rfl hl.1 rfl (lv_room (Nat.le_of_ble_eq_true rfl)) dLA_order_7 ⟨Nat.le_of_ble_eq_true rfl, Nat.le_of_ble_eq_true rfl⟩) hP hD hS hA (fun k9 x9 H1 locs hq hP hD hS => ?_)
    generalize x9 = S1 at hq hP hD
    have gS1 := hq.2.1
    have ey := hq.1
    subst ey
    have hP : va_P (dC, dI) zCl (CW cI cZ cA o b P S1 ++ [(qo, .inl (cJ, 1, .inr (.inl f)))]) H1 := hP
    have hD : va_D A (CW cI cZ cA o b P S1 ++ [(qo, .inl (cJ, 1, .inr (.inl f)))]) := hD
    refine lv_if_eq (tgt := 17) hx hb dLA_order_10 (by decide) (fun cz => ?_) (fun cz => ?_)
    · skip
      refine lv_lconst (v := 0) hx hb dLA_order_17 (by decide) ?_
      refine va_last hx hb hK hP hD hS 84 2 (zAtL CW_len) rfl (i := 0) (by unfold vp_in; decide) dLA_order_18 (fun H locs hP hD hS => ?_)
      rw [zSetL CW_len] at hP hD
      refine lv_goto (tgt := 30) hx hb dLA_order_19 (by decide) ?_
      refine lv_iconst (v := 0) hx hb dLA_order_30 (by decide) ?_
      refine W.widen (k := 1) (n := 6) (Nat.le_of_ble_eq_true rfl) (Nat.le_of_ble_eq_true rfl) ?_
      exact W.iret (v := 0) hx hb hr (fun t ht hW => ⟨⟨0, (P, S1, (vp_updL f (0 : Int32).toNatClampNeg 0)), rfl, ⟨by unfold zH_order; rw [hc]; exact ⟨rfl, by show (P, S1, _) = (P, S1, vp_updL f _ (if k9 = 0 then (0 : Int64) else 1)); rw [if_pos cz]⟩, gP, gS1⟩, by rw [ht]; exact hP, hD⟩, hS.F ht⟩) hS.2.2 dLA_order_31
    · skip
      refine lv_lconst (v := 1) hx hb dLA_order_13 (by decide) ?_
      refine lv_goto (tgt := 18) hx hb dLA_order_14 (by decide) ?_
      refine va_last hx hb hK hP hD hS 84 2 (zAtL CW_len) rfl (i := 0) (by unfold vp_in; decide) dLA_order_18 (fun H locs hP hD hS => ?_)
      rw [zSetL CW_len] at hP hD
      refine lv_goto (tgt := 30) hx hb dLA_order_19 (by decide) ?_
      refine lv_iconst (v := 0) hx hb dLA_order_30 (by decide) ?_
      refine W.widen (k := 1) (n := 6) (Nat.le_of_ble_eq_true rfl) (Nat.le_of_ble_eq_true rfl) ?_
      exact W.iret (v := 0) hx hb hr (fun t ht hW => ⟨⟨0, (P, S1, (vp_updL f (0 : Int32).toNatClampNeg 1)), rfl, ⟨by unfold zH_order; rw [hc]; exact ⟨rfl, by show (P, S1, _) = (P, S1, vp_updL f _ (if k9 = 0 then (0 : Int64) else 1)); rw [if_neg cz]⟩, gP, gS1⟩, by rw [ht]; exact hP, hD⟩, hS.F ht⟩) hS.2.2 dLA_order_31
theorem k3_145 : tables_1_3[145]? = some (Jvm.Cond.methodLink "RingGuardLaw" (43 : Nat) ({ cls := "RingGuard", name := "clear", desc := "(II)Z" } : Jvm.MethodName)) := by decide +kernel
theorem k3_146 : tables_1_3[146]? = some (Jvm.Cond.instanceMethod ({ cls := "RingGuard", name := "clear", desc := "(II)Z" } : Jvm.MethodName)) := by decide +kernel
theorem k3_147 : tables_1_3[147]? = some (Jvm.Cond.selects "RingGuard" ({ cls := "RingGuard", name := "clear", desc := "(II)Z" } : Jvm.MethodName) ({ cls := "RingGuard", name := "clear", desc := "(II)Z" } : Jvm.MethodName)) := by decide +kernel
theorem k3_148 : tables_1_3[148]? = some (Jvm.Cond.code ({ cls := "RingGuard", name := "clear", desc := "(II)Z" } : Jvm.MethodName) prog_1_method_10_code (4 : Nat) (Option.some Jvm.ClassFile.FieldType.boolean)) := rfl
theorem k3_153 : tables_1_3[153]? = some (Jvm.Cond.methodLink "RingGuardLaw" (47 : Nat) ({ cls := "RingGuard", name := "ticks", desc := "(I)I" } : Jvm.MethodName)) := by decide +kernel
theorem k3_154 : tables_1_3[154]? = some (Jvm.Cond.instanceMethod ({ cls := "RingGuard", name := "ticks", desc := "(I)I" } : Jvm.MethodName)) := by decide +kernel
theorem k3_155 : tables_1_3[155]? = some (Jvm.Cond.selects "RingGuard" ({ cls := "RingGuard", name := "ticks", desc := "(I)I" } : Jvm.MethodName) ({ cls := "RingGuard", name := "ticks", desc := "(I)I" } : Jvm.MethodName)) := by decide +kernel
theorem k3_156 : tables_1_3[156]? = some (Jvm.Cond.code ({ cls := "RingGuard", name := "ticks", desc := "(I)I" } : Jvm.MethodName) prog_1_method_11_code (4 : Nat) (Option.some Jvm.ClassFile.FieldType.int)) := rfl
theorem k4_23 : tables_1_4[23]? = some (Jvm.Cond.methodLink "RingGuardLaw" (51 : Nat) ({ cls := "RingGuard", name := "host", desc := "(II)I" } : Jvm.MethodName)) := by decide +kernel
theorem k4_24 : tables_1_4[24]? = some (Jvm.Cond.instanceMethod ({ cls := "RingGuard", name := "host", desc := "(II)I" } : Jvm.MethodName)) := by decide +kernel
theorem k4_25 : tables_1_4[25]? = some (Jvm.Cond.selects "RingGuard" ({ cls := "RingGuard", name := "host", desc := "(II)I" } : Jvm.MethodName) ({ cls := "RingGuard", name := "host", desc := "(II)I" } : Jvm.MethodName)) := by decide +kernel
theorem k4_26 : tables_1_4[26]? = some (Jvm.Cond.code ({ cls := "RingGuard", name := "host", desc := "(II)I" } : Jvm.MethodName) prog_1_method_12_code (4 : Nat) (Option.some Jvm.ClassFile.FieldType.int)) := rfl
theorem k4_39 : tables_1_4[39]? = some (Jvm.Cond.methodLink "RingGuardLaw" (54 : Nat) ({ cls := "RingGuard", name := "send", desc := "(III)I" } : Jvm.MethodName)) := by decide +kernel
theorem k4_40 : tables_1_4[40]? = some (Jvm.Cond.instanceMethod ({ cls := "RingGuard", name := "send", desc := "(III)I" } : Jvm.MethodName)) := by decide +kernel
theorem k4_41 : tables_1_4[41]? = some (Jvm.Cond.selects "RingGuard" ({ cls := "RingGuard", name := "send", desc := "(III)I" } : Jvm.MethodName) ({ cls := "RingGuard", name := "send", desc := "(III)I" } : Jvm.MethodName)) := by decide +kernel
theorem k4_42 : tables_1_4[42]? = some (Jvm.Cond.code ({ cls := "RingGuard", name := "send", desc := "(III)I" } : Jvm.MethodName) prog_1_method_13_code (4 : Nat) (Option.some Jvm.ClassFile.FieldType.int)) := rfl
theorem k4_81 : tables_1_4[81]? = some (Jvm.Cond.methodLink "RingGuardLaw" (57 : Nat) ({ cls := "RingGuard", name := "holds", desc := "(II)I" } : Jvm.MethodName)) := by decide +kernel
theorem k4_82 : tables_1_4[82]? = some (Jvm.Cond.instanceMethod ({ cls := "RingGuard", name := "holds", desc := "(II)I" } : Jvm.MethodName)) := by decide +kernel
theorem k4_83 : tables_1_4[83]? = some (Jvm.Cond.selects "RingGuard" ({ cls := "RingGuard", name := "holds", desc := "(II)I" } : Jvm.MethodName) ({ cls := "RingGuard", name := "holds", desc := "(II)I" } : Jvm.MethodName)) := by decide +kernel
theorem k4_84 : tables_1_4[84]? = some (Jvm.Cond.code ({ cls := "RingGuard", name := "holds", desc := "(II)I" } : Jvm.MethodName) prog_1_method_15_code (3 : Nat) (Option.some Jvm.ClassFile.FieldType.int)) := rfl
theorem k4_88 : tables_1_4[88]? = some (Jvm.Cond.methodLink "RingGuardLaw" (60 : Nat) ({ cls := "RingGuard", name := "told", desc := "(III)I" } : Jvm.MethodName)) := by decide +kernel
theorem k4_89 : tables_1_4[89]? = some (Jvm.Cond.instanceMethod ({ cls := "RingGuard", name := "told", desc := "(III)I" } : Jvm.MethodName)) := by decide +kernel
theorem k4_90 : tables_1_4[90]? = some (Jvm.Cond.selects "RingGuard" ({ cls := "RingGuard", name := "told", desc := "(III)I" } : Jvm.MethodName) ({ cls := "RingGuard", name := "told", desc := "(III)I" } : Jvm.MethodName)) := by decide +kernel
theorem k4_91 : tables_1_4[91]? = some (Jvm.Cond.code ({ cls := "RingGuard", name := "told", desc := "(III)I" } : Jvm.MethodName) prog_1_method_16_code (4 : Nat) (Option.some Jvm.ClassFile.FieldType.int)) := rfl
theorem k4_96 : tables_1_4[96]? = some (Jvm.Cond.methodLink "RingGuardLaw" (63 : Nat) ({ cls := "RingGuard", name := "learned", desc := "(III)I" } : Jvm.MethodName)) := by decide +kernel
theorem k4_97 : tables_1_4[97]? = some (Jvm.Cond.instanceMethod ({ cls := "RingGuard", name := "learned", desc := "(III)I" } : Jvm.MethodName)) := by decide +kernel
theorem k4_98 : tables_1_4[98]? = some (Jvm.Cond.selects "RingGuard" ({ cls := "RingGuard", name := "learned", desc := "(III)I" } : Jvm.MethodName) ({ cls := "RingGuard", name := "learned", desc := "(III)I" } : Jvm.MethodName)) := by decide +kernel
theorem k4_99 : tables_1_4[99]? = some (Jvm.Cond.code ({ cls := "RingGuard", name := "learned", desc := "(III)I" } : Jvm.MethodName) prog_1_method_17_code (4 : Nat) (Option.some Jvm.ClassFile.FieldType.int)) := rfl
theorem k4_104 : tables_1_4[104]? = some (Jvm.Cond.methodLink "RingGuardLaw" (66 : Nat) ({ cls := "RingGuard", name := "joined", desc := "(II)Z" } : Jvm.MethodName)) := by decide +kernel
theorem k4_105 : tables_1_4[105]? = some (Jvm.Cond.instanceMethod ({ cls := "RingGuard", name := "joined", desc := "(II)Z" } : Jvm.MethodName)) := by decide +kernel
theorem k4_106 : tables_1_4[106]? = some (Jvm.Cond.selects "RingGuard" ({ cls := "RingGuard", name := "joined", desc := "(II)Z" } : Jvm.MethodName) ({ cls := "RingGuard", name := "joined", desc := "(II)Z" } : Jvm.MethodName)) := by decide +kernel
theorem k4_107 : tables_1_4[107]? = some (Jvm.Cond.code ({ cls := "RingGuard", name := "joined", desc := "(II)Z" } : Jvm.MethodName) prog_1_method_18_code (3 : Nat) (Option.some Jvm.ClassFile.FieldType.boolean)) := rfl
abbrev yLA_clear : MethodName := ⟨"RingGuardLaw", "clear", "(LRingGuard;II[J)I"⟩
abbrev bLA_clear : ByteArray := method_11_code
abbrev yLA_ticks : MethodName := ⟨"RingGuardLaw", "ticks", "(LRingGuard;I[J)I"⟩
abbrev bLA_ticks : ByteArray := method_12_code
abbrev yLA_host : MethodName := ⟨"RingGuardLaw", "host", "(LRingGuard;II[J)I"⟩
abbrev bLA_host : ByteArray := method_13_code
abbrev yLA_send : MethodName := ⟨"RingGuardLaw", "send", "(LRingGuard;III[J)I"⟩
abbrev bLA_send : ByteArray := method_14_code
abbrev yLA_holds : MethodName := ⟨"RingGuardLaw", "holds", "(LRingGuard;II[J)I"⟩
abbrev bLA_holds : ByteArray := method_15_code
abbrev yLA_told : MethodName := ⟨"RingGuardLaw", "told", "(LRingGuard;III[J)I"⟩
abbrev bLA_told : ByteArray := method_16_code
abbrev yLA_learned : MethodName := ⟨"RingGuardLaw", "learned", "(LRingGuard;III[J)I"⟩
abbrev bLA_learned : ByteArray := method_17_code
abbrev yLA_joined : MethodName := ⟨"RingGuardLaw", "joined", "(LRingGuard;II[J)I"⟩
abbrev bLA_joined : ByteArray := method_18_code
theorem dLA_clear_0 : decode bLA_clear 0 = .ok (.aload_n 3, 1) := by decide +kernel
theorem dLA_clear_1 : decode bLA_clear 1 = .ok (.iconst 0, 1) := by decide +kernel
theorem dLA_clear_2 : decode bLA_clear 2 = .ok (.aload_n 0, 1) := by decide +kernel
theorem dLA_clear_3 : decode bLA_clear 3 = .ok (.iload_n 1, 1) := by decide +kernel
theorem dLA_clear_4 : decode bLA_clear 4 = .ok (.iload_n 2, 1) := by decide +kernel
theorem dLA_clear_5 : decode bLA_clear 5 = .ok (.invokevirtual 43, 3) := by decide +kernel
theorem dLA_clear_8 : decode bLA_clear 8 = .ok (.ifCond .eq 7, 3) := by decide +kernel
theorem dLA_clear_11 : decode bLA_clear 11 = .ok (.lconst 1, 1) := by decide +kernel
theorem dLA_clear_12 : decode bLA_clear 12 = .ok (.goto 4, 3) := by decide +kernel
theorem dLA_clear_15 : decode bLA_clear 15 = .ok (.lconst 0, 1) := by decide +kernel
theorem dLA_clear_16 : decode bLA_clear 16 = .ok (.lastore, 1) := by decide +kernel
theorem dLA_clear_17 : decode bLA_clear 17 = .ok (.goto 11, 3) := by decide +kernel
theorem dLA_clear_20 : decode bLA_clear 20 = .ok (.astore 4, 2) := by decide +kernel
theorem dLA_clear_22 : decode bLA_clear 22 = .ok (.iconst 1, 1) := by decide +kernel
theorem dLA_clear_23 : decode bLA_clear 23 = .ok (.ireturn, 1) := by decide +kernel
theorem dLA_clear_24 : decode bLA_clear 24 = .ok (.astore 4, 2) := by decide +kernel
theorem dLA_clear_26 : decode bLA_clear 26 = .ok (.iconst 2, 1) := by decide +kernel
theorem dLA_clear_27 : decode bLA_clear 27 = .ok (.ireturn, 1) := by decide +kernel
theorem dLA_clear_28 : decode bLA_clear 28 = .ok (.iconst 0, 1) := by decide +kernel
theorem dLA_clear_29 : decode bLA_clear 29 = .ok (.ireturn, 1) := by decide +kernel
theorem dLA_holds_0 : decode bLA_holds 0 = .ok (.aload_n 3, 1) := by decide +kernel
theorem dLA_holds_1 : decode bLA_holds 1 = .ok (.iconst 0, 1) := by decide +kernel
theorem dLA_holds_2 : decode bLA_holds 2 = .ok (.aload_n 0, 1) := by decide +kernel
theorem dLA_holds_3 : decode bLA_holds 3 = .ok (.iload_n 1, 1) := by decide +kernel
theorem dLA_holds_4 : decode bLA_holds 4 = .ok (.iload_n 2, 1) := by decide +kernel
theorem dLA_holds_5 : decode bLA_holds 5 = .ok (.invokevirtual 57, 3) := by decide +kernel
theorem dLA_holds_8 : decode bLA_holds 8 = .ok (.i2l, 1) := by decide +kernel
theorem dLA_holds_9 : decode bLA_holds 9 = .ok (.lastore, 1) := by decide +kernel
theorem dLA_holds_10 : decode bLA_holds 10 = .ok (.goto 7, 3) := by decide +kernel
theorem dLA_holds_13 : decode bLA_holds 13 = .ok (.astore 4, 2) := by decide +kernel
theorem dLA_holds_15 : decode bLA_holds 15 = .ok (.iconst 1, 1) := by decide +kernel
theorem dLA_holds_16 : decode bLA_holds 16 = .ok (.ireturn, 1) := by decide +kernel
theorem dLA_holds_17 : decode bLA_holds 17 = .ok (.iconst 0, 1) := by decide +kernel
theorem dLA_holds_18 : decode bLA_holds 18 = .ok (.ireturn, 1) := by decide +kernel
theorem dLA_host_0 : decode bLA_host 0 = .ok (.aload_n 3, 1) := by decide +kernel
theorem dLA_host_1 : decode bLA_host 1 = .ok (.iconst 0, 1) := by decide +kernel
theorem dLA_host_2 : decode bLA_host 2 = .ok (.aload_n 0, 1) := by decide +kernel
theorem dLA_host_3 : decode bLA_host 3 = .ok (.iload_n 1, 1) := by decide +kernel
theorem dLA_host_4 : decode bLA_host 4 = .ok (.iload_n 2, 1) := by decide +kernel
theorem dLA_host_5 : decode bLA_host 5 = .ok (.invokevirtual 51, 3) := by decide +kernel
theorem dLA_host_8 : decode bLA_host 8 = .ok (.i2l, 1) := by decide +kernel
theorem dLA_host_9 : decode bLA_host 9 = .ok (.lastore, 1) := by decide +kernel
theorem dLA_host_10 : decode bLA_host 10 = .ok (.goto 11, 3) := by decide +kernel
theorem dLA_host_13 : decode bLA_host 13 = .ok (.astore 4, 2) := by decide +kernel
theorem dLA_host_15 : decode bLA_host 15 = .ok (.iconst 1, 1) := by decide +kernel
theorem dLA_host_16 : decode bLA_host 16 = .ok (.ireturn, 1) := by decide +kernel
theorem dLA_host_17 : decode bLA_host 17 = .ok (.astore 4, 2) := by decide +kernel
theorem dLA_host_19 : decode bLA_host 19 = .ok (.iconst 2, 1) := by decide +kernel
theorem dLA_host_20 : decode bLA_host 20 = .ok (.ireturn, 1) := by decide +kernel
theorem dLA_host_21 : decode bLA_host 21 = .ok (.iconst 0, 1) := by decide +kernel
theorem dLA_host_22 : decode bLA_host 22 = .ok (.ireturn, 1) := by decide +kernel
theorem dLA_joined_0 : decode bLA_joined 0 = .ok (.aload_n 3, 1) := by decide +kernel
theorem dLA_joined_1 : decode bLA_joined 1 = .ok (.iconst 0, 1) := by decide +kernel
theorem dLA_joined_2 : decode bLA_joined 2 = .ok (.aload_n 0, 1) := by decide +kernel
theorem dLA_joined_3 : decode bLA_joined 3 = .ok (.iload_n 1, 1) := by decide +kernel
theorem dLA_joined_4 : decode bLA_joined 4 = .ok (.iload_n 2, 1) := by decide +kernel
theorem dLA_joined_5 : decode bLA_joined 5 = .ok (.invokevirtual 66, 3) := by decide +kernel
theorem dLA_joined_8 : decode bLA_joined 8 = .ok (.ifCond .eq 7, 3) := by decide +kernel
theorem dLA_joined_11 : decode bLA_joined 11 = .ok (.lconst 1, 1) := by decide +kernel
theorem dLA_joined_12 : decode bLA_joined 12 = .ok (.goto 4, 3) := by decide +kernel
theorem dLA_joined_15 : decode bLA_joined 15 = .ok (.lconst 0, 1) := by decide +kernel
theorem dLA_joined_16 : decode bLA_joined 16 = .ok (.lastore, 1) := by decide +kernel
theorem dLA_joined_17 : decode bLA_joined 17 = .ok (.goto 7, 3) := by decide +kernel
theorem dLA_joined_20 : decode bLA_joined 20 = .ok (.astore 4, 2) := by decide +kernel
theorem dLA_joined_22 : decode bLA_joined 22 = .ok (.iconst 1, 1) := by decide +kernel
theorem dLA_joined_23 : decode bLA_joined 23 = .ok (.ireturn, 1) := by decide +kernel
theorem dLA_joined_24 : decode bLA_joined 24 = .ok (.iconst 0, 1) := by decide +kernel
theorem dLA_joined_25 : decode bLA_joined 25 = .ok (.ireturn, 1) := by decide +kernel
theorem dLA_learned_0 : decode bLA_learned 0 = .ok (.aload 4, 2) := by decide +kernel
theorem dLA_learned_2 : decode bLA_learned 2 = .ok (.iconst 0, 1) := by decide +kernel
theorem dLA_learned_3 : decode bLA_learned 3 = .ok (.aload_n 0, 1) := by decide +kernel
theorem dLA_learned_4 : decode bLA_learned 4 = .ok (.iload_n 1, 1) := by decide +kernel
theorem dLA_learned_5 : decode bLA_learned 5 = .ok (.iload_n 2, 1) := by decide +kernel
theorem dLA_learned_6 : decode bLA_learned 6 = .ok (.iload_n 3, 1) := by decide +kernel
theorem dLA_learned_7 : decode bLA_learned 7 = .ok (.invokevirtual 63, 3) := by decide +kernel
theorem dLA_learned_10 : decode bLA_learned 10 = .ok (.i2l, 1) := by decide +kernel
theorem dLA_learned_11 : decode bLA_learned 11 = .ok (.lastore, 1) := by decide +kernel
theorem dLA_learned_12 : decode bLA_learned 12 = .ok (.goto 7, 3) := by decide +kernel
theorem dLA_learned_15 : decode bLA_learned 15 = .ok (.astore 5, 2) := by decide +kernel
theorem dLA_learned_17 : decode bLA_learned 17 = .ok (.iconst 1, 1) := by decide +kernel
theorem dLA_learned_18 : decode bLA_learned 18 = .ok (.ireturn, 1) := by decide +kernel
theorem dLA_learned_19 : decode bLA_learned 19 = .ok (.iconst 0, 1) := by decide +kernel
theorem dLA_learned_20 : decode bLA_learned 20 = .ok (.ireturn, 1) := by decide +kernel
theorem dLA_send_0 : decode bLA_send 0 = .ok (.aload 4, 2) := by decide +kernel
theorem dLA_send_2 : decode bLA_send 2 = .ok (.iconst 0, 1) := by decide +kernel
theorem dLA_send_3 : decode bLA_send 3 = .ok (.aload_n 0, 1) := by decide +kernel
theorem dLA_send_4 : decode bLA_send 4 = .ok (.iload_n 1, 1) := by decide +kernel
theorem dLA_send_5 : decode bLA_send 5 = .ok (.iload_n 2, 1) := by decide +kernel
theorem dLA_send_6 : decode bLA_send 6 = .ok (.iload_n 3, 1) := by decide +kernel
theorem dLA_send_7 : decode bLA_send 7 = .ok (.invokevirtual 54, 3) := by decide +kernel
theorem dLA_send_10 : decode bLA_send 10 = .ok (.i2l, 1) := by decide +kernel
theorem dLA_send_11 : decode bLA_send 11 = .ok (.lastore, 1) := by decide +kernel
theorem dLA_send_12 : decode bLA_send 12 = .ok (.goto 11, 3) := by decide +kernel
theorem dLA_send_15 : decode bLA_send 15 = .ok (.astore 5, 2) := by decide +kernel
theorem dLA_send_17 : decode bLA_send 17 = .ok (.iconst 1, 1) := by decide +kernel
theorem dLA_send_18 : decode bLA_send 18 = .ok (.ireturn, 1) := by decide +kernel
theorem dLA_send_19 : decode bLA_send 19 = .ok (.astore 5, 2) := by decide +kernel
theorem dLA_send_21 : decode bLA_send 21 = .ok (.iconst 2, 1) := by decide +kernel
theorem dLA_send_22 : decode bLA_send 22 = .ok (.ireturn, 1) := by decide +kernel
theorem dLA_send_23 : decode bLA_send 23 = .ok (.iconst 0, 1) := by decide +kernel
theorem dLA_send_24 : decode bLA_send 24 = .ok (.ireturn, 1) := by decide +kernel
theorem dLA_ticks_0 : decode bLA_ticks 0 = .ok (.aload_n 2, 1) := by decide +kernel
theorem dLA_ticks_1 : decode bLA_ticks 1 = .ok (.iconst 0, 1) := by decide +kernel
theorem dLA_ticks_2 : decode bLA_ticks 2 = .ok (.aload_n 0, 1) := by decide +kernel
theorem dLA_ticks_3 : decode bLA_ticks 3 = .ok (.iload_n 1, 1) := by decide +kernel
theorem dLA_ticks_4 : decode bLA_ticks 4 = .ok (.invokevirtual 47, 3) := by decide +kernel
theorem dLA_ticks_7 : decode bLA_ticks 7 = .ok (.i2l, 1) := by decide +kernel
theorem dLA_ticks_8 : decode bLA_ticks 8 = .ok (.lastore, 1) := by decide +kernel
theorem dLA_ticks_9 : decode bLA_ticks 9 = .ok (.goto 9, 3) := by decide +kernel
theorem dLA_ticks_12 : decode bLA_ticks 12 = .ok (.astore_n 3, 1) := by decide +kernel
theorem dLA_ticks_13 : decode bLA_ticks 13 = .ok (.iconst 1, 1) := by decide +kernel
theorem dLA_ticks_14 : decode bLA_ticks 14 = .ok (.ireturn, 1) := by decide +kernel
theorem dLA_ticks_15 : decode bLA_ticks 15 = .ok (.astore_n 3, 1) := by decide +kernel
theorem dLA_ticks_16 : decode bLA_ticks 16 = .ok (.iconst 2, 1) := by decide +kernel
theorem dLA_ticks_17 : decode bLA_ticks 17 = .ok (.ireturn, 1) := by decide +kernel
theorem dLA_ticks_18 : decode bLA_ticks 18 = .ok (.iconst 0, 1) := by decide +kernel
theorem dLA_ticks_19 : decode bLA_ticks 19 = .ok (.ireturn, 1) := by decide +kernel
theorem dLA_told_0 : decode bLA_told 0 = .ok (.aload 4, 2) := by decide +kernel
theorem dLA_told_2 : decode bLA_told 2 = .ok (.iconst 0, 1) := by decide +kernel
theorem dLA_told_3 : decode bLA_told 3 = .ok (.aload_n 0, 1) := by decide +kernel
theorem dLA_told_4 : decode bLA_told 4 = .ok (.iload_n 1, 1) := by decide +kernel
theorem dLA_told_5 : decode bLA_told 5 = .ok (.iload_n 2, 1) := by decide +kernel
theorem dLA_told_6 : decode bLA_told 6 = .ok (.iload_n 3, 1) := by decide +kernel
theorem dLA_told_7 : decode bLA_told 7 = .ok (.invokevirtual 60, 3) := by decide +kernel
theorem dLA_told_10 : decode bLA_told 10 = .ok (.i2l, 1) := by decide +kernel
theorem dLA_told_11 : decode bLA_told 11 = .ok (.lastore, 1) := by decide +kernel
theorem dLA_told_12 : decode bLA_told 12 = .ok (.goto 7, 3) := by decide +kernel
theorem dLA_told_15 : decode bLA_told 15 = .ok (.astore 5, 2) := by decide +kernel
theorem dLA_told_17 : decode bLA_told 17 = .ok (.iconst 1, 1) := by decide +kernel
theorem dLA_told_18 : decode bLA_told 18 = .ok (.ireturn, 1) := by decide +kernel
theorem dLA_told_19 : decode bLA_told 19 = .ok (.iconst 0, 1) := by decide +kernel
theorem dLA_told_20 : decode bLA_told 20 = .ok (.ireturn, 1) := by decide +kernel
/-- what the helper leaves and answers -/
def zH_clear (P S : ZS) (f : Nat → Int64) (x0 : Int32) (x1 : Int32) (r : Int32) (w : ZS × ZS × (Nat → Int64)) : Prop := match fRG_clear P S x0 x1 with
  | .error k => r = (if k = 1 then 1 else 2) ∧ w = (P, S, f)
  | .ok z => r = 0 ∧ w = (P, z.1, vp_updL f (0 : Int32).toNatClampNeg ((if z.2 = 0 then (0 : Int64) else 1)))
theorem fRG_clear_cs {P S : ZS} {x0 x1 : Int32} {k : Nat} (h : fRG_clear P S x0 x1 = .error k) : k = 1 ∨ k = 2 := by
  simp only [fRG_clear, zbind] at h
  repeat' split at h
  all_goals first | (cases h; exact Or.inl rfl) | (cases h; exact Or.inr rfl) | (cases h; first | exact Or.inl (fRG_requireBridge_c (by assumption)) | exact Or.inl (fRG_requireRing_c (by assumption)) | exact Or.inr (fRG_requireStarted_c (by assumption))) | cases h
theorem fRG_clear_st {P S : ZS} {x0 x1 : Int32} {y : ZS × Int32} (h : fRG_clear P S x0 x1 = .ok y) : ¬ P.I 2 = 0 := by
  simp only [fRG_clear, zbind, zl] at h
  repeat' split at h
  all_goals first | exact zk_rS (by assumption) | cases h
set_option maxHeartbeats 4000000 in
set_option maxRecDepth 100000 in
theorem tLA_clear (l : Launch) (dC : Nat → ClassId) (dI : Nat → Nat → Nat) (cI cZ cJ cA : ClassId) (a0 : Array Value) (s0 : State) (o b : Nat → Nat) (hfl : l.flags = Jvm.pinnedFlags ++ [Jvm.noTraceFlag]) (P S : ZS) (f : Nat → Int64) (qo sz : Nat) (x0 : Int32) (x1 : Int32) (gP : cok P) (gS : cok S) (hQ : P.I 2 = 0 ∨ zQ P) : Met l yLA_clear [Cond.codeWith yLA_clear bLA_clear 5 (some .int) [(0, 17, 20, 19), (0, 17, 24, 13)]] ({ frames := 8, cells := 1, slots := 6, locals := 134 } : Room) (zP zCl dC dI (zTZ cI cZ cJ cA) a0 s0 [.ref (o 0), .int x0, .int x1, .ref qo] sz (CW cI cZ cA o b P S ++ [(qo, .inl (cJ, 1, .inr (.inl f)))])) (zQH zCl dC dI (fun (r : Int32) (x9 : ZS × ZS × (Nat → Int64)) => zH_clear P S f x0 x1 r x9 ∧ cok x9.1 ∧ cok x9.2.1) (fun x9 : ZS × ZS × (Nat → Int64) => (CW cI cZ cA o b x9.1 x9.2.1 ++ [(qo, .inl (cJ, 1, .inr (.inl x9.2.2)))])) (va_A (CW cI cZ cA o b P S ++ [(qo, .inl (cJ, 1, .inr (.inl f)))]) sz)) 1 6 (va_A (CW cI cZ cA o b P S ++ [(qo, .inl (cJ, 1, .inr (.inl f)))]) sz) := by
  refine tq_ofWith (cc := bLA_clear) (maxL := 5) (ret := (some .int)) (hs := [(0, 17, 20, 19), (0, 17, 24, 13)]) (by decide) rfl ?_
  intro p e s m args below meth c s₁ B hml htab hv
  obtain ⟨rfl, hsz, hP, hK, hD0, hB⟩ := hv
  have hx := B.exec
  have hb := B.bytes
  have hr := B.returns
  have hown : s.vm.findClass "RingGuardLaw" = some m.cls := findClass_of_methodNamed B.named
  have hlocks := B.notSynchronized
  subst hsz
  have hD := hD0.self (sz := s.heap.size)
  have hA0 := zA0 hD0 hB
  generalize hAe : va_A (CW cI cZ cA o b P S ++ [(qo, .inl (cJ, 1, .inr (.inl f)))]) s.heap.size = A at hD hA0 ⊢
  have hAD := hA0
  have hA : ∀ q : Nat, s.heap.size ≤ q → A q := fun q h => by rw [← hAe]; exact Or.inr h
  have hS : va_S A s.heap s.heap [] := va_S.rf
  have hl := lv_entry ([.ref (o 0), .int x0, .int x1, .ref qo]) (n := 5) (Nat.le_of_ble_eq_true rfl)
  rw [lg_entry_eq]
  generalize (lg_sl ([.ref (o 0), .int x0, .int x1, .ref qo]) ++ List.replicate (5 - (lg_sl ([.ref (o 0), .int x0, .int x1, .ref qo])).length) Slot.unset).toArray = ls at hl ⊢
  have hl : lv_has ls 5 [(0, .ref (o 0)), (1, .int x0), (2, .int x1), (3, .ref qo)] := hl
  refine lv_aload_n hx hb dLA_clear_0 rfl (lv_at hl 3 rfl) ?_
  refine lv_iconst (v := 0) hx hb dLA_clear_1 (by decide) ?_
  refine lv_aload_n hx hb dLA_clear_2 rfl (lv_at hl 0 rfl) ?_
  refine lv_iload_n hx hb dLA_clear_3 rfl (lv_at hl 1 rfl) ?_
  refine lv_iload_n hx hb dLA_clear_4 rfl (lv_at hl 2 rfl) ?_
  have hPc := zPL hP
  have hDc := zDL hD
  rcases hc : fRG_clear P S x0 x1 with k | y
  · rcases fRG_clear_cs hc with rfl | rfl
    · skip
      refine tq_catch (hp := 20) (tq_runV (As := [.int x0, .int x1]) (rest := [.int 0, .ref qo]) ⟨hx, hb, hml, hown, zno⟩ (tRG_clear_T1 l dC dI cI cZ cJ cA a0 s0 o b hfl P S s.heap.size x0 x1 gP gS hc) (zcw 2 (hB.word (zm3 k3_148) rfl) (hB.word (zm1 k1_1) rfl) (hB.word (zm3 k3_145) rfl) (hB.word (zm3 k3_146) rfl) (hB.word (zm3 k3_147) rfl) rfl rfl (by decide +kernel) ⟨Nat.le_of_ble_eq_true rfl, Nat.le_of_ble_eq_true rfl⟩) ⟨zP_blind, va_recv hK hPc (ci := 0) (q0 := 0) rfl rfl, zP_pre hPc hK hDc hAD (zB_on hB hA0 hS)⟩ rfl rfl hl.1 rfl (lv_room (Nat.le_of_ble_eq_true rfl)) dLA_clear_5 ⟨Nat.le_of_ble_eq_true rfl, Nat.le_of_ble_eq_true rfl⟩) hown htab (zsel1 (by decide) (by decide) (hB.word (zm2 k2_142) rfl) (zfit (args := #[]) (hB.word (zm2 k2_153) rfl))) hS (fun q h => hA q (Nat.le_trans hS.1 h)) (fun xq H1 locs hz1 hk1 hS => ?_)
      have hP := zKeep hP hk1
      refine lv_astore (lv' := [(4, .ref xq), (0, .ref (o 0)), (1, .int x0), (2, .int x1), (3, .ref qo)]) hx hb dLA_clear_20 hl (by decide) rfl (fun ls hl => ?_)
      refine lv_iconst (v := 1) hx hb dLA_clear_22 (by decide) ?_
      exact W.iret (v := 1) hx hb hr (fun t ht hW => ⟨⟨1, (P, S, f), rfl, ⟨by unfold zH_clear; rw [hc]; exact ⟨by decide, rfl⟩, gP, gS⟩, by rw [ht]; exact hP, hD⟩, hS.F ht⟩) hS.2.2 dLA_clear_23
    · skip
      refine tq_catch (hp := 24) (tq_runV (As := [.int x0, .int x1]) (rest := [.int 0, .ref qo]) ⟨hx, hb, hml, hown, zno⟩ (tRG_clear_T2 l dC dI cI cZ cJ cA a0 s0 o b hfl P S s.heap.size x0 x1 gP gS hc) (zcw 2 (hB.word (zm3 k3_148) rfl) (hB.word (zm1 k1_1) rfl) (hB.word (zm3 k3_145) rfl) (hB.word (zm3 k3_146) rfl) (hB.word (zm3 k3_147) rfl) rfl rfl (by decide +kernel) ⟨Nat.le_of_ble_eq_true rfl, Nat.le_of_ble_eq_true rfl⟩) ⟨zP_blind, va_recv hK hPc (ci := 0) (q0 := 0) rfl rfl, zP_pre hPc hK hDc hAD (zB_on hB hA0 hS)⟩ rfl rfl hl.1 rfl (lv_room (Nat.le_of_ble_eq_true rfl)) dLA_clear_5 ⟨Nat.le_of_ble_eq_true rfl, Nat.le_of_ble_eq_true rfl⟩) hown htab (zsel2 (by decide) (by decide) (hB.word (zm2 k2_142) rfl) (znofit hB zno_ISE) (zsel1 (by decide) (by decide) (hB.word (zm2 k2_62) rfl) (zfit (args := #[]) (hB.word (zm2 k2_73) rfl)))) hS (fun q h => hA q (Nat.le_trans hS.1 h)) (fun xq H1 locs hz1 hk1 hS => ?_)
      have hP := zKeep hP hk1
      refine lv_astore (lv' := [(4, .ref xq), (0, .ref (o 0)), (1, .int x0), (2, .int x1), (3, .ref qo)]) hx hb dLA_clear_24 hl (by decide) rfl (fun ls hl => ?_)
      refine lv_iconst (v := 2) hx hb dLA_clear_26 (by decide) ?_
      exact W.iret (v := 2) hx hb hr (fun t ht hW => ⟨⟨2, (P, S, f), rfl, ⟨by unfold zH_clear; rw [hc]; exact ⟨by decide, rfl⟩, gP, gS⟩, by rw [ht]; exact hP, hD⟩, hS.F ht⟩) hS.2.2 dLA_clear_27
  · skip
    have gQ : zQ P := hQ.resolve_left (fRG_clear_st hc)
    refine zcIL (va_runV (As := [.int x0, .int x1]) (rest := [.int 0, .ref qo]) ⟨hx, hb, hml, hown, zno⟩ (tRG_clear l dC dI cI cZ cJ cA a0 s0 o b P S s.heap.size x0 x1 gP gS gQ y hc) (zcw 2 (hB.word (zm3 k3_148) rfl) (hB.word (zm1 k1_1) rfl) (hB.word (zm3 k3_145) rfl) (hB.word (zm3 k3_146) rfl) (hB.word (zm3 k3_147) rfl) rfl rfl (by decide +kernel) ⟨Nat.le_of_ble_eq_true rfl, Nat.le_of_ble_eq_true rfl⟩) ⟨zP_blind, va_recv hK hPc (ci := 0) (q0 := 0) rfl rfl, zP_pre hPc hK hDc hAD (zB_on hB hA0 hS)⟩ rfl rfl hl.1 rfl (lv_room (Nat.le_of_ble_eq_true rfl)) dLA_clear_5 ⟨Nat.le_of_ble_eq_true rfl, Nat.le_of_ble_eq_true rfl⟩) hP hD hS hA (fun k9 x9 H1 locs hq hP hD hS => ?_)
    generalize x9 = S1 at hq hP hD
    have gS1 := hq.2.1
    have ey := hq.1
    subst ey
    have hP : va_P (dC, dI) zCl (CW cI cZ cA o b P S1 ++ [(qo, .inl (cJ, 1, .inr (.inl f)))]) H1 := hP
    have hD : va_D A (CW cI cZ cA o b P S1 ++ [(qo, .inl (cJ, 1, .inr (.inl f)))]) := hD
    refine lv_if_eq (tgt := 15) hx hb dLA_clear_8 (by decide) (fun cz => ?_) (fun cz => ?_)
    · skip
      refine lv_lconst (v := 0) hx hb dLA_clear_15 (by decide) ?_
      refine va_last hx hb hK hP hD hS 84 2 (zAtL CW_len) rfl (i := 0) (by unfold vp_in; decide) dLA_clear_16 (fun H locs hP hD hS => ?_)
      rw [zSetL CW_len] at hP hD
      refine lv_goto (tgt := 28) hx hb dLA_clear_17 (by decide) ?_
      refine lv_iconst (v := 0) hx hb dLA_clear_28 (by decide) ?_
      refine W.widen (k := 1) (n := 6) (Nat.le_of_ble_eq_true rfl) (Nat.le_of_ble_eq_true rfl) ?_
      exact W.iret (v := 0) hx hb hr (fun t ht hW => ⟨⟨0, (P, S1, (vp_updL f (0 : Int32).toNatClampNeg 0)), rfl, ⟨by unfold zH_clear; rw [hc]; exact ⟨rfl, by show (P, S1, _) = (P, S1, vp_updL f _ (if k9 = 0 then (0 : Int64) else 1)); rw [if_pos cz]⟩, gP, gS1⟩, by rw [ht]; exact hP, hD⟩, hS.F ht⟩) hS.2.2 dLA_clear_29
    · skip
      refine lv_lconst (v := 1) hx hb dLA_clear_11 (by decide) ?_
      refine lv_goto (tgt := 16) hx hb dLA_clear_12 (by decide) ?_
      refine va_last hx hb hK hP hD hS 84 2 (zAtL CW_len) rfl (i := 0) (by unfold vp_in; decide) dLA_clear_16 (fun H locs hP hD hS => ?_)
      rw [zSetL CW_len] at hP hD
      refine lv_goto (tgt := 28) hx hb dLA_clear_17 (by decide) ?_
      refine lv_iconst (v := 0) hx hb dLA_clear_28 (by decide) ?_
      refine W.widen (k := 1) (n := 6) (Nat.le_of_ble_eq_true rfl) (Nat.le_of_ble_eq_true rfl) ?_
      exact W.iret (v := 0) hx hb hr (fun t ht hW => ⟨⟨0, (P, S1, (vp_updL f (0 : Int32).toNatClampNeg 1)), rfl, ⟨by unfold zH_clear; rw [hc]; exact ⟨rfl, by show (P, S1, _) = (P, S1, vp_updL f _ (if k9 = 0 then (0 : Int64) else 1)); rw [if_neg cz]⟩, gP, gS1⟩, by rw [ht]; exact hP, hD⟩, hS.F ht⟩) hS.2.2 dLA_clear_29
/-- what the helper leaves and answers -/
def zH_ticks (P S : ZS) (f : Nat → Int64) (x0 : Int32) (r : Int32) (w : ZS × ZS × (Nat → Int64)) : Prop := match fRG_ticks P S x0 with
  | .error k => r = (if k = 1 then 1 else 2) ∧ w = (P, S, f)
  | .ok z => r = 0 ∧ w = (P, z.1, vp_updL f (0 : Int32).toNatClampNeg (z.2.toInt64))
theorem fRG_ticks_cs {P S : ZS} {x0 : Int32} {k : Nat} (h : fRG_ticks P S x0 = .error k) : k = 1 ∨ k = 2 := by
  simp only [fRG_ticks, fRG_ticks_12, zbind, zl] at h
  repeat' split at h
  all_goals first | (cases h; exact Or.inl rfl) | (cases h; exact Or.inr rfl) | (cases h; first | exact Or.inr (fRG_requireStarted_c (by assumption))) | cases h
theorem fRG_ticks_st {P S : ZS} {x0 : Int32} {y : ZS × Int32} (h : fRG_ticks P S x0 = .ok y) : ¬ P.I 2 = 0 := by
  simp only [fRG_ticks, fRG_ticks_12, zbind, zl] at h
  repeat' split at h
  all_goals first | exact zk_rS (by assumption) | cases h
set_option maxHeartbeats 4000000 in
set_option maxRecDepth 100000 in
theorem tLA_ticks (l : Launch) (dC : Nat → ClassId) (dI : Nat → Nat → Nat) (cI cZ cJ cA : ClassId) (a0 : Array Value) (s0 : State) (o b : Nat → Nat) (hfl : l.flags = Jvm.pinnedFlags ++ [Jvm.noTraceFlag]) (P S : ZS) (f : Nat → Int64) (qo sz : Nat) (x0 : Int32) (gP : cok P) (gS : cok S) (hQ : P.I 2 = 0 ∨ zQ P) : Met l yLA_ticks [Cond.codeWith yLA_ticks bLA_ticks 4 (some .int) [(0, 9, 12, 19), (0, 9, 15, 13)]] ({ frames := 8, cells := 1, slots := 6, locals := 167 } : Room) (zP zCl dC dI (zTZ cI cZ cJ cA) a0 s0 [.ref (o 0), .int x0, .ref qo] sz (CW cI cZ cA o b P S ++ [(qo, .inl (cJ, 1, .inr (.inl f)))])) (zQH zCl dC dI (fun (r : Int32) (x9 : (Nat → Nat) × (ZS × ZS × (Nat → Int64))) => zH_ticks P S f x0 r x9.2 ∧ cok x9.2.1 ∧ cok x9.2.2.1) (fun x9 : (Nat → Nat) × (ZS × ZS × (Nat → Int64)) => (CW cI cZ cA o x9.1 x9.2.1 x9.2.2.1 ++ [(qo, .inl (cJ, 1, .inr (.inl x9.2.2.2)))])) (va_A (CW cI cZ cA o b P S ++ [(qo, .inl (cJ, 1, .inr (.inl f)))]) sz)) 1 6 (va_A (CW cI cZ cA o b P S ++ [(qo, .inl (cJ, 1, .inr (.inl f)))]) sz) := by
  refine tq_ofWith (cc := bLA_ticks) (maxL := 4) (ret := (some .int)) (hs := [(0, 9, 12, 19), (0, 9, 15, 13)]) (by decide) rfl ?_
  intro p e s m args below meth c s₁ B hml htab hv
  obtain ⟨rfl, hsz, hP, hK, hD0, hB⟩ := hv
  have hx := B.exec
  have hb := B.bytes
  have hr := B.returns
  have hown : s.vm.findClass "RingGuardLaw" = some m.cls := findClass_of_methodNamed B.named
  have hlocks := B.notSynchronized
  subst hsz
  have hD := hD0.self (sz := s.heap.size)
  have hA0 := zA0 hD0 hB
  generalize hAe : va_A (CW cI cZ cA o b P S ++ [(qo, .inl (cJ, 1, .inr (.inl f)))]) s.heap.size = A at hD hA0 ⊢
  have hAD := hA0
  have hA : ∀ q : Nat, s.heap.size ≤ q → A q := fun q h => by rw [← hAe]; exact Or.inr h
  have hS : va_S A s.heap s.heap [] := va_S.rf
  have hl := lv_entry ([.ref (o 0), .int x0, .ref qo]) (n := 4) (Nat.le_of_ble_eq_true rfl)
  rw [lg_entry_eq]
  generalize (lg_sl ([.ref (o 0), .int x0, .ref qo]) ++ List.replicate (4 - (lg_sl ([.ref (o 0), .int x0, .ref qo])).length) Slot.unset).toArray = ls at hl ⊢
  have hl : lv_has ls 4 [(0, .ref (o 0)), (1, .int x0), (2, .ref qo)] := hl
  refine lv_aload_n hx hb dLA_ticks_0 rfl (lv_at hl 2 rfl) ?_
  refine lv_iconst (v := 0) hx hb dLA_ticks_1 (by decide) ?_
  refine lv_aload_n hx hb dLA_ticks_2 rfl (lv_at hl 0 rfl) ?_
  refine lv_iload_n hx hb dLA_ticks_3 rfl (lv_at hl 1 rfl) ?_
  have hPc := zPL hP
  have hDc := zDL hD
  rcases hc : fRG_ticks P S x0 with k | y
  · rcases fRG_ticks_cs hc with rfl | rfl
    · skip
      refine tq_catch (hp := 12) (tq_runV (As := [.int x0]) (rest := [.int 0, .ref qo]) ⟨hx, hb, hml, hown, zno⟩ (tRG_ticks_T1 l dC dI cI cZ cJ cA a0 s0 o b hfl P S s.heap.size x0 gP gS hc) (zcw 1 (hB.word (zm3 k3_156) rfl) (hB.word (zm1 k1_1) rfl) (hB.word (zm3 k3_153) rfl) (hB.word (zm3 k3_154) rfl) (hB.word (zm3 k3_155) rfl) rfl rfl (by decide +kernel) ⟨Nat.le_of_ble_eq_true rfl, Nat.le_of_ble_eq_true rfl⟩) ⟨zP_blind, va_recv hK hPc (ci := 0) (q0 := 0) rfl rfl, zP_pre hPc hK hDc hAD (zB_on hB hA0 hS)⟩ rfl rfl hl.1 rfl (lv_room (Nat.le_of_ble_eq_true rfl)) dLA_ticks_4 ⟨Nat.le_of_ble_eq_true rfl, Nat.le_of_ble_eq_true rfl⟩) hown htab (zsel1 (by decide) (by decide) (hB.word (zm2 k2_142) rfl) (zfit (args := #[]) (hB.word (zm2 k2_153) rfl))) hS (fun q h => hA q (Nat.le_trans hS.1 h)) (fun xq H1 locs hz1 hk1 hS => ?_)
      have hP := zKeep hP hk1
      refine lv_astore_n (lv' := [(3, .ref xq), (0, .ref (o 0)), (1, .int x0), (2, .ref qo)]) hx hb dLA_ticks_12 rfl hl (by decide) rfl (fun ls hl => ?_)
      refine lv_iconst (v := 1) hx hb dLA_ticks_13 (by decide) ?_
      exact W.iret (v := 1) hx hb hr (fun t ht hW => ⟨⟨1, (b, (P, S, f)), rfl, ⟨by unfold zH_ticks; rw [hc]; exact ⟨by decide, rfl⟩, gP, gS⟩, by rw [ht]; exact hP, hD⟩, hS.F ht⟩) hS.2.2 dLA_ticks_14
    · skip
      refine tq_catch (hp := 15) (tq_runV (As := [.int x0]) (rest := [.int 0, .ref qo]) ⟨hx, hb, hml, hown, zno⟩ (tRG_ticks_T2 l dC dI cI cZ cJ cA a0 s0 o b hfl P S s.heap.size x0 gP gS hc) (zcw 1 (hB.word (zm3 k3_156) rfl) (hB.word (zm1 k1_1) rfl) (hB.word (zm3 k3_153) rfl) (hB.word (zm3 k3_154) rfl) (hB.word (zm3 k3_155) rfl) rfl rfl (by decide +kernel) ⟨Nat.le_of_ble_eq_true rfl, Nat.le_of_ble_eq_true rfl⟩) ⟨zP_blind, va_recv hK hPc (ci := 0) (q0 := 0) rfl rfl, zP_pre hPc hK hDc hAD (zB_on hB hA0 hS)⟩ rfl rfl hl.1 rfl (lv_room (Nat.le_of_ble_eq_true rfl)) dLA_ticks_4 ⟨Nat.le_of_ble_eq_true rfl, Nat.le_of_ble_eq_true rfl⟩) hown htab (zsel2 (by decide) (by decide) (hB.word (zm2 k2_142) rfl) (znofit hB zno_ISE) (zsel1 (by decide) (by decide) (hB.word (zm2 k2_62) rfl) (zfit (args := #[]) (hB.word (zm2 k2_73) rfl)))) hS (fun q h => hA q (Nat.le_trans hS.1 h)) (fun xq H1 locs hz1 hk1 hS => ?_)
      have hP := zKeep hP hk1
      refine lv_astore_n (lv' := [(3, .ref xq), (0, .ref (o 0)), (1, .int x0), (2, .ref qo)]) hx hb dLA_ticks_15 rfl hl (by decide) rfl (fun ls hl => ?_)
      refine lv_iconst (v := 2) hx hb dLA_ticks_16 (by decide) ?_
      exact W.iret (v := 2) hx hb hr (fun t ht hW => ⟨⟨2, (b, (P, S, f)), rfl, ⟨by unfold zH_ticks; rw [hc]; exact ⟨by decide, rfl⟩, gP, gS⟩, by rw [ht]; exact hP, hD⟩, hS.F ht⟩) hS.2.2 dLA_ticks_17
  · skip
    have gQ : zQ P := hQ.resolve_left (fRG_ticks_st hc)
    refine zcIL (va_runV (As := [.int x0]) (rest := [.int 0, .ref qo]) ⟨hx, hb, hml, hown, zno⟩ (tRG_ticks l dC dI cI cZ cJ cA a0 s0 o b P S s.heap.size x0 gP gS gQ y hc) (zcw 1 (hB.word (zm3 k3_156) rfl) (hB.word (zm1 k1_1) rfl) (hB.word (zm3 k3_153) rfl) (hB.word (zm3 k3_154) rfl) (hB.word (zm3 k3_155) rfl) rfl rfl (by decide +kernel) ⟨Nat.le_of_ble_eq_true rfl, Nat.le_of_ble_eq_true rfl⟩) ⟨zP_blind, va_recv hK hPc (ci := 0) (q0 := 0) rfl rfl, zP_pre hPc hK hDc hAD (zB_on hB hA0 hS)⟩ rfl rfl hl.1 rfl (lv_room (Nat.le_of_ble_eq_true rfl)) dLA_ticks_4 ⟨Nat.le_of_ble_eq_true rfl, Nat.le_of_ble_eq_true rfl⟩) hP hD hS hA (fun k9 x9 H1 locs hq hP hD hS => ?_)
    obtain ⟨b1, S1⟩ := x9
    have gS1 := hq.2.1
    have ey := hq.1
    subst ey
    have hP : va_P (dC, dI) zCl (CW cI cZ cA o b1 P S1 ++ [(qo, .inl (cJ, 1, .inr (.inl f)))]) H1 := hP
    have hD : va_D A (CW cI cZ cA o b1 P S1 ++ [(qo, .inl (cJ, 1, .inr (.inl f)))]) := hD
    refine lv_i2l (v := k9.toInt64) hx hb dLA_ticks_7 rfl ?_
    refine va_last hx hb hK hP hD hS 84 2 (zAtL CW_len) rfl (i := 0) (by unfold vp_in; decide) dLA_ticks_8 (fun H locs hP hD hS => ?_)
    rw [zSetL CW_len] at hP hD
    refine lv_goto (tgt := 18) hx hb dLA_ticks_9 (by decide) ?_
    refine lv_iconst (v := 0) hx hb dLA_ticks_18 (by decide) ?_
    refine W.widen (k := 1) (n := 6) (Nat.le_of_ble_eq_true rfl) (Nat.le_of_ble_eq_true rfl) ?_
    exact W.iret (v := 0) hx hb hr (fun t ht hW => ⟨⟨0, (b1, (P, S1, (vp_updL f (0 : Int32).toNatClampNeg k9.toInt64))), rfl, ⟨by unfold zH_ticks; rw [hc]; exact ⟨rfl, rfl⟩, gP, gS1⟩, by rw [ht]; exact hP, hD⟩, hS.F ht⟩) hS.2.2 dLA_ticks_19
/-- what the helper leaves and answers -/
def zH_host (P S : ZS) (f : Nat → Int64) (x0 : Int32) (x1 : Int32) (r : Int32) (w : ZS × ZS × (Nat → Int64)) : Prop := match fRG_host P S x0 x1 with
  | .error k => r = (if k = 1 then 1 else 2) ∧ w = (P, S, f)
  | .ok z => r = 0 ∧ w = (P, z.1, vp_updL f (0 : Int32).toNatClampNeg (z.2.toInt64))
theorem fRG_host_cs {P S : ZS} {x0 x1 : Int32} {k : Nat} (h : fRG_host P S x0 x1 = .error k) : k = 1 ∨ k = 2 := by
  simp only [fRG_host, zbind] at h
  repeat' split at h
  all_goals first | (cases h; exact Or.inl rfl) | (cases h; exact Or.inr rfl) | (cases h; first | exact Or.inl (fRG_requireBridge_c (by assumption)) | exact Or.inl (fRG_requireHost_c (by assumption)) | exact Or.inr (fRG_requireStarted_c (by assumption))) | cases h
set_option maxHeartbeats 4000000 in
set_option maxRecDepth 100000 in
theorem tLA_host (l : Launch) (dC : Nat → ClassId) (dI : Nat → Nat → Nat) (cI cZ cJ cA : ClassId) (a0 : Array Value) (s0 : State) (o b : Nat → Nat) (hfl : l.flags = Jvm.pinnedFlags ++ [Jvm.noTraceFlag]) (P S : ZS) (f : Nat → Int64) (qo sz : Nat) (x0 : Int32) (x1 : Int32) (gP : cok P) (gS : cok S) : Met l yLA_host [Cond.codeWith yLA_host bLA_host 5 (some .int) [(0, 10, 13, 19), (0, 10, 17, 13)]] ({ frames := 8, cells := 1, slots := 6, locals := 134 } : Room) (zP zCl dC dI (zTZ cI cZ cJ cA) a0 s0 [.ref (o 0), .int x0, .int x1, .ref qo] sz (CW cI cZ cA o b P S ++ [(qo, .inl (cJ, 1, .inr (.inl f)))])) (zQH zCl dC dI (fun (r : Int32) (x9 : ZS × ZS × (Nat → Int64)) => zH_host P S f x0 x1 r x9 ∧ cok x9.1 ∧ cok x9.2.1) (fun x9 : ZS × ZS × (Nat → Int64) => (CW cI cZ cA o b x9.1 x9.2.1 ++ [(qo, .inl (cJ, 1, .inr (.inl x9.2.2)))])) (va_A (CW cI cZ cA o b P S ++ [(qo, .inl (cJ, 1, .inr (.inl f)))]) sz)) 1 6 (va_A (CW cI cZ cA o b P S ++ [(qo, .inl (cJ, 1, .inr (.inl f)))]) sz) := by
  refine tq_ofWith (cc := bLA_host) (maxL := 5) (ret := (some .int)) (hs := [(0, 10, 13, 19), (0, 10, 17, 13)]) (by decide) rfl ?_
  intro p e s m args below meth c s₁ B hml htab hv
  obtain ⟨rfl, hsz, hP, hK, hD0, hB⟩ := hv
  have hx := B.exec
  have hb := B.bytes
  have hr := B.returns
  have hown : s.vm.findClass "RingGuardLaw" = some m.cls := findClass_of_methodNamed B.named
  have hlocks := B.notSynchronized
  subst hsz
  have hD := hD0.self (sz := s.heap.size)
  have hA0 := zA0 hD0 hB
  generalize hAe : va_A (CW cI cZ cA o b P S ++ [(qo, .inl (cJ, 1, .inr (.inl f)))]) s.heap.size = A at hD hA0 ⊢
  have hAD := hA0
  have hA : ∀ q : Nat, s.heap.size ≤ q → A q := fun q h => by rw [← hAe]; exact Or.inr h
  have hS : va_S A s.heap s.heap [] := va_S.rf
  have hl := lv_entry ([.ref (o 0), .int x0, .int x1, .ref qo]) (n := 5) (Nat.le_of_ble_eq_true rfl)
  rw [lg_entry_eq]
  generalize (lg_sl ([.ref (o 0), .int x0, .int x1, .ref qo]) ++ List.replicate (5 - (lg_sl ([.ref (o 0), .int x0, .int x1, .ref qo])).length) Slot.unset).toArray = ls at hl ⊢
  have hl : lv_has ls 5 [(0, .ref (o 0)), (1, .int x0), (2, .int x1), (3, .ref qo)] := hl
  refine lv_aload_n hx hb dLA_host_0 rfl (lv_at hl 3 rfl) ?_
  refine lv_iconst (v := 0) hx hb dLA_host_1 (by decide) ?_
  refine lv_aload_n hx hb dLA_host_2 rfl (lv_at hl 0 rfl) ?_
  refine lv_iload_n hx hb dLA_host_3 rfl (lv_at hl 1 rfl) ?_
  refine lv_iload_n hx hb dLA_host_4 rfl (lv_at hl 2 rfl) ?_
  have hPc := zPL hP
  have hDc := zDL hD
  rcases hc : fRG_host P S x0 x1 with k | y
  · rcases fRG_host_cs hc with rfl | rfl
    · skip
      refine tq_catch (hp := 13) (tq_runV (As := [.int x0, .int x1]) (rest := [.int 0, .ref qo]) ⟨hx, hb, hml, hown, zno⟩ (tRG_host_T1 l dC dI cI cZ cJ cA a0 s0 o b hfl P S s.heap.size x0 x1 gP gS hc) (zcw 2 (hB.word (zm4 k4_26) rfl) (hB.word (zm1 k1_1) rfl) (hB.word (zm4 k4_23) rfl) (hB.word (zm4 k4_24) rfl) (hB.word (zm4 k4_25) rfl) rfl rfl (by decide +kernel) ⟨Nat.le_of_ble_eq_true rfl, Nat.le_of_ble_eq_true rfl⟩) ⟨zP_blind, va_recv hK hPc (ci := 0) (q0 := 0) rfl rfl, zP_pre hPc hK hDc hAD (zB_on hB hA0 hS)⟩ rfl rfl hl.1 rfl (lv_room (Nat.le_of_ble_eq_true rfl)) dLA_host_5 ⟨Nat.le_of_ble_eq_true rfl, Nat.le_of_ble_eq_true rfl⟩) hown htab (zsel1 (by decide) (by decide) (hB.word (zm2 k2_142) rfl) (zfit (args := #[]) (hB.word (zm2 k2_153) rfl))) hS (fun q h => hA q (Nat.le_trans hS.1 h)) (fun xq H1 locs hz1 hk1 hS => ?_)
      have hP := zKeep hP hk1
      refine lv_astore (lv' := [(4, .ref xq), (0, .ref (o 0)), (1, .int x0), (2, .int x1), (3, .ref qo)]) hx hb dLA_host_13 hl (by decide) rfl (fun ls hl => ?_)
      refine lv_iconst (v := 1) hx hb dLA_host_15 (by decide) ?_
      exact W.iret (v := 1) hx hb hr (fun t ht hW => ⟨⟨1, (P, S, f), rfl, ⟨by unfold zH_host; rw [hc]; exact ⟨by decide, rfl⟩, gP, gS⟩, by rw [ht]; exact hP, hD⟩, hS.F ht⟩) hS.2.2 dLA_host_16
    · skip
      refine tq_catch (hp := 17) (tq_runV (As := [.int x0, .int x1]) (rest := [.int 0, .ref qo]) ⟨hx, hb, hml, hown, zno⟩ (tRG_host_T2 l dC dI cI cZ cJ cA a0 s0 o b hfl P S s.heap.size x0 x1 gP gS hc) (zcw 2 (hB.word (zm4 k4_26) rfl) (hB.word (zm1 k1_1) rfl) (hB.word (zm4 k4_23) rfl) (hB.word (zm4 k4_24) rfl) (hB.word (zm4 k4_25) rfl) rfl rfl (by decide +kernel) ⟨Nat.le_of_ble_eq_true rfl, Nat.le_of_ble_eq_true rfl⟩) ⟨zP_blind, va_recv hK hPc (ci := 0) (q0 := 0) rfl rfl, zP_pre hPc hK hDc hAD (zB_on hB hA0 hS)⟩ rfl rfl hl.1 rfl (lv_room (Nat.le_of_ble_eq_true rfl)) dLA_host_5 ⟨Nat.le_of_ble_eq_true rfl, Nat.le_of_ble_eq_true rfl⟩) hown htab (zsel2 (by decide) (by decide) (hB.word (zm2 k2_142) rfl) (znofit hB zno_ISE) (zsel1 (by decide) (by decide) (hB.word (zm2 k2_62) rfl) (zfit (args := #[]) (hB.word (zm2 k2_73) rfl)))) hS (fun q h => hA q (Nat.le_trans hS.1 h)) (fun xq H1 locs hz1 hk1 hS => ?_)
      have hP := zKeep hP hk1
      refine lv_astore (lv' := [(4, .ref xq), (0, .ref (o 0)), (1, .int x0), (2, .int x1), (3, .ref qo)]) hx hb dLA_host_17 hl (by decide) rfl (fun ls hl => ?_)
      refine lv_iconst (v := 2) hx hb dLA_host_19 (by decide) ?_
      exact W.iret (v := 2) hx hb hr (fun t ht hW => ⟨⟨2, (P, S, f), rfl, ⟨by unfold zH_host; rw [hc]; exact ⟨by decide, rfl⟩, gP, gS⟩, by rw [ht]; exact hP, hD⟩, hS.F ht⟩) hS.2.2 dLA_host_20
  · skip
    refine zcIL (va_runV (As := [.int x0, .int x1]) (rest := [.int 0, .ref qo]) ⟨hx, hb, hml, hown, zno⟩ (tRG_host l dC dI cI cZ cJ cA a0 s0 o b P S s.heap.size x0 x1 gP gS y hc) (zcw 2 (hB.word (zm4 k4_26) rfl) (hB.word (zm1 k1_1) rfl) (hB.word (zm4 k4_23) rfl) (hB.word (zm4 k4_24) rfl) (hB.word (zm4 k4_25) rfl) rfl rfl (by decide +kernel) ⟨Nat.le_of_ble_eq_true rfl, Nat.le_of_ble_eq_true rfl⟩) ⟨zP_blind, va_recv hK hPc (ci := 0) (q0 := 0) rfl rfl, zP_pre hPc hK hDc hAD (zB_on hB hA0 hS)⟩ rfl rfl hl.1 rfl (lv_room (Nat.le_of_ble_eq_true rfl)) dLA_host_5 ⟨Nat.le_of_ble_eq_true rfl, Nat.le_of_ble_eq_true rfl⟩) hP hD hS hA (fun k9 x9 H1 locs hq hP hD hS => ?_)
    generalize x9 = S1 at hq hP hD
    have gS1 := hq.2.1
    have ey := hq.1
    subst ey
    have hP : va_P (dC, dI) zCl (CW cI cZ cA o b P S1 ++ [(qo, .inl (cJ, 1, .inr (.inl f)))]) H1 := hP
    have hD : va_D A (CW cI cZ cA o b P S1 ++ [(qo, .inl (cJ, 1, .inr (.inl f)))]) := hD
    refine lv_i2l (v := k9.toInt64) hx hb dLA_host_8 rfl ?_
    refine va_last hx hb hK hP hD hS 84 2 (zAtL CW_len) rfl (i := 0) (by unfold vp_in; decide) dLA_host_9 (fun H locs hP hD hS => ?_)
    rw [zSetL CW_len] at hP hD
    refine lv_goto (tgt := 21) hx hb dLA_host_10 (by decide) ?_
    refine lv_iconst (v := 0) hx hb dLA_host_21 (by decide) ?_
    refine W.widen (k := 1) (n := 6) (Nat.le_of_ble_eq_true rfl) (Nat.le_of_ble_eq_true rfl) ?_
    exact W.iret (v := 0) hx hb hr (fun t ht hW => ⟨⟨0, (P, S1, (vp_updL f (0 : Int32).toNatClampNeg k9.toInt64)), rfl, ⟨by unfold zH_host; rw [hc]; exact ⟨rfl, rfl⟩, gP, gS1⟩, by rw [ht]; exact hP, hD⟩, hS.F ht⟩) hS.2.2 dLA_host_22
/-- what the helper leaves and answers -/
def zH_send (P S : ZS) (f : Nat → Int64) (x0 : Int32) (x1 : Int32) (x2 : Int32) (r : Int32) (w : ZS × ZS × (Nat → Int64)) : Prop := match fRG_send P S x0 x1 x2 with
  | .error k => r = (if k = 1 then 1 else 2) ∧ w = (P, S, f)
  | .ok z => r = 0 ∧ w = (P, z.1, vp_updL f (0 : Int32).toNatClampNeg (z.2.toInt64))
theorem fRG_send_cs {P S : ZS} {x0 x1 x2 : Int32} {k : Nat} (h : fRG_send P S x0 x1 x2 = .error k) : k = 1 ∨ k = 2 := by
  simp only [fRG_send, fRG_send_46, zbind, zl] at h
  repeat' split at h
  all_goals first | (cases h; exact Or.inl rfl) | (cases h; exact Or.inr rfl) | (cases h; first | exact Or.inl (fRG_requireHost_c (by assumption)) | exact Or.inr (fRG_requireStarted_c (by assumption)) | exact Or.inl (fRG_requireTag_c (by assumption))) | cases h
set_option maxHeartbeats 4000000 in
set_option maxRecDepth 100000 in
theorem tLA_send (l : Launch) (dC : Nat → ClassId) (dI : Nat → Nat → Nat) (cI cZ cJ cA : ClassId) (a0 : Array Value) (s0 : State) (o b : Nat → Nat) (hfl : l.flags = Jvm.pinnedFlags ++ [Jvm.noTraceFlag]) (P S : ZS) (f : Nat → Int64) (qo sz : Nat) (x0 : Int32) (x1 : Int32) (x2 : Int32) (gP : cok P) (gS : cok S) : Met l yLA_send [Cond.codeWith yLA_send bLA_send 6 (some .int) [(0, 12, 15, 19), (0, 12, 19, 13)]] ({ frames := 8, cells := 1, slots := 6, locals := 134 } : Room) (zP zCl dC dI (zTZ cI cZ cJ cA) a0 s0 [.ref (o 0), .int x0, .int x1, .int x2, .ref qo] sz (CW cI cZ cA o b P S ++ [(qo, .inl (cJ, 1, .inr (.inl f)))])) (zQH zCl dC dI (fun (r : Int32) (x9 : ZS × ZS × (Nat → Int64)) => zH_send P S f x0 x1 x2 r x9 ∧ cok x9.1 ∧ cok x9.2.1) (fun x9 : ZS × ZS × (Nat → Int64) => (CW cI cZ cA o b x9.1 x9.2.1 ++ [(qo, .inl (cJ, 1, .inr (.inl x9.2.2)))])) (va_A (CW cI cZ cA o b P S ++ [(qo, .inl (cJ, 1, .inr (.inl f)))]) sz)) 1 6 (va_A (CW cI cZ cA o b P S ++ [(qo, .inl (cJ, 1, .inr (.inl f)))]) sz) := by
  refine tq_ofWith (cc := bLA_send) (maxL := 6) (ret := (some .int)) (hs := [(0, 12, 15, 19), (0, 12, 19, 13)]) (by decide) rfl ?_
  intro p e s m args below meth c s₁ B hml htab hv
  obtain ⟨rfl, hsz, hP, hK, hD0, hB⟩ := hv
  have hx := B.exec
  have hb := B.bytes
  have hr := B.returns
  have hown : s.vm.findClass "RingGuardLaw" = some m.cls := findClass_of_methodNamed B.named
  have hlocks := B.notSynchronized
  subst hsz
  have hD := hD0.self (sz := s.heap.size)
  have hA0 := zA0 hD0 hB
  generalize hAe : va_A (CW cI cZ cA o b P S ++ [(qo, .inl (cJ, 1, .inr (.inl f)))]) s.heap.size = A at hD hA0 ⊢
  have hAD := hA0
  have hA : ∀ q : Nat, s.heap.size ≤ q → A q := fun q h => by rw [← hAe]; exact Or.inr h
  have hS : va_S A s.heap s.heap [] := va_S.rf
  have hl := lv_entry ([.ref (o 0), .int x0, .int x1, .int x2, .ref qo]) (n := 6) (Nat.le_of_ble_eq_true rfl)
  rw [lg_entry_eq]
  generalize (lg_sl ([.ref (o 0), .int x0, .int x1, .int x2, .ref qo]) ++ List.replicate (6 - (lg_sl ([.ref (o 0), .int x0, .int x1, .int x2, .ref qo])).length) Slot.unset).toArray = ls at hl ⊢
  have hl : lv_has ls 6 [(0, .ref (o 0)), (1, .int x0), (2, .int x1), (3, .int x2), (4, .ref qo)] := hl
  refine lv_aload hx hb dLA_send_0 (lv_at hl 4 rfl) ?_
  refine lv_iconst (v := 0) hx hb dLA_send_2 (by decide) ?_
  refine lv_aload_n hx hb dLA_send_3 rfl (lv_at hl 0 rfl) ?_
  refine lv_iload_n hx hb dLA_send_4 rfl (lv_at hl 1 rfl) ?_
  refine lv_iload_n hx hb dLA_send_5 rfl (lv_at hl 2 rfl) ?_
  refine lv_iload_n hx hb dLA_send_6 rfl (lv_at hl 3 rfl) ?_
  have hPc := zPL hP
  have hDc := zDL hD
  rcases hc : fRG_send P S x0 x1 x2 with k | y
  · rcases fRG_send_cs hc with rfl | rfl
    · skip
      refine tq_catch (hp := 15) (tq_runV (As := [.int x0, .int x1, .int x2]) (rest := [.int 0, .ref qo]) ⟨hx, hb, hml, hown, zno⟩ (tRG_send_T1 l dC dI cI cZ cJ cA a0 s0 o b hfl P S s.heap.size x0 x1 x2 gP gS hc) (zcw 3 (hB.word (zm4 k4_42) rfl) (hB.word (zm1 k1_1) rfl) (hB.word (zm4 k4_39) rfl) (hB.word (zm4 k4_40) rfl) (hB.word (zm4 k4_41) rfl) rfl rfl (by decide +kernel) ⟨Nat.le_of_ble_eq_true rfl, Nat.le_of_ble_eq_true rfl⟩) ⟨zP_blind, va_recv hK hPc (ci := 0) (q0 := 0) rfl rfl, zP_pre hPc hK hDc hAD (zB_on hB hA0 hS)⟩ rfl rfl hl.1 rfl (lv_room (Nat.le_of_ble_eq_true rfl)) dLA_send_7 ⟨Nat.le_of_ble_eq_true rfl, Nat.le_of_ble_eq_true rfl⟩) hown htab (zsel1 (by decide) (by decide) (hB.word (zm2 k2_142) rfl) (zfit (args := #[]) (hB.word (zm2 k2_153) rfl))) hS (fun q h => hA q (Nat.le_trans hS.1 h)) (fun xq H1 locs hz1 hk1 hS => ?_)
      have hP := zKeep hP hk1
      refine lv_astore (lv' := [(5, .ref xq), (0, .ref (o 0)), (1, .int x0), (2, .int x1), (3, .int x2), (4, .ref qo)]) hx hb dLA_send_15 hl (by decide) rfl (fun ls hl => ?_)
      refine lv_iconst (v := 1) hx hb dLA_send_17 (by decide) ?_
      exact W.iret (v := 1) hx hb hr (fun t ht hW => ⟨⟨1, (P, S, f), rfl, ⟨by unfold zH_send; rw [hc]; exact ⟨by decide, rfl⟩, gP, gS⟩, by rw [ht]; exact hP, hD⟩, hS.F ht⟩) hS.2.2 dLA_send_18
    · skip
      refine tq_catch (hp := 19) (tq_runV (As := [.int x0, .int x1, .int x2]) (rest := [.int 0, .ref qo]) ⟨hx, hb, hml, hown, zno⟩ (tRG_send_T2 l dC dI cI cZ cJ cA a0 s0 o b hfl P S s.heap.size x0 x1 x2 gP gS hc) (zcw 3 (hB.word (zm4 k4_42) rfl) (hB.word (zm1 k1_1) rfl) (hB.word (zm4 k4_39) rfl) (hB.word (zm4 k4_40) rfl) (hB.word (zm4 k4_41) rfl) rfl rfl (by decide +kernel) ⟨Nat.le_of_ble_eq_true rfl, Nat.le_of_ble_eq_true rfl⟩) ⟨zP_blind, va_recv hK hPc (ci := 0) (q0 := 0) rfl rfl, zP_pre hPc hK hDc hAD (zB_on hB hA0 hS)⟩ rfl rfl hl.1 rfl (lv_room (Nat.le_of_ble_eq_true rfl)) dLA_send_7 ⟨Nat.le_of_ble_eq_true rfl, Nat.le_of_ble_eq_true rfl⟩) hown htab (zsel2 (by decide) (by decide) (hB.word (zm2 k2_142) rfl) (znofit hB zno_ISE) (zsel1 (by decide) (by decide) (hB.word (zm2 k2_62) rfl) (zfit (args := #[]) (hB.word (zm2 k2_73) rfl)))) hS (fun q h => hA q (Nat.le_trans hS.1 h)) (fun xq H1 locs hz1 hk1 hS => ?_)
      have hP := zKeep hP hk1
      refine lv_astore (lv' := [(5, .ref xq), (0, .ref (o 0)), (1, .int x0), (2, .int x1), (3, .int x2), (4, .ref qo)]) hx hb dLA_send_19 hl (by decide) rfl (fun ls hl => ?_)
      refine lv_iconst (v := 2) hx hb dLA_send_21 (by decide) ?_
      exact W.iret (v := 2) hx hb hr (fun t ht hW => ⟨⟨2, (P, S, f), rfl, ⟨by unfold zH_send; rw [hc]; exact ⟨by decide, rfl⟩, gP, gS⟩, by rw [ht]; exact hP, hD⟩, hS.F ht⟩) hS.2.2 dLA_send_22
  · skip
    refine zcIL (va_runV (As := [.int x0, .int x1, .int x2]) (rest := [.int 0, .ref qo]) ⟨hx, hb, hml, hown, zno⟩ (tRG_send l dC dI cI cZ cJ cA a0 s0 o b P S s.heap.size x0 x1 x2 gP gS y hc) (zcw 3 (hB.word (zm4 k4_42) rfl) (hB.word (zm1 k1_1) rfl) (hB.word (zm4 k4_39) rfl) (hB.word (zm4 k4_40) rfl) (hB.word (zm4 k4_41) rfl) rfl rfl (by decide +kernel) ⟨Nat.le_of_ble_eq_true rfl, Nat.le_of_ble_eq_true rfl⟩) ⟨zP_blind, va_recv hK hPc (ci := 0) (q0 := 0) rfl rfl, zP_pre hPc hK hDc hAD (zB_on hB hA0 hS)⟩ rfl rfl hl.1 rfl (lv_room (Nat.le_of_ble_eq_true rfl)) dLA_send_7 ⟨Nat.le_of_ble_eq_true rfl, Nat.le_of_ble_eq_true rfl⟩) hP hD hS hA (fun k9 x9 H1 locs hq hP hD hS => ?_)
    generalize x9 = S1 at hq hP hD
    have gS1 := hq.2.1
    have ey := hq.1
    subst ey
    have hP : va_P (dC, dI) zCl (CW cI cZ cA o b P S1 ++ [(qo, .inl (cJ, 1, .inr (.inl f)))]) H1 := hP
    have hD : va_D A (CW cI cZ cA o b P S1 ++ [(qo, .inl (cJ, 1, .inr (.inl f)))]) := hD
    refine lv_i2l (v := k9.toInt64) hx hb dLA_send_10 rfl ?_
    refine va_last hx hb hK hP hD hS 84 2 (zAtL CW_len) rfl (i := 0) (by unfold vp_in; decide) dLA_send_11 (fun H locs hP hD hS => ?_)
    rw [zSetL CW_len] at hP hD
    refine lv_goto (tgt := 23) hx hb dLA_send_12 (by decide) ?_
    refine lv_iconst (v := 0) hx hb dLA_send_23 (by decide) ?_
    refine W.widen (k := 1) (n := 6) (Nat.le_of_ble_eq_true rfl) (Nat.le_of_ble_eq_true rfl) ?_
    exact W.iret (v := 0) hx hb hr (fun t ht hW => ⟨⟨0, (P, S1, (vp_updL f (0 : Int32).toNatClampNeg k9.toInt64)), rfl, ⟨by unfold zH_send; rw [hc]; exact ⟨rfl, rfl⟩, gP, gS1⟩, by rw [ht]; exact hP, hD⟩, hS.F ht⟩) hS.2.2 dLA_send_24
/-- what the helper leaves and answers -/
def zH_holds (P S : ZS) (f : Nat → Int64) (x0 : Int32) (x1 : Int32) (r : Int32) (w : ZS × ZS × (Nat → Int64)) : Prop := match fRG_holds P S x0 x1 with
  | .error k => r = (1) ∧ w = (P, S, f)
  | .ok z => r = 0 ∧ w = (P, S, vp_updL f (0 : Int32).toNatClampNeg (z.toInt64))
theorem fRG_holds_cs {P S : ZS} {x0 x1 : Int32} {k : Nat} (h : fRG_holds P S x0 x1 = .error k) : k = 1 := by
  simp only [fRG_holds, zbind] at h
  repeat' split at h
  all_goals first | (cases h; rfl) | (cases h; first | exact fRG_requirePort_c (by assumption)) | cases h
set_option maxHeartbeats 4000000 in
set_option maxRecDepth 100000 in
theorem tLA_holds (l : Launch) (dC : Nat → ClassId) (dI : Nat → Nat → Nat) (cI cZ cJ cA : ClassId) (a0 : Array Value) (s0 : State) (o b : Nat → Nat) (hfl : l.flags = Jvm.pinnedFlags ++ [Jvm.noTraceFlag]) (P S : ZS) (f : Nat → Int64) (qo sz : Nat) (x0 : Int32) (x1 : Int32) (gP : cok P) (gS : cok S) : Met l yLA_holds [Cond.codeWith yLA_holds bLA_holds 5 (some .int) [(0, 10, 13, 19)]] ({ frames := 9, cells := 1, slots := 6, locals := 155 } : Room) (zP zCl dC dI (zTZ cI cZ cJ cA) a0 s0 [.ref (o 0), .int x0, .int x1, .ref qo] sz (CW cI cZ cA o b P S ++ [(qo, .inl (cJ, 1, .inr (.inl f)))])) (zQH zCl dC dI (fun (r : Int32) (x9 : ZS × ZS × (Nat → Int64)) => zH_holds P S f x0 x1 r x9 ∧ cok x9.1 ∧ cok x9.2.1) (fun x9 : ZS × ZS × (Nat → Int64) => (CW cI cZ cA o b x9.1 x9.2.1 ++ [(qo, .inl (cJ, 1, .inr (.inl x9.2.2)))])) (va_A (CW cI cZ cA o b P S ++ [(qo, .inl (cJ, 1, .inr (.inl f)))]) sz)) 1 6 (va_A (CW cI cZ cA o b P S ++ [(qo, .inl (cJ, 1, .inr (.inl f)))]) sz) := by
  refine tq_ofWith (cc := bLA_holds) (maxL := 5) (ret := (some .int)) (hs := [(0, 10, 13, 19)]) (by decide) rfl ?_
  intro p e s m args below meth c s₁ B hml htab hv
  obtain ⟨rfl, hsz, hP, hK, hD0, hB⟩ := hv
  have hx := B.exec
  have hb := B.bytes
  have hr := B.returns
  have hown : s.vm.findClass "RingGuardLaw" = some m.cls := findClass_of_methodNamed B.named
  have hlocks := B.notSynchronized
  subst hsz
  have hD := hD0.self (sz := s.heap.size)
  have hA0 := zA0 hD0 hB
  generalize hAe : va_A (CW cI cZ cA o b P S ++ [(qo, .inl (cJ, 1, .inr (.inl f)))]) s.heap.size = A at hD hA0 ⊢
  have hAD := hA0
  have hA : ∀ q : Nat, s.heap.size ≤ q → A q := fun q h => by rw [← hAe]; exact Or.inr h
  have hS : va_S A s.heap s.heap [] := va_S.rf
  have hl := lv_entry ([.ref (o 0), .int x0, .int x1, .ref qo]) (n := 5) (Nat.le_of_ble_eq_true rfl)
  rw [lg_entry_eq]
  generalize (lg_sl ([.ref (o 0), .int x0, .int x1, .ref qo]) ++ List.replicate (5 - (lg_sl ([.ref (o 0), .int x0, .int x1, .ref qo])).length) Slot.unset).toArray = ls at hl ⊢
  have hl : lv_has ls 5 [(0, .ref (o 0)), (1, .int x0), (2, .int x1), (3, .ref qo)] := hl
  refine lv_aload_n hx hb dLA_holds_0 rfl (lv_at hl 3 rfl) ?_
  refine lv_iconst (v := 0) hx hb dLA_holds_1 (by decide) ?_
  refine lv_aload_n hx hb dLA_holds_2 rfl (lv_at hl 0 rfl) ?_
  refine lv_iload_n hx hb dLA_holds_3 rfl (lv_at hl 1 rfl) ?_
  refine lv_iload_n hx hb dLA_holds_4 rfl (lv_at hl 2 rfl) ?_
  have hPc := zPL hP
  have hDc := zDL hD
  rcases hc : fRG_holds P S x0 x1 with k | y
  · have x9 := fRG_holds_cs hc
    subst x9
    refine tq_catch (hp := 13) (tq_runV (As := [.int x0, .int x1]) (rest := [.int 0, .ref qo]) ⟨hx, hb, hml, hown, zno⟩ (tRG_holds_T1 l dC dI cI cZ cJ cA a0 s0 o b hfl P S s.heap.size x0 x1 gP gS hc) (zcw 2 (hB.word (zm4 k4_84) rfl) (hB.word (zm1 k1_1) rfl) (hB.word (zm4 k4_81) rfl) (hB.word (zm4 k4_82) rfl) (hB.word (zm4 k4_83) rfl) rfl rfl (by decide +kernel) ⟨Nat.le_of_ble_eq_true rfl, Nat.le_of_ble_eq_true rfl⟩) ⟨zP_blind, va_recv hK hPc (ci := 0) (q0 := 0) rfl rfl, zP_pre hPc hK hDc hAD (zB_on hB hA0 hS)⟩ rfl rfl hl.1 rfl (lv_room (Nat.le_of_ble_eq_true rfl)) dLA_holds_5 ⟨Nat.le_of_ble_eq_true rfl, Nat.le_of_ble_eq_true rfl⟩) hown htab (zsel1 (by decide) (by decide) (hB.word (zm2 k2_142) rfl) (zfit (args := #[]) (hB.word (zm2 k2_153) rfl))) hS (fun q h => hA q (Nat.le_trans hS.1 h)) (fun xq H1 locs hz1 hk1 hS => ?_)
    have hP := zKeep hP hk1
    refine lv_astore (lv' := [(4, .ref xq), (0, .ref (o 0)), (1, .int x0), (2, .int x1), (3, .ref qo)]) hx hb dLA_holds_13 hl (by decide) rfl (fun ls hl => ?_)
    refine lv_iconst (v := 1) hx hb dLA_holds_15 (by decide) ?_
    exact W.iret (v := 1) hx hb hr (fun t ht hW => ⟨⟨1, (P, S, f), rfl, ⟨by unfold zH_holds; rw [hc]; exact ⟨by decide, rfl⟩, gP, gS⟩, by rw [ht]; exact hP, hD⟩, hS.F ht⟩) hS.2.2 dLA_holds_16
  · skip
    refine zcallp (va_runV (As := [.int x0, .int x1]) (rest := [.int 0, .ref qo]) ⟨hx, hb, hml, hown, zno⟩ (tRG_holds l dC dI cI cZ cJ cA a0 s0 o b P S s.heap.size x0 x1 gP gS y hc) (zcw 2 (hB.word (zm4 k4_84) rfl) (hB.word (zm1 k1_1) rfl) (hB.word (zm4 k4_81) rfl) (hB.word (zm4 k4_82) rfl) (hB.word (zm4 k4_83) rfl) rfl rfl (by decide +kernel) ⟨Nat.le_of_ble_eq_true rfl, Nat.le_of_ble_eq_true rfl⟩) ⟨zP_blind, va_recv hK hPc (ci := 0) (q0 := 0) rfl rfl, zP_pre hPc hK hDc hAD (zB_on hB hA0 hS)⟩ rfl rfl hl.1 rfl (lv_room (Nat.le_of_ble_eq_true rfl)) dLA_holds_5 ⟨Nat.le_of_ble_eq_true rfl, Nat.le_of_ble_eq_true rfl⟩) hS hA (fun k9 H1 locs hq hz1 hk1 hS => ?_)
    have hP := zKeep hP hk1
    have ey := hq.1
    subst ey
    refine lv_i2l (v := k9.toInt64) hx hb dLA_holds_8 rfl ?_
    refine va_last hx hb hK hP hD hS 84 2 (zAtL CW_len) rfl (i := 0) (by unfold vp_in; decide) dLA_holds_9 (fun H locs hP hD hS => ?_)
    rw [zSetL CW_len] at hP hD
    refine lv_goto (tgt := 17) hx hb dLA_holds_10 (by decide) ?_
    refine lv_iconst (v := 0) hx hb dLA_holds_17 (by decide) ?_
    refine W.widen (k := 1) (n := 6) (Nat.le_of_ble_eq_true rfl) (Nat.le_of_ble_eq_true rfl) ?_
    exact W.iret (v := 0) hx hb hr (fun t ht hW => ⟨⟨0, (P, S, (vp_updL f (0 : Int32).toNatClampNeg k9.toInt64)), rfl, ⟨by unfold zH_holds; rw [hc]; exact ⟨rfl, rfl⟩, gP, gS⟩, by rw [ht]; exact hP, hD⟩, hS.F ht⟩) hS.2.2 dLA_holds_18
/-- what the helper leaves and answers -/
def zH_told (P S : ZS) (f : Nat → Int64) (x0 : Int32) (x1 : Int32) (x2 : Int32) (r : Int32) (w : ZS × ZS × (Nat → Int64)) : Prop := match fRG_told P S x0 x1 x2 with
  | .error k => r = (1) ∧ w = (P, S, f)
  | .ok z => r = 0 ∧ w = (P, S, vp_updL f (0 : Int32).toNatClampNeg (z.toInt64))
theorem fRG_told_cs {P S : ZS} {x0 x1 x2 : Int32} {k : Nat} (h : fRG_told P S x0 x1 x2 = .error k) : k = 1 := by
  simp only [fRG_told, zbind] at h
  repeat' split at h
  all_goals first | (cases h; rfl) | (cases h; first | exact fRG_requireBridge_c (by assumption) | exact fRG_requireRing_c (by assumption)) | cases h
set_option maxHeartbeats 4000000 in
set_option maxRecDepth 100000 in
theorem tLA_told (l : Launch) (dC : Nat → ClassId) (dI : Nat → Nat → Nat) (cI cZ cJ cA : ClassId) (a0 : Array Value) (s0 : State) (o b : Nat → Nat) (hfl : l.flags = Jvm.pinnedFlags ++ [Jvm.noTraceFlag]) (P S : ZS) (f : Nat → Int64) (qo sz : Nat) (x0 : Int32) (x1 : Int32) (x2 : Int32) (gP : cok P) (gS : cok S) : Met l yLA_told [Cond.codeWith yLA_told bLA_told 6 (some .int) [(0, 12, 15, 19)]] ({ frames := 8, cells := 1, slots := 6, locals := 134 } : Room) (zP zCl dC dI (zTZ cI cZ cJ cA) a0 s0 [.ref (o 0), .int x0, .int x1, .int x2, .ref qo] sz (CW cI cZ cA o b P S ++ [(qo, .inl (cJ, 1, .inr (.inl f)))])) (zQH zCl dC dI (fun (r : Int32) (x9 : ZS × ZS × (Nat → Int64)) => zH_told P S f x0 x1 x2 r x9 ∧ cok x9.1 ∧ cok x9.2.1) (fun x9 : ZS × ZS × (Nat → Int64) => (CW cI cZ cA o b x9.1 x9.2.1 ++ [(qo, .inl (cJ, 1, .inr (.inl x9.2.2)))])) (va_A (CW cI cZ cA o b P S ++ [(qo, .inl (cJ, 1, .inr (.inl f)))]) sz)) 1 6 (va_A (CW cI cZ cA o b P S ++ [(qo, .inl (cJ, 1, .inr (.inl f)))]) sz) := by
  refine tq_ofWith (cc := bLA_told) (maxL := 6) (ret := (some .int)) (hs := [(0, 12, 15, 19)]) (by decide) rfl ?_
  intro p e s m args below meth c s₁ B hml htab hv
  obtain ⟨rfl, hsz, hP, hK, hD0, hB⟩ := hv
  have hx := B.exec
  have hb := B.bytes
  have hr := B.returns
  have hown : s.vm.findClass "RingGuardLaw" = some m.cls := findClass_of_methodNamed B.named
  have hlocks := B.notSynchronized
  subst hsz
  have hD := hD0.self (sz := s.heap.size)
  have hA0 := zA0 hD0 hB
  generalize hAe : va_A (CW cI cZ cA o b P S ++ [(qo, .inl (cJ, 1, .inr (.inl f)))]) s.heap.size = A at hD hA0 ⊢
  have hAD := hA0
  have hA : ∀ q : Nat, s.heap.size ≤ q → A q := fun q h => by rw [← hAe]; exact Or.inr h
  have hS : va_S A s.heap s.heap [] := va_S.rf
  have hl := lv_entry ([.ref (o 0), .int x0, .int x1, .int x2, .ref qo]) (n := 6) (Nat.le_of_ble_eq_true rfl)
  rw [lg_entry_eq]
  generalize (lg_sl ([.ref (o 0), .int x0, .int x1, .int x2, .ref qo]) ++ List.replicate (6 - (lg_sl ([.ref (o 0), .int x0, .int x1, .int x2, .ref qo])).length) Slot.unset).toArray = ls at hl ⊢
  have hl : lv_has ls 6 [(0, .ref (o 0)), (1, .int x0), (2, .int x1), (3, .int x2), (4, .ref qo)] := hl
  refine lv_aload hx hb dLA_told_0 (lv_at hl 4 rfl) ?_
  refine lv_iconst (v := 0) hx hb dLA_told_2 (by decide) ?_
  refine lv_aload_n hx hb dLA_told_3 rfl (lv_at hl 0 rfl) ?_
  refine lv_iload_n hx hb dLA_told_4 rfl (lv_at hl 1 rfl) ?_
  refine lv_iload_n hx hb dLA_told_5 rfl (lv_at hl 2 rfl) ?_
  refine lv_iload_n hx hb dLA_told_6 rfl (lv_at hl 3 rfl) ?_
  have hPc := zPL hP
  have hDc := zDL hD
  rcases hc : fRG_told P S x0 x1 x2 with k | y
  · have x9 := fRG_told_cs hc
    subst x9
    refine tq_catch (hp := 15) (tq_runV (As := [.int x0, .int x1, .int x2]) (rest := [.int 0, .ref qo]) ⟨hx, hb, hml, hown, zno⟩ (tRG_told_T1 l dC dI cI cZ cJ cA a0 s0 o b hfl P S s.heap.size x0 x1 x2 gP gS hc) (zcw 3 (hB.word (zm4 k4_91) rfl) (hB.word (zm1 k1_1) rfl) (hB.word (zm4 k4_88) rfl) (hB.word (zm4 k4_89) rfl) (hB.word (zm4 k4_90) rfl) rfl rfl (by decide +kernel) ⟨Nat.le_of_ble_eq_true rfl, Nat.le_of_ble_eq_true rfl⟩) ⟨zP_blind, va_recv hK hPc (ci := 0) (q0 := 0) rfl rfl, zP_pre hPc hK hDc hAD (zB_on hB hA0 hS)⟩ rfl rfl hl.1 rfl (lv_room (Nat.le_of_ble_eq_true rfl)) dLA_told_7 ⟨Nat.le_of_ble_eq_true rfl, Nat.le_of_ble_eq_true rfl⟩) hown htab (zsel1 (by decide) (by decide) (hB.word (zm2 k2_142) rfl) (zfit (args := #[]) (hB.word (zm2 k2_153) rfl))) hS (fun q h => hA q (Nat.le_trans hS.1 h)) (fun xq H1 locs hz1 hk1 hS => ?_)
    have hP := zKeep hP hk1
    refine lv_astore (lv' := [(5, .ref xq), (0, .ref (o 0)), (1, .int x0), (2, .int x1), (3, .int x2), (4, .ref qo)]) hx hb dLA_told_15 hl (by decide) rfl (fun ls hl => ?_)
    refine lv_iconst (v := 1) hx hb dLA_told_17 (by decide) ?_
    exact W.iret (v := 1) hx hb hr (fun t ht hW => ⟨⟨1, (P, S, f), rfl, ⟨by unfold zH_told; rw [hc]; exact ⟨by decide, rfl⟩, gP, gS⟩, by rw [ht]; exact hP, hD⟩, hS.F ht⟩) hS.2.2 dLA_told_18
  · skip
    refine zcallp (va_runV (As := [.int x0, .int x1, .int x2]) (rest := [.int 0, .ref qo]) ⟨hx, hb, hml, hown, zno⟩ (tRG_told l dC dI cI cZ cJ cA a0 s0 o b P S s.heap.size x0 x1 x2 gP gS y hc) (zcw 3 (hB.word (zm4 k4_91) rfl) (hB.word (zm1 k1_1) rfl) (hB.word (zm4 k4_88) rfl) (hB.word (zm4 k4_89) rfl) (hB.word (zm4 k4_90) rfl) rfl rfl (by decide +kernel) ⟨Nat.le_of_ble_eq_true rfl, Nat.le_of_ble_eq_true rfl⟩) ⟨zP_blind, va_recv hK hPc (ci := 0) (q0 := 0) rfl rfl, zP_pre hPc hK hDc hAD (zB_on hB hA0 hS)⟩ rfl rfl hl.1 rfl (lv_room (Nat.le_of_ble_eq_true rfl)) dLA_told_7 ⟨Nat.le_of_ble_eq_true rfl, Nat.le_of_ble_eq_true rfl⟩) hS hA (fun k9 H1 locs hq hz1 hk1 hS => ?_)
    have hP := zKeep hP hk1
    have ey := hq.1
    subst ey
    refine lv_i2l (v := k9.toInt64) hx hb dLA_told_10 rfl ?_
    refine va_last hx hb hK hP hD hS 84 2 (zAtL CW_len) rfl (i := 0) (by unfold vp_in; decide) dLA_told_11 (fun H locs hP hD hS => ?_)
    rw [zSetL CW_len] at hP hD
    refine lv_goto (tgt := 19) hx hb dLA_told_12 (by decide) ?_
    refine lv_iconst (v := 0) hx hb dLA_told_19 (by decide) ?_
    refine W.widen (k := 1) (n := 6) (Nat.le_of_ble_eq_true rfl) (Nat.le_of_ble_eq_true rfl) ?_
    exact W.iret (v := 0) hx hb hr (fun t ht hW => ⟨⟨0, (P, S, (vp_updL f (0 : Int32).toNatClampNeg k9.toInt64)), rfl, ⟨by unfold zH_told; rw [hc]; exact ⟨rfl, rfl⟩, gP, gS⟩, by rw [ht]; exact hP, hD⟩, hS.F ht⟩) hS.2.2 dLA_told_20
/-- what the helper leaves and answers -/
def zH_learned (P S : ZS) (f : Nat → Int64) (x0 : Int32) (x1 : Int32) (x2 : Int32) (r : Int32) (w : ZS × ZS × (Nat → Int64)) : Prop := match fRG_learned P S x0 x1 x2 with
  | .error k => r = (1) ∧ w = (P, S, f)
  | .ok z => r = 0 ∧ w = (P, S, vp_updL f (0 : Int32).toNatClampNeg (z.toInt64))
theorem fRG_learned_cs {P S : ZS} {x0 x1 x2 : Int32} {k : Nat} (h : fRG_learned P S x0 x1 x2 = .error k) : k = 1 := by
  simp only [fRG_learned, zbind] at h
  repeat' split at h
  all_goals first | (cases h; rfl) | (cases h; first | exact fRG_requireBridge_c (by assumption) | exact fRG_requireHost_c (by assumption) | exact fRG_requireTag_c (by assumption)) | cases h
set_option maxHeartbeats 4000000 in
set_option maxRecDepth 100000 in
theorem tLA_learned (l : Launch) (dC : Nat → ClassId) (dI : Nat → Nat → Nat) (cI cZ cJ cA : ClassId) (a0 : Array Value) (s0 : State) (o b : Nat → Nat) (hfl : l.flags = Jvm.pinnedFlags ++ [Jvm.noTraceFlag]) (P S : ZS) (f : Nat → Int64) (qo sz : Nat) (x0 : Int32) (x1 : Int32) (x2 : Int32) (gP : cok P) (gS : cok S) : Met l yLA_learned [Cond.codeWith yLA_learned bLA_learned 6 (some .int) [(0, 12, 15, 19)]] ({ frames := 8, cells := 1, slots := 6, locals := 134 } : Room) (zP zCl dC dI (zTZ cI cZ cJ cA) a0 s0 [.ref (o 0), .int x0, .int x1, .int x2, .ref qo] sz (CW cI cZ cA o b P S ++ [(qo, .inl (cJ, 1, .inr (.inl f)))])) (zQH zCl dC dI (fun (r : Int32) (x9 : ZS × ZS × (Nat → Int64)) => zH_learned P S f x0 x1 x2 r x9 ∧ cok x9.1 ∧ cok x9.2.1) (fun x9 : ZS × ZS × (Nat → Int64) => (CW cI cZ cA o b x9.1 x9.2.1 ++ [(qo, .inl (cJ, 1, .inr (.inl x9.2.2)))])) (va_A (CW cI cZ cA o b P S ++ [(qo, .inl (cJ, 1, .inr (.inl f)))]) sz)) 1 6 (va_A (CW cI cZ cA o b P S ++ [(qo, .inl (cJ, 1, .inr (.inl f)))]) sz) := by
  refine tq_ofWith (cc := bLA_learned) (maxL := 6) (ret := (some .int)) (hs := [(0, 12, 15, 19)]) (by decide) rfl ?_
  intro p e s m args below meth c s₁ B hml htab hv
  obtain ⟨rfl, hsz, hP, hK, hD0, hB⟩ := hv
  have hx := B.exec
  have hb := B.bytes
  have hr := B.returns
  have hown : s.vm.findClass "RingGuardLaw" = some m.cls := findClass_of_methodNamed B.named
  have hlocks := B.notSynchronized
  subst hsz
  have hD := hD0.self (sz := s.heap.size)
  have hA0 := zA0 hD0 hB
  generalize hAe : va_A (CW cI cZ cA o b P S ++ [(qo, .inl (cJ, 1, .inr (.inl f)))]) s.heap.size = A at hD hA0 ⊢
  have hAD := hA0
  have hA : ∀ q : Nat, s.heap.size ≤ q → A q := fun q h => by rw [← hAe]; exact Or.inr h
  have hS : va_S A s.heap s.heap [] := va_S.rf
  have hl := lv_entry ([.ref (o 0), .int x0, .int x1, .int x2, .ref qo]) (n := 6) (Nat.le_of_ble_eq_true rfl)
  rw [lg_entry_eq]
  generalize (lg_sl ([.ref (o 0), .int x0, .int x1, .int x2, .ref qo]) ++ List.replicate (6 - (lg_sl ([.ref (o 0), .int x0, .int x1, .int x2, .ref qo])).length) Slot.unset).toArray = ls at hl ⊢
  have hl : lv_has ls 6 [(0, .ref (o 0)), (1, .int x0), (2, .int x1), (3, .int x2), (4, .ref qo)] := hl
  refine lv_aload hx hb dLA_learned_0 (lv_at hl 4 rfl) ?_
  refine lv_iconst (v := 0) hx hb dLA_learned_2 (by decide) ?_
  refine lv_aload_n hx hb dLA_learned_3 rfl (lv_at hl 0 rfl) ?_
  refine lv_iload_n hx hb dLA_learned_4 rfl (lv_at hl 1 rfl) ?_
  refine lv_iload_n hx hb dLA_learned_5 rfl (lv_at hl 2 rfl) ?_
  refine lv_iload_n hx hb dLA_learned_6 rfl (lv_at hl 3 rfl) ?_
  have hPc := zPL hP
  have hDc := zDL hD
  rcases hc : fRG_learned P S x0 x1 x2 with k | y
  · have x9 := fRG_learned_cs hc
    subst x9
    refine tq_catch (hp := 15) (tq_runV (As := [.int x0, .int x1, .int x2]) (rest := [.int 0, .ref qo]) ⟨hx, hb, hml, hown, zno⟩ (tRG_learned_T1 l dC dI cI cZ cJ cA a0 s0 o b hfl P S s.heap.size x0 x1 x2 gP gS hc) (zcw 3 (hB.word (zm4 k4_99) rfl) (hB.word (zm1 k1_1) rfl) (hB.word (zm4 k4_96) rfl) (hB.word (zm4 k4_97) rfl) (hB.word (zm4 k4_98) rfl) rfl rfl (by decide +kernel) ⟨Nat.le_of_ble_eq_true rfl, Nat.le_of_ble_eq_true rfl⟩) ⟨zP_blind, va_recv hK hPc (ci := 0) (q0 := 0) rfl rfl, zP_pre hPc hK hDc hAD (zB_on hB hA0 hS)⟩ rfl rfl hl.1 rfl (lv_room (Nat.le_of_ble_eq_true rfl)) dLA_learned_7 ⟨Nat.le_of_ble_eq_true rfl, Nat.le_of_ble_eq_true rfl⟩) hown htab (zsel1 (by decide) (by decide) (hB.word (zm2 k2_142) rfl) (zfit (args := #[]) (hB.word (zm2 k2_153) rfl))) hS (fun q h => hA q (Nat.le_trans hS.1 h)) (fun xq H1 locs hz1 hk1 hS => ?_)
    have hP := zKeep hP hk1
    refine lv_astore (lv' := [(5, .ref xq), (0, .ref (o 0)), (1, .int x0), (2, .int x1), (3, .int x2), (4, .ref qo)]) hx hb dLA_learned_15 hl (by decide) rfl (fun ls hl => ?_)
    refine lv_iconst (v := 1) hx hb dLA_learned_17 (by decide) ?_
    exact W.iret (v := 1) hx hb hr (fun t ht hW => ⟨⟨1, (P, S, f), rfl, ⟨by unfold zH_learned; rw [hc]; exact ⟨by decide, rfl⟩, gP, gS⟩, by rw [ht]; exact hP, hD⟩, hS.F ht⟩) hS.2.2 dLA_learned_18
  · skip
    refine zcallp (va_runV (As := [.int x0, .int x1, .int x2]) (rest := [.int 0, .ref qo]) ⟨hx, hb, hml, hown, zno⟩ (tRG_learned l dC dI cI cZ cJ cA a0 s0 o b P S s.heap.size x0 x1 x2 gP gS y hc) (zcw 3 (hB.word (zm4 k4_99) rfl) (hB.word (zm1 k1_1) rfl) (hB.word (zm4 k4_96) rfl) (hB.word (zm4 k4_97) rfl) (hB.word (zm4 k4_98) rfl) rfl rfl (by decide +kernel) ⟨Nat.le_of_ble_eq_true rfl, Nat.le_of_ble_eq_true rfl⟩) ⟨zP_blind, va_recv hK hPc (ci := 0) (q0 := 0) rfl rfl, zP_pre hPc hK hDc hAD (zB_on hB hA0 hS)⟩ rfl rfl hl.1 rfl (lv_room (Nat.le_of_ble_eq_true rfl)) dLA_learned_7 ⟨Nat.le_of_ble_eq_true rfl, Nat.le_of_ble_eq_true rfl⟩) hS hA (fun k9 H1 locs hq hz1 hk1 hS => ?_)
    have hP := zKeep hP hk1
    have ey := hq.1
    subst ey
    refine lv_i2l (v := k9.toInt64) hx hb dLA_learned_10 rfl ?_
    refine va_last hx hb hK hP hD hS 84 2 (zAtL CW_len) rfl (i := 0) (by unfold vp_in; decide) dLA_learned_11 (fun H locs hP hD hS => ?_)
    rw [zSetL CW_len] at hP hD
    refine lv_goto (tgt := 19) hx hb dLA_learned_12 (by decide) ?_
    refine lv_iconst (v := 0) hx hb dLA_learned_19 (by decide) ?_
    refine W.widen (k := 1) (n := 6) (Nat.le_of_ble_eq_true rfl) (Nat.le_of_ble_eq_true rfl) ?_
    exact W.iret (v := 0) hx hb hr (fun t ht hW => ⟨⟨0, (P, S, (vp_updL f (0 : Int32).toNatClampNeg k9.toInt64)), rfl, ⟨by unfold zH_learned; rw [hc]; exact ⟨rfl, rfl⟩, gP, gS⟩, by rw [ht]; exact hP, hD⟩, hS.F ht⟩) hS.2.2 dLA_learned_20
/-- what the helper leaves and answers -/
def zH_joined (P S : ZS) (f : Nat → Int64) (x0 : Int32) (x1 : Int32) (r : Int32) (w : ZS × ZS × (Nat → Int64)) : Prop := match fRG_joined P S x0 x1 with
  | .error k => r = (1) ∧ w = (P, S, f)
  | .ok z => r = 0 ∧ w = (P, z.1, vp_updL f (0 : Int32).toNatClampNeg ((if z.2 = 0 then (0 : Int64) else 1)))
theorem fRG_joined_cs {P S : ZS} {x0 x1 : Int32} {k : Nat} (h : fRG_joined P S x0 x1 = .error k) : k = 1 := by
  simp only [fRG_joined, zbind] at h
  repeat' split at h
  all_goals first | (cases h; rfl) | (cases h; first | exact fRG_requireBridge_c (by assumption)) | cases h
set_option maxHeartbeats 4000000 in
set_option maxRecDepth 100000 in
theorem tLA_joined (l : Launch) (dC : Nat → ClassId) (dI : Nat → Nat → Nat) (cI cZ cJ cA : ClassId) (a0 : Array Value) (s0 : State) (o b : Nat → Nat) (hfl : l.flags = Jvm.pinnedFlags ++ [Jvm.noTraceFlag]) (P S : ZS) (f : Nat → Int64) (qo sz : Nat) (x0 : Int32) (x1 : Int32) (gP : cok P) (gS : cok S) : Met l yLA_joined [Cond.codeWith yLA_joined bLA_joined 5 (some .int) [(0, 17, 20, 19)]] ({ frames := 8, cells := 1, slots := 6, locals := 133 } : Room) (zP zCl dC dI (zTZ cI cZ cJ cA) a0 s0 [.ref (o 0), .int x0, .int x1, .ref qo] sz (CW cI cZ cA o b P S ++ [(qo, .inl (cJ, 1, .inr (.inl f)))])) (zQH zCl dC dI (fun (r : Int32) (x9 : ZS × ZS × (Nat → Int64)) => zH_joined P S f x0 x1 r x9 ∧ cok x9.1 ∧ cok x9.2.1) (fun x9 : ZS × ZS × (Nat → Int64) => (CW cI cZ cA o b x9.1 x9.2.1 ++ [(qo, .inl (cJ, 1, .inr (.inl x9.2.2)))])) (va_A (CW cI cZ cA o b P S ++ [(qo, .inl (cJ, 1, .inr (.inl f)))]) sz)) 1 6 (va_A (CW cI cZ cA o b P S ++ [(qo, .inl (cJ, 1, .inr (.inl f)))]) sz) := by
  refine tq_ofWith (cc := bLA_joined) (maxL := 5) (ret := (some .int)) (hs := [(0, 17, 20, 19)]) (by decide) rfl ?_
  intro p e s m args below meth c s₁ B hml htab hv
  obtain ⟨rfl, hsz, hP, hK, hD0, hB⟩ := hv
  have hx := B.exec
  have hb := B.bytes
  have hr := B.returns
  have hown : s.vm.findClass "RingGuardLaw" = some m.cls := findClass_of_methodNamed B.named
  have hlocks := B.notSynchronized
  subst hsz
  have hD := hD0.self (sz := s.heap.size)
  have hA0 := zA0 hD0 hB
  generalize hAe : va_A (CW cI cZ cA o b P S ++ [(qo, .inl (cJ, 1, .inr (.inl f)))]) s.heap.size = A at hD hA0 ⊢
  have hAD := hA0
  have hA : ∀ q : Nat, s.heap.size ≤ q → A q := fun q h => by rw [← hAe]; exact Or.inr h
  have hS : va_S A s.heap s.heap [] := va_S.rf
  have hl := lv_entry ([.ref (o 0), .int x0, .int x1, .ref qo]) (n := 5) (Nat.le_of_ble_eq_true rfl)
  rw [lg_entry_eq]
  generalize (lg_sl ([.ref (o 0), .int x0, .int x1, .ref qo]) ++ List.replicate (5 - (lg_sl ([.ref (o 0), .int x0, .int x1, .ref qo])).length) Slot.unset).toArray = ls at hl ⊢
  have hl : lv_has ls 5 [(0, .ref (o 0)), (1, .int x0), (2, .int x1), (3, .ref qo)] := hl
  refine lv_aload_n hx hb dLA_joined_0 rfl (lv_at hl 3 rfl) ?_
  refine lv_iconst (v := 0) hx hb dLA_joined_1 (by decide) ?_
  refine lv_aload_n hx hb dLA_joined_2 rfl (lv_at hl 0 rfl) ?_
  refine lv_iload_n hx hb dLA_joined_3 rfl (lv_at hl 1 rfl) ?_
  refine lv_iload_n hx hb dLA_joined_4 rfl (lv_at hl 2 rfl) ?_
  have hPc := zPL hP
  have hDc := zDL hD
  rcases hc : fRG_joined P S x0 x1 with k | y
  · have x9 := fRG_joined_cs hc
    subst x9
    refine tq_catch (hp := 20) (tq_runV (As := [.int x0, .int x1]) (rest := [.int 0, .ref qo]) ⟨hx, hb, hml, hown, zno⟩ (tRG_joined_T1 l dC dI cI cZ cJ cA a0 s0 o b hfl P S s.heap.size x0 x1 gP gS hc) (zcw 2 (hB.word (zm4 k4_107) rfl) (hB.word (zm1 k1_1) rfl) (hB.word (zm4 k4_104) rfl) (hB.word (zm4 k4_105) rfl) (hB.word (zm4 k4_106) rfl) rfl rfl (by decide +kernel) ⟨Nat.le_of_ble_eq_true rfl, Nat.le_of_ble_eq_true rfl⟩) ⟨zP_blind, va_recv hK hPc (ci := 0) (q0 := 0) rfl rfl, zP_pre hPc hK hDc hAD (zB_on hB hA0 hS)⟩ rfl rfl hl.1 rfl (lv_room (Nat.le_of_ble_eq_true rfl)) dLA_joined_5 ⟨Nat.le_of_ble_eq_true rfl, Nat.le_of_ble_eq_true rfl⟩) hown htab (zsel1 (by decide) (by decide) (hB.word (zm2 k2_142) rfl) (zfit (args := #[]) (hB.word (zm2 k2_153) rfl))) hS (fun q h => hA q (Nat.le_trans hS.1 h)) (fun xq H1 locs hz1 hk1 hS => ?_)
    have hP := zKeep hP hk1
    refine lv_astore (lv' := [(4, .ref xq), (0, .ref (o 0)), (1, .int x0), (2, .int x1), (3, .ref qo)]) hx hb dLA_joined_20 hl (by decide) rfl (fun ls hl => ?_)
    refine lv_iconst (v := 1) hx hb dLA_joined_22 (by decide) ?_
    exact W.iret (v := 1) hx hb hr (fun t ht hW => ⟨⟨1, (P, S, f), rfl, ⟨by unfold zH_joined; rw [hc]; exact ⟨by decide, rfl⟩, gP, gS⟩, by rw [ht]; exact hP, hD⟩, hS.F ht⟩) hS.2.2 dLA_joined_23
  · skip
    refine zcIL (va_runV (As := [.int x0, .int x1]) (rest := [.int 0, .ref qo]) ⟨hx, hb, hml, hown, zno⟩ (tRG_joined l dC dI cI cZ cJ cA a0 s0 o b P S s.heap.size x0 x1 gP gS y hc) (zcw 2 (hB.word (zm4 k4_107) rfl) (hB.word (zm1 k1_1) rfl) (hB.word (zm4 k4_104) rfl) (hB.word (zm4 k4_105) rfl) (hB.word (zm4 k4_106) rfl) rfl rfl (by decide +kernel) ⟨Nat.le_of_ble_eq_true rfl, Nat.le_of_ble_eq_true rfl⟩) ⟨zP_blind, va_recv hK hPc (ci := 0) (q0 := 0) rfl rfl, zP_pre hPc hK hDc hAD (zB_on hB hA0 hS)⟩ rfl rfl hl.1 rfl (lv_room (Nat.le_of_ble_eq_true rfl)) dLA_joined_5 ⟨Nat.le_of_ble_eq_true rfl, Nat.le_of_ble_eq_true rfl⟩) hP hD hS hA (fun k9 x9 H1 locs hq hP hD hS => ?_)
    generalize x9 = S1 at hq hP hD
    have gS1 := hq.2.1
    have ey := hq.1
    subst ey
    have hP : va_P (dC, dI) zCl (CW cI cZ cA o b P S1 ++ [(qo, .inl (cJ, 1, .inr (.inl f)))]) H1 := hP
    have hD : va_D A (CW cI cZ cA o b P S1 ++ [(qo, .inl (cJ, 1, .inr (.inl f)))]) := hD
    refine lv_if_eq (tgt := 15) hx hb dLA_joined_8 (by decide) (fun cz => ?_) (fun cz => ?_)
    · skip
      refine lv_lconst (v := 0) hx hb dLA_joined_15 (by decide) ?_
      refine va_last hx hb hK hP hD hS 84 2 (zAtL CW_len) rfl (i := 0) (by unfold vp_in; decide) dLA_joined_16 (fun H locs hP hD hS => ?_)
      rw [zSetL CW_len] at hP hD
      refine lv_goto (tgt := 24) hx hb dLA_joined_17 (by decide) ?_
      refine lv_iconst (v := 0) hx hb dLA_joined_24 (by decide) ?_
      refine W.widen (k := 1) (n := 6) (Nat.le_of_ble_eq_true rfl) (Nat.le_of_ble_eq_true rfl) ?_
      exact W.iret (v := 0) hx hb hr (fun t ht hW => ⟨⟨0, (P, S1, (vp_updL f (0 : Int32).toNatClampNeg 0)), rfl, ⟨by unfold zH_joined; rw [hc]; exact ⟨rfl, by show (P, S1, _) = (P, S1, vp_updL f _ (if k9 = 0 then (0 : Int64) else 1)); rw [if_pos cz]⟩, gP, gS1⟩, by rw [ht]; exact hP, hD⟩, hS.F ht⟩) hS.2.2 dLA_joined_25
    · skip
      refine lv_lconst (v := 1) hx hb dLA_joined_11 (by decide) ?_
      refine lv_goto (tgt := 16) hx hb dLA_joined_12 (by decide) ?_
      refine va_last hx hb hK hP hD hS 84 2 (zAtL CW_len) rfl (i := 0) (by unfold vp_in; decide) dLA_joined_16 (fun H locs hP hD hS => ?_)
      rw [zSetL CW_len] at hP hD
      refine lv_goto (tgt := 24) hx hb dLA_joined_17 (by decide) ?_
      refine lv_iconst (v := 0) hx hb dLA_joined_24 (by decide) ?_
      refine W.widen (k := 1) (n := 6) (Nat.le_of_ble_eq_true rfl) (Nat.le_of_ble_eq_true rfl) ?_
      exact W.iret (v := 0) hx hb hr (fun t ht hW => ⟨⟨0, (P, S1, (vp_updL f (0 : Int32).toNatClampNeg 1)), rfl, ⟨by unfold zH_joined; rw [hc]; exact ⟨rfl, by show (P, S1, _) = (P, S1, vp_updL f _ (if k9 = 0 then (0 : Int64) else 1)); rw [if_neg cz]⟩, gP, gS1⟩, by rw [ht]; exact hP, hD⟩, hS.F ht⟩) hS.2.2 dLA_joined_25
