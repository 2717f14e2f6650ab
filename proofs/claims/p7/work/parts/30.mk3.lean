theorem k1_116 : tables_1_1[116]? = some (Jvm.Cond.methodLink "RingGuard$Tables" (3 : Nat) ({ cls := "java/lang/Object", name := "<init>", desc := "()V" } : Jvm.MethodName)) := by decide +kernel
theorem k1_117 : tables_1_1[117]? = some (Jvm.Cond.classLink "RingGuard$Tables" (9 : Nat) "[[I") := by decide +kernel
theorem k1_118 : tables_1_1[118]? = some (Jvm.Cond.arrayOver (Jvm.ClassFile.FieldType.array Jvm.ClassFile.FieldType.int)) := by decide +kernel
abbrev yTA_init : MethodName := ⟨"RingGuard$Tables", "<init>", "()V"⟩
abbrev bTA_init : ByteArray := prog_7_method_1_code
theorem dTA_init_0 : decode bTA_init 0 = .ok (.aload_n 0, 1) := by decide +kernel
theorem dTA_init_1 : decode bTA_init 1 = .ok (.invokespecial 3, 3) := by decide +kernel
theorem dTA_init_4 : decode bTA_init 4 = .ok (.aload_n 0, 1) := by decide +kernel
theorem dTA_init_5 : decode bTA_init 5 = .ok (.bipush 48, 2) := by decide +kernel
theorem dTA_init_7 : decode bTA_init 7 = .ok (.sipush 256, 3) := by decide +kernel
theorem dTA_init_10 : decode bTA_init 10 = .ok (.multianewarray 9 2, 4) := by decide +kernel
theorem dTA_init_14 : decode bTA_init 14 = .ok (.putfield 11, 3) := by decide +kernel
theorem dTA_init_17 : decode bTA_init 17 = .ok (.iconst 0, 1) := by decide +kernel
theorem dTA_init_18 : decode bTA_init 18 = .ok (.istore_n 1, 1) := by decide +kernel
theorem dTA_init_19 : decode bTA_init 19 = .ok (.iload_n 1, 1) := by decide +kernel
theorem dTA_init_20 : decode bTA_init 20 = .ok (.bipush 48, 2) := by decide +kernel
theorem dTA_init_22 : decode bTA_init 22 = .ok (.if_icmp .ge 19, 3) := by decide +kernel
theorem dTA_init_25 : decode bTA_init 25 = .ok (.aload_n 0, 1) := by decide +kernel
theorem dTA_init_26 : decode bTA_init 26 = .ok (.getfield 11, 3) := by decide +kernel
theorem dTA_init_29 : decode bTA_init 29 = .ok (.iload_n 1, 1) := by decide +kernel
theorem dTA_init_30 : decode bTA_init 30 = .ok (.aaload, 1) := by decide +kernel
theorem dTA_init_31 : decode bTA_init 31 = .ok (.iconst (-1), 1) := by decide +kernel
theorem dTA_init_32 : decode bTA_init 32 = .ok (.invokestatic 16, 3) := by decide +kernel
theorem dTA_init_35 : decode bTA_init 35 = .ok (.iinc 1 1, 3) := by decide +kernel
theorem dTA_init_38 : decode bTA_init 38 = .ok (.goto (-19), 3) := by decide +kernel
theorem dTA_init_41 : decode bTA_init 41 = .ok (.return_, 1) := by decide +kernel
section MZT
variable {p : Program} {l : Launch} {e : Env} {R : Room} {s : State} {m : MethodId} {args : Array Value} {below : List Frame} {meth : Method} {c : Code} {T : State} {H : Heap} {locs : List Loc} {cells slots : Nat} {Q : State → Prop}
theorem mz_new2 {cc : ByteArray} {pc index N M : Nat} {ls : Array Slot} {rest : List Value} {own : String} {n k : Int32} (hexec : p.tables.exec = Jvm.exec) (hb : c.code = cc) (hown : s.vm.findClass own = some m.cls)
    (hclink : (Cond.classLink own index ("[" ++ (FieldType.array .int).toString)).before args s = true) (hover : ∃ ci c k, s.vm.findClass (FieldType.array .int).toString = some ci ∧ s.vm.classes[c]? = some k ∧ k.kind = .array ci (.array .int) ∧ s.vm.findClass ("[" ++ (FieldType.array .int).toString) = some c) (harr : (Cond.arrayClass .int).before args s = true)
    (hn : ¬ n < 0) (hk : ¬ k < 0) (hN : n.toNatClampNeg = N) (hM : k.toNatClampNeg = M) (hb1 : N * 4 ≤ 536870912) (hb2 : M * 4 ≤ 536870912)
    (hcells : cells + (1 + N) ≤ R.cells) (hslots : slots + (N + N * M) ≤ R.slots) (hdg : decode cc pc = .ok (.multianewarray index 2, 4))
    (kk : ∀ (H1 : Heap) (cA ci : ClassId), s.vm.findClass (FieldType.array .int).toString = some ci → ArrOfT s cA (.array .int) → s.vm.findClass ("[" ++ (FieldType.array .int).toString) = some cA → ArrOfT s ci .int → H1.size = H.size + 1 + N → (∀ q : Nat, q < H.size → H1[q]? = H[q]?) →
      H1[H.size]? = some (arrV cA N (fun j => .ref (H.size + 1 + j))) → (∀ j : Nat, j < N → H1[H.size + 1 + j]? = some (arrV ci M (fun _ => .int 0))) →
      W p l e R s m args below meth c H1 (locs ++ (List.range N).map fun j => (⟨H.size, j⟩ : Loc)) (cells + 1 + N) (slots + N + N * M) Q (F0 m (pc + 4) ls (.ref H.size :: rest))) :
    W p l e R s m args below meth c H locs cells slots Q (F0 m pc ls (.int k :: .int n :: rest)) := by
  subst hN; subst hM
  intro T hT X
  subst hT
  subst hb
  have hpl : e.platform.magicAccessors = ({} : Platform).magicAccessors := by rw [X.admits.platform]
  obtain ⟨ci, cA, kA, hcomp, hkA, hkindA, hnameA⟩ := hover
  obtain ⟨ci', kC, cc0, hcomp', hkC, hkindC⟩ := Cond.arrayClass_spec harr
  have ecomp : ci' = ci := Option.some.inj (hcomp'.symm.trans hcomp)
  subst ecomp
  obtain ⟨c0, hfc0, hcl⟩ := Cond.classLink_spec hown hclink e.platform hpl
  cases hnameA.symm.trans hfc0
  obtain ⟨hg₁, hwarm₁, hready₁⟩ := State.classEntry (e := e) X.warmed hcl
  generalize T.vm.noted m.cls index (.cls cA) = vm₁ at hg₁ hwarm₁ hready₁
  have hal : s.vm.Alike vm₁ := hwarm₁.alike
  obtain ⟨kA₁, hkA₁, heA⟩ := hal.2.2 _ _ hkA
  obtain ⟨kC₁, hkC₁, heC⟩ := hal.2.2 _ _ hkC
  have hkindA₁ : kA₁.kind = .array ci' (.array .int) := by rw [heA]; exact hkindA
  have hkindC₁ : kC₁.kind = .array cc0 .int := by rw [heC]; exact hkindC
  have X₁ := X.noted hwarm₁
  obtain ⟨hr1, hr2⟩ := X.roomAbove hcells hslots
  have XF := mz_stand X₁ cA ci' n.toNatClampNeg k.toNatClampNeg n.toNatClampNeg
  obtain ⟨f1, f2, f3, f4⟩ := mz_st_facts (T.setVm vm₁) cA ci' n.toNatClampNeg k.toNatClampNeg n.toNatClampNeg
  have eout : mz_out cA n.toNatClampNeg T.heap.size n.toNatClampNeg = arrV cA n.toNatClampNeg (fun j => .ref (T.heap.size + 1 + j)) := by
    unfold mz_out arrV
    congr 1
    apply Array.ext
    · simp
    · intro j h1 h2
      have : j < n.toNatClampNeg := by simpa using h1
      simp [this]
  obtain ⟨t, a1, b1⟩ := kk (mz_st (T.setVm vm₁) cA ci' n.toNatClampNeg k.toNatClampNeg n.toNatClampNeg).heap cA ci' hcomp (fun n z => ⟨fun k h => (by cases h), kA, hkA, ci', hkindA⟩) hnameA (fun n z => ⟨fun k h => (by cases h), kC, hkC, cc0, hkindC⟩)
    f1 (fun q hq => mz_st_old (T.setVm vm₁) cA ci' _ _ hq _) (by rw [← eout]; exact f2) (fun j hj => mz_st_row (T.setVm vm₁) cA ci' _ _ _ j hj) _ rfl XF
  refine ⟨t, ?_, b1⟩
  have hl1 : ¬ n.toNatClampNeg > e.platform.arrayLengthLimit := by rw [Launch.admits_arrayLengthLimit X.admits]; omega
  have hh1 : ¬ n.toNatClampNeg * componentBytes (.array .int) > e.platform.maxHeapBytes := by
    rw [Launch.admits_maxHeapBytes X.admits]; show ¬ n.toNatClampNeg * 4 > 536870912; omega
  have hl2 : ¬ k.toNatClampNeg > e.platform.arrayLengthLimit := by rw [Launch.admits_arrayLengthLimit X.admits]; omega
  have hh2 : ¬ k.toNatClampNeg * componentBytes .int > e.platform.maxHeapBytes := by
    rw [Launch.admits_maxHeapBytes X.admits]; show ¬ k.toNatClampNeg * 4 > 536870912; omega
  jvm_step X.here [hexec, hdg]
  simp only [Op.multianewarray.sem, wp_bind', W.resolveClassAt_links (State.method?_setTop (F0 m pc ls (.int k :: .int n :: rest)) X.here.top) hg₁]
  rw [W.popN, if_neg (by decide)]
  refine ⟨F0 m pc ls (.int k :: .int n :: rest), State.topJava?_setTop' (s := T.setVm vm₁) (F0 m pc ls (.int k :: .int n :: rest)) X.here.top, [.int n, .int k], rest, rfl, rfl, ?_⟩
  simp only [List.mapM_cons, List.mapM_nil, wp_bind', wp_pure']
  refine mz_make2 (k := kA₁) (kc := kC₁) (ci := ci') (cc := cc0) hkA₁ hkindA₁ hkC₁ hkindC₁ hn hk hl1 hh1 hl2 hh2 (by show T.heap.size + 1 + _ ≤ _; omega) (by show T.slotsUsed + _ + _ ≤ _; omega) (fun d' acts' => ?_)
  have eS : ((T.setTop (F0 m pc ls (.int k :: .int n :: rest))).setVm vm₁).setTop { (F0 m pc ls (.int k :: .int n :: rest)) with stack := rest } = (T.setVm vm₁).setTop { (F0 m pc ls (.int k :: .int n :: rest)) with stack := rest } := by
    show ((T.setVm vm₁).setTop (F0 m pc ls (.int k :: .int n :: rest))).setTop _ = _
    rw [State.setTop_setTop]
  rw [eS, mz_st_setTop]
  simp only [wp_bind', W.mark, W.pushRef, State.topJava?_setTop' _ XF.here.top, Option.some.injEq, exists_eq_left', State.setTop_setTop, State.heap_setTop]
  intro acts
  simp [jvm, XF.here.top]
  exact a1
end MZT
/-! Tables(): 48 rows of 256 ints, made by one instruction, each filled -/
def zrows (cI q : Nat) (F : Nat → Nat → Int32) : va_W := (List.range 48).map (fun j => (q + 1 + j, .inl (cI, 256, .inl (F j))))
def ztw (h q cA cI : Nat) (F : Nat → Nat → Int32) : va_W := (h, .inr (3, [.ref q])) :: (q, .inl (cA, 48, .inr (.inr (.inr (.inr (fun j => some (q + 1 + j))))))) :: zrows cI q F
theorem zrows_get {cI q j : Nat} {F : Nat → Nat → Int32} (hj : j < 48) : (zrows cI q F)[j]? = some (q + 1 + j, .inl (cI, 256, .inl (F j))) := by
  unfold zrows
  rw [List.getElem?_map, List.getElem?_range hj]
  rfl
theorem zrows_of {cI q j : Nat} {F : Nat → Nat → Int32} {x : Nat × va_E} (hx : (zrows cI q F)[j]? = some x) : j < 48 ∧ x = (q + 1 + j, .inl (cI, 256, .inl (F j))) := by
  have hl : j < (zrows cI q F).length := (List.getElem?_eq_some_iff.mp hx).1
  have hj : j < 48 := by simpa [zrows] using hl
  rw [zrows_get hj] at hx
  exact ⟨hj, (Option.some.inj hx).symm⟩
/-- the world out of its three kinds of cells -/
theorem ztw_P {D : va_G} {h q cA cI : Nat} {F : Nat → Nat → Int32} {H : Heap} (h0 : va_P D zCl [(h, .inr (3, [.ref q]))] H) (h1 : H[q]? = some (vp_cell cA (48, .inr (.inr (.inr (.inr (fun j => some (q + 1 + j)))))))) (h2 : ∀ j, j < 48 → H[q + 1 + j]? = some (vp_cell cI (256, .inl (F j)))) : va_P D zCl (ztw h q cA cI F) H := by
  intro k x hx
  match k, hx with
  | 0, hx => exact h0 0 x hx
  | 1, hx => cases hx; exact h1
  | k + 2, hx =>
    obtain ⟨hj, rfl⟩ := zrows_of (show (zrows cI q F)[k]? = some x from hx)
    exact h2 k hj
theorem ztw_D {A : Nat → Prop} {h q cA cI : Nat} {F : Nat → Nat → Int32} (hh : h < q) (hAh : A h) (hA : ∀ x, q ≤ x → A x) : va_D A (ztw h q cA cI F) := by
  have ad : ∀ (k : Nat) (x : Nat × va_E), (ztw h q cA cI F)[k]? = some x → (k = 0 ∧ x.1 = h) ∨ (1 ≤ k ∧ x.1 = q + (k - 1)) := by
    intro k x hx
    match k, hx with
    | 0, hx => cases hx; exact Or.inl ⟨rfl, rfl⟩
    | 1, hx => cases hx; exact Or.inr ⟨by omega, rfl⟩
    | k + 2, hx =>
      obtain ⟨hj, rfl⟩ := zrows_of (show (zrows cI q F)[k]? = some x from hx)
      exact Or.inr ⟨by omega, by show q + 1 + k = q + (k + 2 - 1); omega⟩
  refine ⟨fun i j x y hi hj hxy => ?_, fun k x hx => ?_⟩
  · rcases ad i x hi with ⟨a1, a2⟩ | ⟨a1, a2⟩ <;> rcases ad j y hj with ⟨b1, b2⟩ | ⟨b1, b2⟩ <;> omega
  · rcases ad k x hx with ⟨a1, a2⟩ | ⟨a1, a2⟩
    · rw [a2]; exact hAh
    · rw [a2]; exact hA _ (by omega)
set_option maxHeartbeats 1000000 in
set_option maxRecDepth 100000 in
theorem zc_Tables (l : Launch) (dC : Nat → ClassId) (dI : Nat → Nat → Nat) (cI cZ cJ cA : ClassId) (a0 : Array Value) (s0 : State) (h sz : Nat) : Met l yTA_init [Cond.code yTA_init bTA_init 2 none] ({ frames := 1, cells := 49, slots := 12336, locals := 23 } : Room) (zP zCl dC dI (zTZ cI cZ cJ cA) a0 s0 [.ref h] sz [(h, .inr (3, [.null]))]) (zQw zCl dC dI (fun wo => ∃ (q : Nat) (F : Nat → Nat → Int32), (∀ j, j < 48 → ∀ i, i < 256 → F j i = -1) ∧ wo = ztw h q cA cI F) (va_A [(h, .inr (3, [.null]))] sz)) 49 12336 (va_A [(h, .inr (3, [.null]))] sz) := by
  refine Met.ofW (cc := bTA_init) (maxL := 2) (ret := none) (by decide) rfl ?_
  intro p e s m args below meth c s₁ B hml hv
  obtain ⟨rfl, hsz, hP, hK, hD0, hB⟩ := hv
  have hx := B.exec
  have hb := B.bytes
  have hr := B.returns
  have hown : s.vm.findClass "RingGuard$Tables" = some m.cls := findClass_of_methodNamed B.named
  have hlocks := B.notSynchronized
  have hin : meth.name = "<init>" := (name_of_methodNamed B.named B.method).1
  subst hsz
  have hD := hD0.self (sz := s.heap.size)
  have hA0 := zA0 hD0 hB
  generalize hAe : va_A [(h, .inr (3, [.null]))] s.heap.size = A at hD hA0 ⊢
  have hAD := hA0
  have hA : ∀ q : Nat, s.heap.size ≤ q → A q := fun q h => by rw [← hAe]; exact Or.inr h
  have hS : va_S A s.heap s.heap [] := va_S.rf
  have hP : va_P (dC, dI) zCl [(h, .inr (3, [.null]))] s.heap := hP
  have hhlt : h < s.heap.size := (hP 0 _ rfl).lt
  have hAh : A h := hD.2 0 _ rfl
  have hl := lv_entry ([.ref h]) (n := 2) (Nat.le_of_ble_eq_true rfl)
  rw [lg_entry_eq]
  generalize (lg_sl ([.ref h]) ++ List.replicate (2 - (lg_sl ([.ref h])).length) Slot.unset).toArray = ls at hl ⊢
  have hl : lv_has ls 2 [(0, .ref h)] := hl
  have hu3 : ∀ w ∈ u_ws "RingGuard$Tables" T_TA 1, w.before ([.ref h] : List Value).toArray s = true := hB.words zU_TA
  refine lv_aload_n hx hb dTA_init_0 rfl (lv_at hl 0 rfl) ?_
  refine W.objInit hx hb hown (hB.word (zm1 k1_116) rfl) (hB.word (zm1 k1_23) rfl) (hB.word (zm1 k1_24) rfl) rfl (by rw [hml]; exact hl.1) rfl dTA_init_1 (Nat.le_of_ble_eq_true rfl) (Nat.le_of_ble_eq_true rfl) ?_
  refine W.eq (g2 := F0 m 4 ls []) rfl ?_
  refine lv_aload_n hx hb dTA_init_4 rfl (lv_at hl 0 rfl) ?_
  refine lv_bipush (v := 48) hx hb dTA_init_5 (by decide) ?_
  refine lv_sipush (v := 256) hx hb dTA_init_7 (by decide) ?_
  refine mz_new2 (N := 48) (M := 256) hx hb hown (hB.word (zm1 k1_117) rfl) (zover hB (zm1 k1_118)) (zac_int hB) (by decide) (by decide) (by decide) (by decide) (by decide) (by decide) (Nat.le_of_ble_eq_true rfl) (Nat.le_of_ble_eq_true rfl) dTA_init_10 (fun H1 cB ci hci hcA hnm hcI2 hsz1 hold1 hout hrow => ?_)
  have hcb : cA = cB := Option.some.inj ((hK.2 3 _ rfl).2.symm.trans hnm)
  subst hcb
  have hcc : ci = cI := Option.some.inj (hci.symm.trans (hK.2 0 _ rfl).2)
  subst hcc
  obtain ⟨q, hq⟩ : ∃ q, q = s.heap.size := ⟨_, rfl⟩
  rw [← hq] at hout hrow hsz1 ⊢
  have hP1 : va_P (dC, dI) zCl [(h, .inr (3, [.null]))] H1 := zKeep hP hold1
  have hPw : va_P (dC, dI) zCl ((h, .inr (3, [.null])) :: (q, .inl (cA, 48, .inr (.inr (.inr (.inr (fun j => some (q + 1 + j))))))) :: zrows ci q (fun _ _ => 0)) H1 := by
    intro k x hx
    match k, hx with
    | 0, hx => exact hP1 0 x hx
    | 1, hx => cases hx; exact hout
    | k + 2, hx =>
      obtain ⟨hj, rfl⟩ := zrows_of (show (zrows ci q (fun _ _ => 0))[k]? = some x from hx)
      exact hrow k hj
  have hDt : va_D A (ztw h q cA ci (fun _ _ => 0)) := ztw_D (by omega) hAh (fun x hx => hA x (by omega))
  have hDw : va_D A ((h, .inr (3, [.null])) :: (q, .inl (cA, 48, .inr (.inr (.inr (.inr (fun j => some (q + 1 + j))))))) :: zrows ci q (fun _ _ => 0)) := by
    have key : ∀ (k : Nat) (x : Nat × va_E), ((h, .inr (3, [.null])) :: (q, .inl (cA, 48, .inr (.inr (.inr (.inr (fun j => some (q + 1 + j))))))) :: zrows ci q (fun _ _ => 0) : va_W)[k]? = some x → ∃ y : Nat × va_E, (ztw h q cA ci (fun _ _ => 0))[k]? = some y ∧ y.1 = x.1 := by
      intro k x hx
      match k, hx with
      | 0, hx => cases hx; exact ⟨_, rfl, rfl⟩
      | k + 1, hx => exact ⟨x, hx, rfl⟩
    refine ⟨fun i j x y hi hj hxy => ?_, fun k x hx => ?_⟩
    · obtain ⟨x', h1, h2⟩ := key i x hi
      obtain ⟨y', h3, h4⟩ := key j y hj
      exact hDt.1 i j x' y' h1 h3 (by rw [h2, h4]; exact hxy)
    · obtain ⟨x', h1, h2⟩ := key k x hx
      rw [← h2]; exact hDt.2 k x' h1
  have hS1 : va_S A s.heap H1 ([] ++ (List.range 48).map fun j => (⟨q, j⟩ : Loc)) := ⟨by rw [hsz1]; omega, fun x h1 _ => hold1 x h1, fun x hx => by
    rw [List.nil_append] at hx
    obtain ⟨j, -, rfl⟩ := List.mem_map.mp hx
    exact hA q (by omega)⟩
  refine va_putF (D := (dC, dI)) (ci := 3) (v := .ref q) (ty := .array (.array .int)) (C := "RingGuard$Tables") (T := T_TA) (N := 1) hx hb hu3 zid ty_TA ok_TA nm_TA hown hK hPw hDw hS1 0 rfl rfl 0 (by decide) (hB.word (zm1 k1_120) rfl) (fun _ h9 => h9) rfl hin rfl (by decide +kernel) rfl rfl (Nat.le_of_ble_eq_true rfl) dTA_init_14 (fun H locs hP hD hS => ?_)
  have hP : va_P (dC, dI) zCl (ztw h q cA ci (fun _ _ => 0)) H := hP
  refine lv_iconst (v := 0) hx hb dTA_init_17 (by decide) ?_
  refine lv_istore_n (lv' := [(1, .int 0), (0, .ref h)]) hx hb dTA_init_18 rfl hl (by decide) rfl (fun ls hl => ?_)
  refine zfor (N := 48) (fun k => ∀ (H : Heap) (locs : List Loc) (ls : Array Slot) (F : Nat → Nat → Int32), (∀ j, j < k → ∀ i, i < 256 → F j i = -1) → va_P (dC, dI) zCl (ztw h q cA ci F) H → va_S A s.heap H locs → lv_has ls 2 [(0, .ref h), (1, .int (nI k))] → W p l e _ s m _ below meth c H locs _ _ _ (F0 m 19 ls [])) ?_ ?_ H locs ls (fun _ _ => 0) (fun j h => absurd h (Nat.not_lt_zero _)) hP hS (lv_sub hl [1, 0] rfl)
  · intro k hk ih H locs ls F hFv hP hS hl
    have hD : va_D A (ztw h q cA ci F) := ztw_D (by omega) hAh (fun x hx => hA x (by omega))
    refine lv_iload_n hx hb dTA_init_19 rfl (lv_at hl 1 rfl) ?_
    refine lv_bipush (v := 48) hx hb dTA_init_20 (by decide) ?_
    refine lv_icmp_ge (tgt := 41) hx hb dTA_init_22 (by decide) (fun c9 => absurd c9 (nI_ge (b := 48) hk (by decide))) (fun _ => ?_)
    refine lv_aload_n hx hb dTA_init_25 rfl (lv_at hl 0 rfl) ?_
    refine va_get (D := (dC, dI)) (ci := 3) (v := .ref q) (C := "RingGuard$Tables") (T := T_TA) (N := 1) hx hb hu3 zid hown hK hP 0 rfl rfl 0 (by decide) (hB.word (zm1 k1_120) rfl) (fun _ h9 => h9) rfl dTA_init_26 ?_
    refine lv_iload_n hx hb dTA_init_29 rfl (lv_at hl 1 rfl) ?_
    have hkc : (nI k).toNatClampNeg = k := nI_clamp (Nat.lt_trans hk (by decide))
    have hq1 : H[q]? = some (arrV cA 48 (fun j => va_rf (some (q + 1 + j)))) := hP 1 (q, .inl (cA, 48, .inr (.inr (.inr (.inr (fun j => some (q + 1 + j))))))) rfl
    have hin1 : ¬ (nI k < 0 ∨ (arrV cA 48 (fun j => va_rf (some (q + 1 + j)))).slots.size ≤ (nI k).toNatClampNeg) := by rw [arrV_size]; exact vp_in_nI hk (by decide)
    have hv1 : (arrV cA 48 (fun j => va_rf (some (q + 1 + j)))).slots[(nI k).toNatClampNeg]? = some (.ref (q + 1 + k)) := by rw [hkc, arrV_read _ _ hk]; rfl
    have hkn1 : (arrV cA 48 (fun j => va_rf (some (q + 1 + j)))).vm ≠ .unknown := fun z => by cases z
    have har1 : s.isArrayOf (arrV cA 48 (fun j => va_rf (some (q + 1 + j)))) (.array .int) := hcA 48 _
    refine W.aald (v := .ref (q + 1 + k)) (ty := .array .int) (cell := arrV cA 48 (fun j => va_rf (some (q + 1 + j)))) (j := nI k) (a := q) (g := F0 m 30 ls [.int (nI k), .ref q]) (rest := []) hx hb hq1 har1 rfl hkn1 hin1 hv1 rfl rfl dTA_init_30 ?_
    refine W.eq (g2 := F0 m 31 ls [.ref (q + 1 + k)]) rfl ?_
    refine lv_iconst (v := (-1)) hx hb dTA_init_31 (by decide) ?_
    have hrk : (ztw h q cA ci F)[k + 2]? = some (q + 1 + k, .inl (ci, 256, .inl (F k))) := zrows_get hk
    have hPc : va_P (dC, dI) zCl [(q + 1 + k, .inl (ci, 256, .inl (F k)))] H := fun i x hx => by
      match i, hx with
      | 0, hx => cases hx; exact hP (k + 2) _ hrk
    have hDc : va_D A [(q + 1 + k, .inl (ci, 256, .inl (F k)))] := ⟨fun i j x y hi hj _ => by
      match i, j, hi, hj with
      | 0, 0, _, _ => rfl, fun i x hx => by
      match i, hx with
      | 0, hx => cases hx; exact hD.2 (k + 2) _ hrk⟩
    have hF : ∀ x, va_A [(q + 1 + k, .inl (ci, 256, .inl (F k)))] H.size x → A x := fun x hx => by
      rcases hx with ⟨i, e9, hx⟩ | hx
      · exact hDc.2 i (x, e9) hx
      · exact hA x (Nat.le_trans hS.1 hx)
    refine va_callv (va_runS (As := [.ref (q + 1 + k), .int (-1)]) (rest := []) ⟨hx, hb, hml, hown, zno⟩ (zw_fill l dC dI ci cZ cJ cA a0 s0 (q + 1 + k) 256 H.size (F k) (-1) (by decide)) ⟨zcb 2 (hB.word (zm1 k1_33) rfl) (hB.word (zm1 k1_3) rfl) (hB.word (zm1 k1_119) rfl) rfl rfl (by decide +kernel) ⟨Nat.le_of_ble_eq_true rfl, Nat.le_of_ble_eq_true rfl⟩, hB.word (zm1 k1_32) rfl⟩ ⟨zP_blind, zP_pre hPc hK hDc hAD (zB_on hB hA0 hS)⟩ rfl rfl hl.1 rfl (lv_room (Nat.le_of_ble_eq_true rfl)) dTA_init_32 ⟨Nat.le_of_ble_eq_true rfl, Nat.le_of_ble_eq_true rfl⟩) hS (fun x _ hx => hF x hx) hF (fun wo t H1 locs ht _ hw hBw hz hkp hS => ?_)
    obtain ⟨f2, hf2, rfl⟩ := hw
    obtain ⟨hP1, -⟩ := hBw
    rw [ht] at hP1
    have hoth : ∀ x : Nat, x < H.size → x ≠ q + 1 + k → H1[x]? = H[x]? := fun x hx hne => hkp x hx (fun hx2 => by
      rcases hx2 with ⟨i, e9, hi⟩ | h2
      · match i, hi with
        | 0, hi => cases hi; exact hne rfl
      · omega)
    have hP : va_P (dC, dI) zCl (ztw h q cA ci (fun j => if j = k then f2 else F j)) H1 := by
      refine ztw_P (fun i x hx => ?_) ?_ (fun j hj => ?_)
      · match i, hx with
        | 0, hx =>
          cases hx
          have g := hP 0 _ rfl
          exact g.kept (hoth h g.lt (by omega))
      · have g := hP 1 _ rfl
        have gl := g.lt
        show H1[q]? = _
        rw [hoth q gl (by omega)]
        exact g
      · by_cases e9 : j = k
        · subst e9
          have g := hP1 0 _ rfl
          rw [if_pos rfl]
          exact g
        · have g := hP (j + 2) _ (zrows_get hj)
          have gl : q + 1 + j < H.size := g.lt
          rw [if_neg e9, hoth (q + 1 + j) gl (by omega)]
          exact g
    refine lv_iinc (v := nI (k + 1)) (lv' := [(1, .int (nI (k + 1))), (0, .ref h)]) hx hb dTA_init_35 hl (k := 1) rfl (nI_1 k) (by decide) rfl (fun ls hl => ?_)
    refine lv_goto (tgt := 19) hx hb dTA_init_38 (by decide) ?_
    refine ih H1 locs ls (fun j => if j = k then f2 else F j) (fun j hj i hi => ?_) hP hS (lv_sub hl [1, 0] rfl)
    show (if j = k then f2 else F j) i = -1
    by_cases e9 : j = k
    · rw [if_pos e9]; exact hf2 i hi
    · rw [if_neg e9]; exact hFv j (by omega) i hi
  · intro H locs ls F hFv hP hS hl
    have hD : va_D A (ztw h q cA ci F) := ztw_D (by omega) hAh (fun x hx => hA x (by omega))
    refine lv_iload_n hx hb dTA_init_19 rfl (lv_at hl 1 rfl) ?_
    refine lv_bipush (v := 48) hx hb dTA_init_20 (by decide) ?_
    refine lv_icmp_ge (tgt := 41) hx hb dTA_init_22 (by decide) (fun _ => ?_) (fun c9 => absurd (nI_le (a := 48) (b := 48) (Nat.le_refl _) (by decide)) c9)
    refine W.widen (k := 49) (n := 12336) (Nat.le_of_ble_eq_true rfl) (Nat.le_of_ble_eq_true rfl) ?_
    exact W.vret hx hb hr (fun t ht hW => ⟨⟨_, rfl, ⟨q, F, hFv, rfl⟩, by rw [ht]; exact hP, hD⟩, hS.F ht⟩) hS.2.2 dTA_init_41
