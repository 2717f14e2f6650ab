set_option maxHeartbeats 4000000 in
set_option maxRecDepth 100000 in
theorem t_requireBridge (l : Launch) (dC : Nat → ClassId) (dI : Nat → Nat → Nat) (cI cZ cJ : ClassId) (a0 : Array Value) (s0 : State) (hfl : l.flags = Jvm.pinnedFlags ++ [Jvm.noTraceFlag]) (x : Nat) (b : Nat → Nat) (sz : Nat) (v : Int32) : tq_Met l yRG_requireBridge [Cond.code yRG_requireBridge bRG_requireBridge 2 none] ({ frames := 6, cells := 1, slots := 6, locals := 90 } : Room) (zP zCl dC dI (zTY cI cZ cJ) a0 s0 [.ref x, .int v] sz [(x, .inr (0, [.ref (b 0), .ref (b 1), .ref (b 2), .ref (b 3), .ref (b 4), .ref (b 5), .int 0, .int 0, .int 0, .int 0, .int 0, .int 0, .int 0])), ((b 0), .inr (1, [.int 0, .int 0, .ref (b 10), .ref (b 11), .ref (b 12), .ref (b 13), .ref (b 14), .ref (b 15), .ref (b 16), .ref (b 17), .ref (b 18)]))]) (tq_Q "java/lang/IllegalArgumentException") 1 6 (zN sz) := by
  refine tq_ofW (cc := bRG_requireBridge) (maxL := 2) (ret := none) (by decide) rfl ?_
  intro p e s m args below meth c s₁ B hml htab hv
  obtain ⟨rfl, hsz, hP, hK, hD0, hB⟩ := hv
  have hx := B.exec
  have hb := B.bytes
  have hr := B.returns
  have hown : s.vm.findClass "RingGuard" = some m.cls := findClass_of_methodNamed B.named
  have hlocks := B.notSynchronized
  subst hsz
  have hD := hD0
  have hA0 : ∀ q, zN s.heap.size q → s0.heap.size ≤ q := zA1 hB
  have hAD : ∀ q, zN s0.heap.size q → s0.heap.size ≤ q := fun _ h => h
  have hA : ∀ q : Nat, s.heap.size ≤ q → zN s.heap.size q := fun _ h => h
  have hS : va_S (zN s.heap.size) s.heap s.heap [] := va_S.rf
  have hP : va_P (dC, dI) zCl [(x, .inr (0, [.ref (b 0), .ref (b 1), .ref (b 2), .ref (b 3), .ref (b 4), .ref (b 5), .int 0, .int 0, .int 0, .int 0, .int 0, .int 0, .int 0])), ((b 0), .inr (1, [.int 0, .int 0, .ref (b 10), .ref (b 11), .ref (b 12), .ref (b 13), .ref (b 14), .ref (b 15), .ref (b 16), .ref (b 17), .ref (b 18)]))] s.heap := hP
  have hl := lv_entry ([.ref x, .int v]) (n := 2) (Nat.le_of_ble_eq_true rfl)
  rw [lg_entry_eq]
  generalize (lg_sl ([.ref x, .int v]) ++ List.replicate (2 - (lg_sl ([.ref x, .int v])).length) Slot.unset).toArray = ls at hl ⊢
  have hl : lv_has ls 2 [(0, .ref x), (1, .int v)] := hl
  refine lv_iload_n hx hb dRG_requireBridge_0 rfl (lv_at hl 1 rfl) ?_
  refine lv_if_lt (tgt := 15) hx hb dRG_requireBridge_1 (by decide) (fun c_1 => ?_) (fun c_1 => ?_)
  · obtain ⟨qs, hZ⟩ := hB.str (zm2 k2_160)
    exact zthrow hfl hx hb hown (hB.word (zm2 k2_151) rfl) (hB.word (zm1 k1_14) rfl) hZ (by decide) (hB.words zO_80) (by rw [hml]; exact hl.1) htab hlocks dRG_requireBridge_15 dRG_requireBridge_18 dRG_requireBridge_19 dRG_requireBridge_21 dRG_requireBridge_24 (Nat.le_of_ble_eq_true rfl) (Nat.le_of_ble_eq_true rfl) (Nat.le_of_ble_eq_true rfl) (Nat.le_of_ble_eq_true rfl) hS rfl rfl
  · refine lv_iload_n hx hb dRG_requireBridge_4 rfl (lv_at hl 1 rfl) ?_
    refine lv_aload_n hx hb dRG_requireBridge_5 rfl (lv_at hl 0 rfl) ?_
    have hu0 : ∀ w ∈ u_ws "RingGuard" T_RG 13, w.before ([.ref x, .int v] : List Value).toArray s = true := hB.words zU_RG
    refine va_get (D := (dC, dI)) (ci := 0) (v := .ref (b 0)) (C := "RingGuard") (T := T_RG) (N := 13) hx hb hu0 zid hown hK hP 0 rfl rfl 0 (by decide) (hB.word (zm1 k1_235) rfl) (fun _ h9 => h9) rfl dRG_requireBridge_6 ?_
    have hu1 : ∀ w ∈ u_ws "RingGuard$Plan" T_PL 11, w.before ([.ref x, .int v] : List Value).toArray s = true := hB.words zU_PL
    refine va_get (D := (dC, dI)) (ci := 1) (v := .int 0) (C := "RingGuard$Plan") (T := T_PL) (N := 11) hx hb hu1 zid hown hK hP 1 rfl rfl 0 (by decide) (hB.word (zm1 k1_34) rfl) (fun _ h9 => h9) rfl dRG_requireBridge_9 ?_
    refine lv_icmp_lt (tgt := 25) hx hb dRG_requireBridge_12 (by decide) (fun c9 => absurd c9 c_1) (fun _ => ?_)
    obtain ⟨qs, hZ⟩ := hB.str (zm2 k2_160)
    exact zthrow hfl hx hb hown (hB.word (zm2 k2_151) rfl) (hB.word (zm1 k1_14) rfl) hZ (by decide) (hB.words zO_80) (by rw [hml]; exact hl.1) htab hlocks dRG_requireBridge_15 dRG_requireBridge_18 dRG_requireBridge_19 dRG_requireBridge_21 dRG_requireBridge_24 (Nat.le_of_ble_eq_true rfl) (Nat.le_of_ble_eq_true rfl) (Nat.le_of_ble_eq_true rfl) (Nat.le_of_ble_eq_true rfl) hS rfl rfl
set_option maxHeartbeats 4000000 in
set_option maxRecDepth 100000 in
theorem t_requireLink (l : Launch) (dC : Nat → ClassId) (dI : Nat → Nat → Nat) (cI cZ cJ : ClassId) (a0 : Array Value) (s0 : State) (hfl : l.flags = Jvm.pinnedFlags ++ [Jvm.noTraceFlag]) (x : Nat) (b : Nat → Nat) (sz : Nat) (v : Int32) : tq_Met l yRG_requireLink [Cond.code yRG_requireLink bRG_requireLink 2 none] ({ frames := 6, cells := 1, slots := 6, locals := 90 } : Room) (zP zCl dC dI (zTY cI cZ cJ) a0 s0 [.ref x, .int v] sz [(x, .inr (0, [.ref (b 0), .ref (b 1), .ref (b 2), .ref (b 3), .ref (b 4), .ref (b 5), .int 0, .int 0, .int 0, .int 0, .int 0, .int 0, .int 0])), ((b 0), .inr (1, [.int 0, .int 0, .ref (b 10), .ref (b 11), .ref (b 12), .ref (b 13), .ref (b 14), .ref (b 15), .ref (b 16), .ref (b 17), .ref (b 18)]))]) (tq_Q "java/lang/IllegalArgumentException") 1 6 (zN sz) := by
  refine tq_ofW (cc := bRG_requireLink) (maxL := 2) (ret := none) (by decide) rfl ?_
  intro p e s m args below meth c s₁ B hml htab hv
  obtain ⟨rfl, hsz, hP, hK, hD0, hB⟩ := hv
  have hx := B.exec
  have hb := B.bytes
  have hr := B.returns
  have hown : s.vm.findClass "RingGuard" = some m.cls := findClass_of_methodNamed B.named
  have hlocks := B.notSynchronized
  subst hsz
  have hD := hD0
  have hA0 : ∀ q, zN s.heap.size q → s0.heap.size ≤ q := zA1 hB
  have hAD : ∀ q, zN s0.heap.size q → s0.heap.size ≤ q := fun _ h => h
  have hA : ∀ q : Nat, s.heap.size ≤ q → zN s.heap.size q := fun _ h => h
  have hS : va_S (zN s.heap.size) s.heap s.heap [] := va_S.rf
  have hP : va_P (dC, dI) zCl [(x, .inr (0, [.ref (b 0), .ref (b 1), .ref (b 2), .ref (b 3), .ref (b 4), .ref (b 5), .int 0, .int 0, .int 0, .int 0, .int 0, .int 0, .int 0])), ((b 0), .inr (1, [.int 0, .int 0, .ref (b 10), .ref (b 11), .ref (b 12), .ref (b 13), .ref (b 14), .ref (b 15), .ref (b 16), .ref (b 17), .ref (b 18)]))] s.heap := hP
  have hl := lv_entry ([.ref x, .int v]) (n := 2) (Nat.le_of_ble_eq_true rfl)
  rw [lg_entry_eq]
  generalize (lg_sl ([.ref x, .int v]) ++ List.replicate (2 - (lg_sl ([.ref x, .int v])).length) Slot.unset).toArray = ls at hl ⊢
  have hl : lv_has ls 2 [(0, .ref x), (1, .int v)] := hl
  refine lv_iload_n hx hb dRG_requireLink_0 rfl (lv_at hl 1 rfl) ?_
  refine lv_if_lt (tgt := 15) hx hb dRG_requireLink_1 (by decide) (fun c_1 => ?_) (fun c_1 => ?_)
  · obtain ⟨qs, hZ⟩ := hB.str (zm2 k2_189)
    exact zthrow hfl hx hb hown (hB.word (zm2 k2_151) rfl) (hB.word (zm1 k1_14) rfl) hZ (by decide) (hB.words zO_80) (by rw [hml]; exact hl.1) htab hlocks dRG_requireLink_15 dRG_requireLink_18 dRG_requireLink_19 dRG_requireLink_21 dRG_requireLink_24 (Nat.le_of_ble_eq_true rfl) (Nat.le_of_ble_eq_true rfl) (Nat.le_of_ble_eq_true rfl) (Nat.le_of_ble_eq_true rfl) hS rfl rfl
  · refine lv_iload_n hx hb dRG_requireLink_4 rfl (lv_at hl 1 rfl) ?_
    refine lv_aload_n hx hb dRG_requireLink_5 rfl (lv_at hl 0 rfl) ?_
    have hu0 : ∀ w ∈ u_ws "RingGuard" T_RG 13, w.before ([.ref x, .int v] : List Value).toArray s = true := hB.words zU_RG
    refine va_get (D := (dC, dI)) (ci := 0) (v := .ref (b 0)) (C := "RingGuard") (T := T_RG) (N := 13) hx hb hu0 zid hown hK hP 0 rfl rfl 0 (by decide) (hB.word (zm1 k1_235) rfl) (fun _ h9 => h9) rfl dRG_requireLink_6 ?_
    have hu1 : ∀ w ∈ u_ws "RingGuard$Plan" T_PL 11, w.before ([.ref x, .int v] : List Value).toArray s = true := hB.words zU_PL
    refine va_get (D := (dC, dI)) (ci := 1) (v := .int 0) (C := "RingGuard$Plan") (T := T_PL) (N := 11) hx hb hu1 zid hown hK hP 1 rfl rfl 1 (by decide) (hB.word (zm1 k1_39) rfl) (fun _ h9 => h9) rfl dRG_requireLink_9 ?_
    refine lv_icmp_lt (tgt := 25) hx hb dRG_requireLink_12 (by decide) (fun c9 => absurd c9 c_1) (fun _ => ?_)
    obtain ⟨qs, hZ⟩ := hB.str (zm2 k2_189)
    exact zthrow hfl hx hb hown (hB.word (zm2 k2_151) rfl) (hB.word (zm1 k1_14) rfl) hZ (by decide) (hB.words zO_80) (by rw [hml]; exact hl.1) htab hlocks dRG_requireLink_15 dRG_requireLink_18 dRG_requireLink_19 dRG_requireLink_21 dRG_requireLink_24 (Nat.le_of_ble_eq_true rfl) (Nat.le_of_ble_eq_true rfl) (Nat.le_of_ble_eq_true rfl) (Nat.le_of_ble_eq_true rfl) hS rfl rfl
