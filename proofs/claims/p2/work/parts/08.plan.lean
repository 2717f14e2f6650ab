set_option maxHeartbeats 4000000 in
set_option maxRecDepth 100000 in
theorem zp_portOf (l : Launch) (dC : Nat → ClassId) (dI : Nat → Nat → Nat) (cI cZ cJ : ClassId) (a0 : Array Value) (s0 : State) (b : Nat → Nat) (nb nl sz : Nat) (fA fB : Nat → Nat) (br lk : Nat) (hlk : lk < 60) (hbr : br < 48) (gA : ∀ j, fA j < 48) (gB : ∀ j, fB j < 48) : Met l yPL_portOf [Cond.code yPL_portOf bPL_portOf 3 (some .int)] ({ frames := 0, cells := 0, slots := 0, locals := 0 } : Room) (zP zCl dC dI (zTY cI cZ cJ) a0 s0 [.ref (b 0), .int (nI br), .int (nI lk)] sz [((b 0), .inr (1, [.int (nI nb), .int (nI nl), .ref (b 10), .ref (b 11), .ref (b 12), .ref (b 13), .ref (b 14), .ref (b 15), .ref (b 16), .ref (b 17), .ref (b 18)])), ((b 10), .inl (cI, 60, .inl (fun j => nI (fA j)))), ((b 11), .inl (cI, 60, .inl (fun j => nI (fB j))))]) (zQp (fun r => r = zport fA fB br lk) sz) 0 0 (zN sz) := by
  refine Met.ofW (cc := bPL_portOf) (maxL := 3) (ret := (some .int)) (by decide) rfl ?_
  intro p e s m args below meth c s₁ B hml hv
  obtain ⟨rfl, hsz, hP, hK, hD0, hB⟩ := hv
  have hx := B.exec
  have hb := B.bytes
  have hr := B.returns
  have hown : s.vm.findClass "RingGuard$Plan" = some m.cls := findClass_of_methodNamed B.named
  have hlocks := B.notSynchronized
  subst hsz
  have hD := hD0
  have hA0 : ∀ q, zN s.heap.size q → s0.heap.size ≤ q := zA1 hB
  have hAD : ∀ q, zN s0.heap.size q → s0.heap.size ≤ q := fun _ h => h
  have hA : ∀ q : Nat, s.heap.size ≤ q → zN s.heap.size q := fun _ h => h
  have hS : va_S (zN s.heap.size) s.heap s.heap [] := va_S.rf
  have hP : va_P (dC, dI) zCl [((b 0), .inr (1, [.int (nI nb), .int (nI nl), .ref (b 10), .ref (b 11), .ref (b 12), .ref (b 13), .ref (b 14), .ref (b 15), .ref (b 16), .ref (b 17), .ref (b 18)])), ((b 10), .inl (cI, 60, .inl (fun j => nI (fA j)))), ((b 11), .inl (cI, 60, .inl (fun j => nI (fB j))))] s.heap := hP
  have hl := lv_entry ([.ref (b 0), .int (nI br), .int (nI lk)]) (n := 3) (Nat.le_of_ble_eq_true rfl)
  rw [lg_entry_eq]
  generalize (lg_sl ([.ref (b 0), .int (nI br), .int (nI lk)]) ++ List.replicate (3 - (lg_sl ([.ref (b 0), .int (nI br), .int (nI lk)])).length) Slot.unset).toArray = ls at hl ⊢
  have hl : lv_has ls 3 [(0, .ref (b 0)), (1, .int (nI br)), (2, .int (nI lk))] := hl
  refine lv_aload_n hx hb dPL_portOf_0 rfl (lv_at hl 0 rfl) ?_
  have hu1 : ∀ w ∈ u_ws "RingGuard$Plan" T_PL 11, w.before ([.ref (b 0), .int (nI br), .int (nI lk)] : List Value).toArray s = true := hB.words zU_PL
  refine va_get (D := (dC, dI)) (ci := 1) (v := .ref (b 10)) (C := "RingGuard$Plan") (T := T_PL) (N := 11) hx hb hu1 zid hown hK hP 0 rfl rfl 2 (by decide) (hB.word (zm1 k1_41) rfl) (fun _ h9 => h9) rfl dPL_portOf_1 ?_
  refine lv_iload_n hx hb dPL_portOf_4 rfl (lv_at hl 2 rfl) ?_
  refine va_iald hx hb hK hP 1 0 rfl rfl (i := nI lk) (vp_in_nI (by omega) (by decide)) dPL_portOf_5 ?_
  refine lv_topi (fun k1 ek1 => ?_)
  have ek1 : k1 = nI (fA lk) := by rw [ek1]; show nI (fA (nI _).toNatClampNeg) = _; rw [nI_clamp (by omega)]
  subst ek1
  refine lv_iload_n hx hb dPL_portOf_6 rfl (lv_at hl 1 rfl) ?_
  refine lv_icmp_ne (tgt := 14) hx hb dPL_portOf_7 (by decide) (fun c_7 => ?_) (fun c_7 => ?_)
  · refine lv_aload_n hx hb dPL_portOf_14 rfl (lv_at hl 0 rfl) ?_
    refine va_get (D := (dC, dI)) (ci := 1) (v := .ref (b 11)) (C := "RingGuard$Plan") (T := T_PL) (N := 11) hx hb hu1 zid hown hK hP 0 rfl rfl 3 (by decide) (hB.word (zm1 k1_43) rfl) (fun _ h9 => h9) rfl dPL_portOf_15 ?_
    refine lv_iload_n hx hb dPL_portOf_18 rfl (lv_at hl 2 rfl) ?_
    refine va_iald hx hb hK hP 2 0 rfl rfl (i := nI lk) (vp_in_nI (by omega) (by decide)) dPL_portOf_19 ?_
    refine lv_topi (fun k2 ek2 => ?_)
    have ek2 : k2 = nI (fB lk) := by rw [ek2]; show nI (fB (nI _).toNatClampNeg) = _; rw [nI_clamp (by omega)]
    subst ek2
    refine lv_iload_n hx hb dPL_portOf_20 rfl (lv_at hl 1 rfl) ?_
    refine lv_icmp_ne (tgt := 32) hx hb dPL_portOf_21 (by decide) (fun c_21 => ?_) (fun c_21 => ?_)
    · refine lv_iconst (v := (-1)) hx hb dPL_portOf_32 (by decide) ?_
      refine W.widen (k := 0) (n := 0) (Nat.le_of_ble_eq_true rfl) (Nat.le_of_ble_eq_true rfl) ?_
      exact W.iret (v := (-1)) hx hb hr (fun t ht hW => ⟨⟨(-1), (), rfl, (zport_n c_7 c_21), trivial⟩, hS.F ht⟩) hS.2.2 dPL_portOf_33
    · refine lv_iconst (v := 2) hx hb dPL_portOf_24 (by decide) ?_
      refine lv_iload_n hx hb dPL_portOf_25 rfl (lv_at hl 2 rfl) ?_
      refine lv_imul hx hb dPL_portOf_26 ?_
      refine lv_topi (fun k3 ek3 => ?_)
      have ek3 : k3 = nI (2 * lk) := ek3.trans (nI_mul 2 lk)
      subst ek3
      refine lv_iconst (v := 1) hx hb dPL_portOf_27 (by decide) ?_
      refine lv_iadd hx hb dPL_portOf_28 ?_
      refine lv_topi (fun k4 ek4 => ?_)
      have ek4 : k4 = nI ((2 * lk) + 1) := ek4.trans (nI_add (2 * lk) 1)
      subst ek4
      refine lv_goto (tgt := 33) hx hb dPL_portOf_29 (by decide) ?_
      refine W.widen (k := 0) (n := 0) (Nat.le_of_ble_eq_true rfl) (Nat.le_of_ble_eq_true rfl) ?_
      exact W.iret (v := nI ((2 * lk) + 1)) hx hb hr (fun t ht hW => ⟨⟨nI ((2 * lk) + 1), (), rfl, (zport_b (gB lk) hbr c_7 c_21), trivial⟩, hS.F ht⟩) hS.2.2 dPL_portOf_33
  · refine lv_iconst (v := 2) hx hb dPL_portOf_10 (by decide) ?_
    refine lv_iload_n hx hb dPL_portOf_11 rfl (lv_at hl 2 rfl) ?_
    refine lv_imul hx hb dPL_portOf_12 ?_
    refine lv_topi (fun k5 ek5 => ?_)
    have ek5 : k5 = nI (2 * lk) := ek5.trans (nI_mul 2 lk)
    subst ek5
    refine W.widen (k := 0) (n := 0) (Nat.le_of_ble_eq_true rfl) (Nat.le_of_ble_eq_true rfl) ?_
    exact W.iret (v := nI (2 * lk)) hx hb hr (fun t ht hW => ⟨⟨nI (2 * lk), (), rfl, (zport_a (gA lk) hbr c_7), trivial⟩, hS.F ht⟩) hS.2.2 dPL_portOf_13
set_option maxHeartbeats 4000000 in
set_option maxRecDepth 100000 in
theorem zp_otherPort (l : Launch) (dC : Nat → ClassId) (dI : Nat → Nat → Nat) (cI cZ cJ : ClassId) (a0 : Array Value) (s0 : State) (b : Nat → Nat) (nb nl sz : Nat) (fP : Nat → Nat) (pT : Nat → Int32) (pt : Nat) (hpt : pt < 120) (gP : ∀ j, fP j < 288) (gT : ∀ j, zidx 120 (pT j)) : Met l yPL_otherPort [Cond.code yPL_otherPort bPL_otherPort 3 (some .int)] ({ frames := 0, cells := 0, slots := 0, locals := 0 } : Room) (zP zCl dC dI (zTY cI cZ cJ) a0 s0 [.ref (b 0), .int (nI pt)] sz [((b 0), .inr (1, [.int (nI nb), .int (nI nl), .ref (b 10), .ref (b 11), .ref (b 12), .ref (b 13), .ref (b 14), .ref (b 15), .ref (b 16), .ref (b 17), .ref (b 18)])), ((b 15), .inl (cI, 120, .inl (fun j => nI (fP j)))), ((b 17), .inl (cI, 576, .inl pT))]) (zQp (fun r => zidx 120 r) sz) 0 0 (zN sz) := by
  refine Met.ofW (cc := bPL_otherPort) (maxL := 3) (ret := (some .int)) (by decide) rfl ?_
  intro p e s m args below meth c s₁ B hml hv
  obtain ⟨rfl, hsz, hP, hK, hD0, hB⟩ := hv
  have hx := B.exec
  have hb := B.bytes
  have hr := B.returns
  have hown : s.vm.findClass "RingGuard$Plan" = some m.cls := findClass_of_methodNamed B.named
  have hlocks := B.notSynchronized
  subst hsz
  have hD := hD0
  have hA0 : ∀ q, zN s.heap.size q → s0.heap.size ≤ q := zA1 hB
  have hAD : ∀ q, zN s0.heap.size q → s0.heap.size ≤ q := fun _ h => h
  have hA : ∀ q : Nat, s.heap.size ≤ q → zN s.heap.size q := fun _ h => h
  have hS : va_S (zN s.heap.size) s.heap s.heap [] := va_S.rf
  have hP : va_P (dC, dI) zCl [((b 0), .inr (1, [.int (nI nb), .int (nI nl), .ref (b 10), .ref (b 11), .ref (b 12), .ref (b 13), .ref (b 14), .ref (b 15), .ref (b 16), .ref (b 17), .ref (b 18)])), ((b 15), .inl (cI, 120, .inl (fun j => nI (fP j)))), ((b 17), .inl (cI, 576, .inl pT))] s.heap := hP
  have hl := lv_entry ([.ref (b 0), .int (nI pt)]) (n := 3) (Nat.le_of_ble_eq_true rfl)
  rw [lg_entry_eq]
  generalize (lg_sl ([.ref (b 0), .int (nI pt)]) ++ List.replicate (3 - (lg_sl ([.ref (b 0), .int (nI pt)])).length) Slot.unset).toArray = ls at hl ⊢
  have hl : lv_has ls 3 [(0, .ref (b 0)), (1, .int (nI pt))] := hl
  have hfp := gP pt
  refine lv_iconst (v := 2) hx hb dPL_otherPort_0 (by decide) ?_
  refine lv_aload_n hx hb dPL_otherPort_1 rfl (lv_at hl 0 rfl) ?_
  have hu1 : ∀ w ∈ u_ws "RingGuard$Plan" T_PL 11, w.before ([.ref (b 0), .int (nI pt)] : List Value).toArray s = true := hB.words zU_PL
  refine va_get (D := (dC, dI)) (ci := 1) (v := .ref (b 15)) (C := "RingGuard$Plan") (T := T_PL) (N := 11) hx hb hu1 zid hown hK hP 0 rfl rfl 7 (by decide) (hB.word (zm1 k1_51) rfl) (fun _ h9 => h9) rfl dPL_otherPort_2 ?_
  refine lv_iload_n hx hb dPL_otherPort_5 rfl (lv_at hl 1 rfl) ?_
  refine va_iald hx hb hK hP 1 0 rfl rfl (i := nI pt) (vp_in_nI (by omega) (by decide)) dPL_otherPort_6 ?_
  refine lv_topi (fun k1 ek1 => ?_)
  have ek1 : k1 = nI (fP pt) := by rw [ek1]; show nI (fP (nI _).toNatClampNeg) = _; rw [nI_clamp (by omega)]
  subst ek1
  refine lv_imul hx hb dPL_otherPort_7 ?_
  refine lv_topi (fun k2 ek2 => ?_)
  have ek2 : k2 = nI (2 * (fP pt)) := ek2.trans (nI_mul 2 (fP pt))
  subst ek2
  refine lv_istore_n (lv' := [(2, .int (nI (2 * (fP pt)))), (0, .ref (b 0)), (1, .int (nI pt))]) hx hb dPL_otherPort_8 rfl hl (by decide) rfl (fun ls hl => ?_)
  refine lv_aload_n hx hb dPL_otherPort_9 rfl (lv_at hl 1 rfl) ?_
  refine va_get (D := (dC, dI)) (ci := 1) (v := .ref (b 17)) (C := "RingGuard$Plan") (T := T_PL) (N := 11) hx hb hu1 zid hown hK hP 0 rfl rfl 9 (by decide) (hB.word (zm1 k1_56) rfl) (fun _ h9 => h9) rfl dPL_otherPort_10 ?_
  refine lv_iload_n hx hb dPL_otherPort_13 rfl (lv_at hl 0 rfl) ?_
  refine va_iald hx hb hK hP 2 0 rfl rfl (i := nI (2 * (fP pt))) (vp_in_nI (by omega) (by decide)) dPL_otherPort_14 ?_
  refine lv_topi (fun k3 ek3 => ?_)
  refine lv_iload_n hx hb dPL_otherPort_15 rfl (lv_at hl 2 rfl) ?_
  refine lv_icmp_ne (tgt := 30) hx hb dPL_otherPort_16 (by decide) (fun c_16 => ?_) (fun c_16 => ?_)
  · refine lv_aload_n hx hb dPL_otherPort_30 rfl (lv_at hl 1 rfl) ?_
    refine va_get (D := (dC, dI)) (ci := 1) (v := .ref (b 17)) (C := "RingGuard$Plan") (T := T_PL) (N := 11) hx hb hu1 zid hown hK hP 0 rfl rfl 9 (by decide) (hB.word (zm1 k1_56) rfl) (fun _ h9 => h9) rfl dPL_otherPort_31 ?_
    refine lv_iload_n hx hb dPL_otherPort_34 rfl (lv_at hl 0 rfl) ?_
    refine va_iald hx hb hK hP 2 0 rfl rfl (i := nI (2 * (fP pt))) (vp_in_nI (by omega) (by decide)) dPL_otherPort_35 ?_
    refine lv_topi (fun k4 ek4 => ?_)
    refine W.widen (k := 0) (n := 0) (Nat.le_of_ble_eq_true rfl) (Nat.le_of_ble_eq_true rfl) ?_
    exact W.iret (v := k4) hx hb hr (fun t ht hW => ⟨⟨k4, (), rfl, (by show zidx 120 k4; rw [ek4]; exact gT _), trivial⟩, hS.F ht⟩) hS.2.2 dPL_otherPort_36
  · refine lv_aload_n hx hb dPL_otherPort_19 rfl (lv_at hl 1 rfl) ?_
    refine va_get (D := (dC, dI)) (ci := 1) (v := .ref (b 17)) (C := "RingGuard$Plan") (T := T_PL) (N := 11) hx hb hu1 zid hown hK hP 0 rfl rfl 9 (by decide) (hB.word (zm1 k1_56) rfl) (fun _ h9 => h9) rfl dPL_otherPort_20 ?_
    refine lv_iload_n hx hb dPL_otherPort_23 rfl (lv_at hl 0 rfl) ?_
    refine lv_iconst (v := 1) hx hb dPL_otherPort_24 (by decide) ?_
    refine lv_iadd hx hb dPL_otherPort_25 ?_
    refine lv_topi (fun k5 ek5 => ?_)
    have ek5 : k5 = nI ((2 * (fP pt)) + 1) := ek5.trans (nI_add (2 * (fP pt)) 1)
    subst ek5
    refine va_iald hx hb hK hP 2 0 rfl rfl (i := nI ((2 * (fP pt)) + 1)) (vp_in_nI (by omega) (by decide)) dPL_otherPort_26 ?_
    refine lv_topi (fun k6 ek6 => ?_)
    refine lv_goto (tgt := 36) hx hb dPL_otherPort_27 (by decide) ?_
    refine W.widen (k := 0) (n := 0) (Nat.le_of_ble_eq_true rfl) (Nat.le_of_ble_eq_true rfl) ?_
    exact W.iret (v := k6) hx hb hr (fun t ht hW => ⟨⟨k6, (), rfl, (by show zidx 120 k6; rw [ek6]; exact gT _), trivial⟩, hS.F ht⟩) hS.2.2 dPL_otherPort_36
set_option maxHeartbeats 4000000 in
set_option maxRecDepth 100000 in
theorem zp_isOwner (l : Launch) (dC : Nat → ClassId) (dI : Nat → Nat → Nat) (cI cZ cJ : ClassId) (a0 : Array Value) (s0 : State) (b : Nat → Nat) (nb nl sz : Nat) (oB : Nat → Int32) (pl : Nat) (hpl : pl < 288) : Met l yPL_isOwner [Cond.code yPL_isOwner bPL_isOwner 2 (some .boolean)] ({ frames := 0, cells := 0, slots := 0, locals := 0 } : Room) (zP zCl dC dI (zTY cI cZ cJ) a0 s0 [.ref (b 0), .int (nI pl)] sz [((b 0), .inr (1, [.int (nI nb), .int (nI nl), .ref (b 10), .ref (b 11), .ref (b 12), .ref (b 13), .ref (b 14), .ref (b 15), .ref (b 16), .ref (b 17), .ref (b 18)])), ((b 13), .inl (cI, 6, .inl oB))]) (zQp (fun r => True) sz) 0 0 (zN sz) := by
  refine Met.ofW (cc := bPL_isOwner) (maxL := 2) (ret := (some .boolean)) (by decide) rfl ?_
  intro p e s m args below meth c s₁ B hml hv
  obtain ⟨rfl, hsz, hP, hK, hD0, hB⟩ := hv
  have hx := B.exec
  have hb := B.bytes
  have hr := B.returns
  have hown : s.vm.findClass "RingGuard$Plan" = some m.cls := findClass_of_methodNamed B.named
  have hlocks := B.notSynchronized
  subst hsz
  have hD := hD0
  have hA0 : ∀ q, zN s.heap.size q → s0.heap.size ≤ q := zA1 hB
  have hAD : ∀ q, zN s0.heap.size q → s0.heap.size ≤ q := fun _ h => h
  have hA : ∀ q : Nat, s.heap.size ≤ q → zN s.heap.size q := fun _ h => h
  have hS : va_S (zN s.heap.size) s.heap s.heap [] := va_S.rf
  have hP : va_P (dC, dI) zCl [((b 0), .inr (1, [.int (nI nb), .int (nI nl), .ref (b 10), .ref (b 11), .ref (b 12), .ref (b 13), .ref (b 14), .ref (b 15), .ref (b 16), .ref (b 17), .ref (b 18)])), ((b 13), .inl (cI, 6, .inl oB))] s.heap := hP
  have hl := lv_entry ([.ref (b 0), .int (nI pl)]) (n := 2) (Nat.le_of_ble_eq_true rfl)
  rw [lg_entry_eq]
  generalize (lg_sl ([.ref (b 0), .int (nI pl)]) ++ List.replicate (2 - (lg_sl ([.ref (b 0), .int (nI pl)])).length) Slot.unset).toArray = ls at hl ⊢
  have hl : lv_has ls 2 [(0, .ref (b 0)), (1, .int (nI pl))] := hl
  refine lv_aload_n hx hb dPL_isOwner_0 rfl (lv_at hl 0 rfl) ?_
  have hu1 : ∀ w ∈ u_ws "RingGuard$Plan" T_PL 11, w.before ([.ref (b 0), .int (nI pl)] : List Value).toArray s = true := hB.words zU_PL
  refine va_get (D := (dC, dI)) (ci := 1) (v := .ref (b 13)) (C := "RingGuard$Plan") (T := T_PL) (N := 11) hx hb hu1 zid hown hK hP 0 rfl rfl 5 (by decide) (hB.word (zm1 k1_47) rfl) (fun _ h9 => h9) rfl dPL_isOwner_1 ?_
  refine lv_iload_n hx hb dPL_isOwner_4 rfl (lv_at hl 1 rfl) ?_
  refine lv_bipush (v := 6) hx hb dPL_isOwner_5 (by decide) ?_
  refine lv_irem hx hb dPL_isOwner_7 (by decide) ?_
  refine lv_topi (fun k1 ek1 => ?_)
  have ek1 : k1 = nI (pl % 6) := ek1.trans (nI_rem (a := pl) (b := 6) (by omega) (by decide))
  subst ek1
  refine va_iald hx hb hK hP 1 0 rfl rfl (i := nI (pl % 6)) (vp_in_nI (by omega) (by decide)) dPL_isOwner_8 ?_
  refine lv_topi (fun k2 ek2 => ?_)
  refine lv_iload_n hx hb dPL_isOwner_9 rfl (lv_at hl 1 rfl) ?_
  refine lv_bipush (v := 6) hx hb dPL_isOwner_10 (by decide) ?_
  refine lv_idiv hx hb dPL_isOwner_12 (by decide) ?_
  refine lv_topi (fun k3 ek3 => ?_)
  have ek3 : k3 = nI (pl / 6) := ek3.trans (nI_div (a := pl) (b := 6) (by omega) (by decide))
  subst ek3
  refine lv_icmp_ne (tgt := 20) hx hb dPL_isOwner_13 (by decide) (fun c_13 => ?_) (fun c_13 => ?_)
  · refine lv_iconst (v := 0) hx hb dPL_isOwner_20 (by decide) ?_
    refine W.widen (k := 0) (n := 0) (Nat.le_of_ble_eq_true rfl) (Nat.le_of_ble_eq_true rfl) ?_
    exact W.zret (v := 0) (ty := .boolean) hx hb hr rfl (fun t ht hW => ⟨⟨0, (), rfl, trivial, trivial⟩, hS.F ht⟩) hS.2.2 dPL_isOwner_21
  · refine lv_iconst (v := 1) hx hb dPL_isOwner_16 (by decide) ?_
    refine lv_goto (tgt := 21) hx hb dPL_isOwner_17 (by decide) ?_
    refine W.widen (k := 0) (n := 0) (Nat.le_of_ble_eq_true rfl) (Nat.le_of_ble_eq_true rfl) ?_
    exact W.zret (v := 1) (ty := .boolean) hx hb hr rfl (fun t ht hW => ⟨⟨1, (), rfl, trivial, trivial⟩, hS.F ht⟩) hS.2.2 dPL_isOwner_21
set_option maxHeartbeats 4000000 in
set_option maxRecDepth 100000 in
theorem zp_countLinks (l : Launch) (dC : Nat → ClassId) (dI : Nat → Nat → Nat) (cI cZ cJ : ClassId) (a0 : Array Value) (s0 : State) (b : Nat → Nat) (nb nl sz : Nat) (fA fB fR : Nat → Nat) (br rg : Nat) (hnl : nl ≤ 60) (hbr : br < 48) (hrg : rg < 6) (gA : ∀ j, fA j < 48) (gB : ∀ j, fB j < 48) (gR : ∀ j, fR j < 6) : Met l yPL_countLinks [Cond.code yPL_countLinks bPL_countLinks 5 (some .int)] ({ frames := 1, cells := 0, slots := 0, locals := 22 } : Room) (zP zCl dC dI (zTY cI cZ cJ) a0 s0 [.ref (b 0), .int (nI br), .int (nI rg)] sz [((b 0), .inr (1, [.int (nI nb), .int (nI nl), .ref (b 10), .ref (b 11), .ref (b 12), .ref (b 13), .ref (b 14), .ref (b 15), .ref (b 16), .ref (b 17), .ref (b 18)])), ((b 10), .inl (cI, 60, .inl (fun j => nI (fA j)))), ((b 11), .inl (cI, 60, .inl (fun j => nI (fB j)))), ((b 12), .inl (cI, 60, .inl (fun j => nI (fR j))))]) (zQp (fun r => r = nI (zdeg fA fB fR br rg nl)) sz) 0 0 (zN sz) := by
  refine Met.ofW (cc := bPL_countLinks) (maxL := 5) (ret := (some .int)) (by decide) rfl ?_
  intro p e s m args below meth c s₁ B hml hv
  obtain ⟨rfl, hsz, hP, hK, hD0, hB⟩ := hv
  have hx := B.exec
  have hb := B.bytes
  have hr := B.returns
  have hown : s.vm.findClass "RingGuard$Plan" = some m.cls := findClass_of_methodNamed B.named
  have hlocks := B.notSynchronized
  subst hsz
  have hD := hD0
  have hA0 : ∀ q, zN s.heap.size q → s0.heap.size ≤ q := zA1 hB
  have hAD : ∀ q, zN s0.heap.size q → s0.heap.size ≤ q := fun _ h => h
  have hA : ∀ q : Nat, s.heap.size ≤ q → zN s.heap.size q := fun _ h => h
  have hS : va_S (zN s.heap.size) s.heap s.heap [] := va_S.rf
  have hP : va_P (dC, dI) zCl [((b 0), .inr (1, [.int (nI nb), .int (nI nl), .ref (b 10), .ref (b 11), .ref (b 12), .ref (b 13), .ref (b 14), .ref (b 15), .ref (b 16), .ref (b 17), .ref (b 18)])), ((b 10), .inl (cI, 60, .inl (fun j => nI (fA j)))), ((b 11), .inl (cI, 60, .inl (fun j => nI (fB j)))), ((b 12), .inl (cI, 60, .inl (fun j => nI (fR j))))] s.heap := hP
  have hl := lv_entry ([.ref (b 0), .int (nI br), .int (nI rg)]) (n := 5) (Nat.le_of_ble_eq_true rfl)
  rw [lg_entry_eq]
  generalize (lg_sl ([.ref (b 0), .int (nI br), .int (nI rg)]) ++ List.replicate (5 - (lg_sl ([.ref (b 0), .int (nI br), .int (nI rg)])).length) Slot.unset).toArray = ls at hl ⊢
  have hl : lv_has ls 5 [(0, .ref (b 0)), (1, .int (nI br)), (2, .int (nI rg))] := hl
  refine lv_iconst (v := 0) hx hb dPL_countLinks_0 (by decide) ?_
  refine lv_istore_n (lv' := [(3, .int 0), (0, .ref (b 0)), (1, .int (nI br)), (2, .int (nI rg))]) hx hb dPL_countLinks_1 rfl hl (by decide) rfl (fun ls hl => ?_)
  refine lv_iconst (v := 0) hx hb dPL_countLinks_2 (by decide) ?_
  refine lv_istore (lv' := [(4, .int 0), (3, .int 0), (0, .ref (b 0)), (1, .int (nI br)), (2, .int (nI rg))]) hx hb dPL_countLinks_3 hl (by decide) rfl (fun ls hl => ?_)
  refine zfor (N := nl) (fun k => ∀ (H : Heap) (locs : List Loc) (ls : Array Slot), va_P (dC, dI) zCl [((b 0), .inr (1, [.int (nI nb), .int (nI nl), .ref (b 10), .ref (b 11), .ref (b 12), .ref (b 13), .ref (b 14), .ref (b 15), .ref (b 16), .ref (b 17), .ref (b 18)])), ((b 10), .inl (cI, 60, .inl (fun j => nI (fA j)))), ((b 11), .inl (cI, 60, .inl (fun j => nI (fB j)))), ((b 12), .inl (cI, 60, .inl (fun j => nI (fR j))))] H → va_D (zN s0.heap.size) [((b 0), .inr (1, [.int (nI nb), .int (nI nl), .ref (b 10), .ref (b 11), .ref (b 12), .ref (b 13), .ref (b 14), .ref (b 15), .ref (b 16), .ref (b 17), .ref (b 18)])), ((b 10), .inl (cI, 60, .inl (fun j => nI (fA j)))), ((b 11), .inl (cI, 60, .inl (fun j => nI (fB j)))), ((b 12), .inl (cI, 60, .inl (fun j => nI (fR j))))] → va_S (zN s.heap.size) s.heap H locs → lv_has ls 5 [(0, .ref (b 0)), (1, .int (nI br)), (2, .int (nI rg)), (3, .int (nI (zdeg fA fB fR br rg k))), (4, .int (nI k))] → W p l e _ s m _ below meth c H locs _ _ _ (F0 m 5 ls [])) ?_ ?_ s.heap [] ls hP hD hS (lv_sub hl [2, 3, 4, 1, 0] rfl)
  · intro k hk ih H locs ls   hP hD hS hl
    refine lv_iload hx hb dPL_countLinks_5 (lv_at hl 4 rfl) ?_
    refine lv_aload_n hx hb dPL_countLinks_7 rfl (lv_at hl 0 rfl) ?_
    have hu1 : ∀ w ∈ u_ws "RingGuard$Plan" T_PL 11, w.before ([.ref (b 0), .int (nI br), .int (nI rg)] : List Value).toArray s = true := hB.words zU_PL
    refine va_get (D := (dC, dI)) (ci := 1) (v := .int (nI nl)) (C := "RingGuard$Plan") (T := T_PL) (N := 11) hx hb hu1 zid hown hK hP 0 rfl rfl 1 (by decide) (hB.word (zm1 k1_37) rfl) (fun _ h9 => h9) rfl dPL_countLinks_8 ?_
    refine lv_icmp_ge (tgt := 45) hx hb dPL_countLinks_11 (by decide) (fun c9 => absurd c9 (nI_ge (b := nl) hk (by omega))) (fun _ => ?_)
    refine lv_aload_n hx hb dPL_countLinks_14 rfl (lv_at hl 0 rfl) ?_
    refine va_get (D := (dC, dI)) (ci := 1) (v := .ref (b 12)) (C := "RingGuard$Plan") (T := T_PL) (N := 11) hx hb hu1 zid hown hK hP 0 rfl rfl 4 (by decide) (hB.word (zm1 k1_45) rfl) (fun _ h9 => h9) rfl dPL_countLinks_15 ?_
    refine lv_iload hx hb dPL_countLinks_18 (lv_at hl 4 rfl) ?_
    refine va_iald hx hb hK hP 3 0 rfl rfl (i := nI k) (vp_in_nI (by omega) (by decide)) dPL_countLinks_20 ?_
    refine lv_topi (fun k1 ek1 => ?_)
    have ek1 : k1 = nI (fR k) := by rw [ek1]; show nI (fR (nI _).toNatClampNeg) = _; rw [nI_clamp (by omega)]
    subst ek1
    refine lv_iload_n hx hb dPL_countLinks_21 rfl (lv_at hl 2 rfl) ?_
    refine lv_icmp_ne (tgt := 39) hx hb dPL_countLinks_22 (by decide) (fun c_22 => ?_) (fun c_22 => ?_)
    · refine lv_iinc (v := nI (k + 1)) (lv' := [(4, .int (nI (k + 1))), (0, .ref (b 0)), (1, .int (nI br)), (2, .int (nI rg)), (3, .int (nI (zdeg fA fB fR br rg k)))]) hx hb dPL_countLinks_39 hl (k := 4) rfl (nI_1 k) (by decide) rfl (fun ls hl => ?_)
      refine lv_goto (tgt := 5) hx hb dPL_countLinks_42 (by decide) ?_
      have e9_3 : nI (zdeg fA fB fR br rg k) = nI (zdeg fA fB fR br rg (k + 1)) := (by first | exact zdeg_0 (gR k) hrg c_22 | exact zdeg_1 (by omega) c_22 c_33 | exact zdeg_2 (gR k) hrg (by omega) c_22 c_33)
      exact ih H locs ls hP hD hS (by rw [← e9_3]; exact lv_sub hl [1, 2, 3, 4, 0] rfl)
    · refine lv_aload_n hx hb dPL_countLinks_25 rfl (lv_at hl 0 rfl) ?_
      refine lv_iload_n hx hb dPL_countLinks_26 rfl (lv_at hl 1 rfl) ?_
      refine lv_iload hx hb dPL_countLinks_27 (lv_at hl 4 rfl) ?_
      have hPc : va_P (dC, dI) zCl [((b 0), .inr (1, [.int (nI nb), .int (nI nl), .ref (b 10), .ref (b 11), .ref (b 12), .ref (b 13), .ref (b 14), .ref (b 15), .ref (b 16), .ref (b 17), .ref (b 18)])), ((b 10), .inl (cI, 60, .inl (fun j => nI (fA j)))), ((b 11), .inl (cI, 60, .inl (fun j => nI (fB j))))] H := hP.sub [0, 1, 2] rfl
      have hDc : va_D (zN s0.heap.size) [((b 0), .inr (1, [.int (nI nb), .int (nI nl), .ref (b 10), .ref (b 11), .ref (b 12), .ref (b 13), .ref (b 14), .ref (b 15), .ref (b 16), .ref (b 17), .ref (b 18)])), ((b 10), .inl (cI, 60, .inl (fun j => nI (fA j)))), ((b 11), .inl (cI, 60, .inl (fun j => nI (fB j))))] := hD.sub [0, 1, 2] (by decide) rfl
      refine zcallp (va_runV (As := [.int (nI br), .int (nI k)]) (rest := []) ⟨hx, hb, hml, hown, zno⟩ (zp_portOf l dC dI cI cZ cJ a0 s0 b nb nl H.size fA fB br k (by omega) hbr gA gB) (zcw 2 (hB.word (zm2 k2_212) rfl) (hB.word (zm1 k1_2) rfl) (hB.word (zm2 k2_209) rfl) (hB.word (zm2 k2_210) rfl) (hB.word (zm2 k2_211) rfl) rfl rfl (by decide +kernel) ⟨Nat.le_of_ble_eq_true rfl, Nat.le_of_ble_eq_true rfl⟩) ⟨zP_blind, va_recv hK hP (ci := 1) (q0 := 0) rfl rfl, zP_pre hPc hK hDc hAD (zB_on hB hA0 hS)⟩ rfl rfl hl.1 rfl (lv_room (Nat.le_of_ble_eq_true rfl)) dPL_countLinks_29 ⟨Nat.le_of_ble_eq_true rfl, Nat.le_of_ble_eq_true rfl⟩) hS hA (fun r2 H1 locs hr2 hz1 hk1 hS => ?_)
      have hP := zKeep hP hk1
      generalize H1 = H at hP hS ⊢
      have hP : va_P (dC, dI) zCl [((b 0), .inr (1, [.int (nI nb), .int (nI nl), .ref (b 10), .ref (b 11), .ref (b 12), .ref (b 13), .ref (b 14), .ref (b 15), .ref (b 16), .ref (b 17), .ref (b 18)])), ((b 10), .inl (cI, 60, .inl (fun j => nI (fA j)))), ((b 11), .inl (cI, 60, .inl (fun j => nI (fB j)))), ((b 12), .inl (cI, 60, .inl (fun j => nI (fR j))))] H := hP
      subst hr2
      refine lv_iconst (v := (-1)) hx hb dPL_countLinks_32 (by decide) ?_
      refine lv_icmp_eq (tgt := 39) hx hb dPL_countLinks_33 (by decide) (fun c_33 => ?_) (fun c_33 => ?_)
      · refine lv_iinc (v := nI (k + 1)) (lv' := [(4, .int (nI (k + 1))), (0, .ref (b 0)), (1, .int (nI br)), (2, .int (nI rg)), (3, .int (nI (zdeg fA fB fR br rg k)))]) hx hb dPL_countLinks_39 hl (k := 4) rfl (nI_1 k) (by decide) rfl (fun ls hl => ?_)
        refine lv_goto (tgt := 5) hx hb dPL_countLinks_42 (by decide) ?_
        have e9_3 : nI (zdeg fA fB fR br rg k) = nI (zdeg fA fB fR br rg (k + 1)) := (by first | exact zdeg_0 (gR k) hrg c_22 | exact zdeg_1 (by omega) c_22 c_33 | exact zdeg_2 (gR k) hrg (by omega) c_22 c_33)
        exact ih H locs ls hP hD hS (by rw [← e9_3]; exact lv_sub hl [1, 2, 3, 4, 0] rfl)
      · refine lv_iinc (v := nI ((zdeg fA fB fR br rg k) + 1)) (lv' := [(3, .int (nI ((zdeg fA fB fR br rg k) + 1))), (0, .ref (b 0)), (1, .int (nI br)), (2, .int (nI rg)), (4, .int (nI k))]) hx hb dPL_countLinks_36 hl (k := 3) rfl (nI_1 (zdeg fA fB fR br rg k)) (by decide) rfl (fun ls hl => ?_)
        refine lv_iinc (v := nI (k + 1)) (lv' := [(4, .int (nI (k + 1))), (3, .int (nI ((zdeg fA fB fR br rg k) + 1))), (0, .ref (b 0)), (1, .int (nI br)), (2, .int (nI rg))]) hx hb dPL_countLinks_39 hl (k := 4) rfl (nI_1 k) (by decide) rfl (fun ls hl => ?_)
        refine lv_goto (tgt := 5) hx hb dPL_countLinks_42 (by decide) ?_
        have e9_3 : nI ((zdeg fA fB fR br rg k) + 1) = nI (zdeg fA fB fR br rg (k + 1)) := (by first | exact zdeg_0 (gR k) hrg c_22 | exact zdeg_1 (by omega) c_22 c_33 | exact zdeg_2 (gR k) hrg (by omega) c_22 c_33)
        exact ih H locs ls hP hD hS (by rw [← e9_3]; exact lv_sub hl [2, 3, 4, 1, 0] rfl)
  · intro H locs ls   hP hD hS hl
    refine lv_iload hx hb dPL_countLinks_5 (lv_at hl 4 rfl) ?_
    refine lv_aload_n hx hb dPL_countLinks_7 rfl (lv_at hl 0 rfl) ?_
    have hu1 : ∀ w ∈ u_ws "RingGuard$Plan" T_PL 11, w.before ([.ref (b 0), .int (nI br), .int (nI rg)] : List Value).toArray s = true := hB.words zU_PL
    refine va_get (D := (dC, dI)) (ci := 1) (v := .int (nI nl)) (C := "RingGuard$Plan") (T := T_PL) (N := 11) hx hb hu1 zid hown hK hP 0 rfl rfl 1 (by decide) (hB.word (zm1 k1_37) rfl) (fun _ h9 => h9) rfl dPL_countLinks_8 ?_
    refine lv_icmp_ge (tgt := 45) hx hb dPL_countLinks_11 (by decide) (fun _ => ?_) (fun c9 => absurd (nI_le (a := nl) (b := nl) (Nat.le_refl _) (by omega)) c9)
    refine lv_iload_n hx hb dPL_countLinks_45 rfl (lv_at hl 3 rfl) ?_
    refine W.widen (k := 0) (n := 0) (Nat.le_of_ble_eq_true rfl) (Nat.le_of_ble_eq_true rfl) ?_
    exact W.iret (v := nI (zdeg fA fB fR br rg nl)) hx hb hr (fun t ht hW => ⟨⟨nI (zdeg fA fB fR br rg nl), (), rfl, rfl, trivial⟩, hS.F ht⟩) hS.2.2 dPL_countLinks_46
set_option maxHeartbeats 4000000 in
set_option maxRecDepth 100000 in
theorem zp_hasLinks (l : Launch) (dC : Nat → ClassId) (dI : Nat → Nat → Nat) (cI cZ cJ : ClassId) (a0 : Array Value) (s0 : State) (b : Nat → Nat) (nb nl sz : Nat) (fR : Nat → Nat) (rg : Nat) (hnl : nl ≤ 60) (hrg : rg < 6) (gR : ∀ j, fR j < 6) : Met l yPL_hasLinks [Cond.code yPL_hasLinks bPL_hasLinks 3 (some .boolean)] ({ frames := 0, cells := 0, slots := 0, locals := 0 } : Room) (zP zCl dC dI (zTY cI cZ cJ) a0 s0 [.ref (b 0), .int (nI rg)] sz [((b 0), .inr (1, [.int (nI nb), .int (nI nl), .ref (b 10), .ref (b 11), .ref (b 12), .ref (b 13), .ref (b 14), .ref (b 15), .ref (b 16), .ref (b 17), .ref (b 18)])), ((b 12), .inl (cI, 60, .inl (fun j => nI (fR j))))]) (zQp (fun r => (r = 1 ∧ ∃ j, j < nl ∧ fR j = rg) ∨ (r = 0 ∧ ∀ j, j < nl → ¬ (fR j = rg))) sz) 0 0 (zN sz) := by
  refine Met.ofW (cc := bPL_hasLinks) (maxL := 3) (ret := (some .boolean)) (by decide) rfl ?_
  intro p e s m args below meth c s₁ B hml hv
  obtain ⟨rfl, hsz, hP, hK, hD0, hB⟩ := hv
  have hx := B.exec
  have hb := B.bytes
  have hr := B.returns
  have hown : s.vm.findClass "RingGuard$Plan" = some m.cls := findClass_of_methodNamed B.named
  have hlocks := B.notSynchronized
  subst hsz
  have hD := hD0
  have hA0 : ∀ q, zN s.heap.size q → s0.heap.size ≤ q := zA1 hB
  have hAD : ∀ q, zN s0.heap.size q → s0.heap.size ≤ q := fun _ h => h
  have hA : ∀ q : Nat, s.heap.size ≤ q → zN s.heap.size q := fun _ h => h
  have hS : va_S (zN s.heap.size) s.heap s.heap [] := va_S.rf
  have hP : va_P (dC, dI) zCl [((b 0), .inr (1, [.int (nI nb), .int (nI nl), .ref (b 10), .ref (b 11), .ref (b 12), .ref (b 13), .ref (b 14), .ref (b 15), .ref (b 16), .ref (b 17), .ref (b 18)])), ((b 12), .inl (cI, 60, .inl (fun j => nI (fR j))))] s.heap := hP
  have hl := lv_entry ([.ref (b 0), .int (nI rg)]) (n := 3) (Nat.le_of_ble_eq_true rfl)
  rw [lg_entry_eq]
  generalize (lg_sl ([.ref (b 0), .int (nI rg)]) ++ List.replicate (3 - (lg_sl ([.ref (b 0), .int (nI rg)])).length) Slot.unset).toArray = ls at hl ⊢
  have hl : lv_has ls 3 [(0, .ref (b 0)), (1, .int (nI rg))] := hl
  refine lv_iconst (v := 0) hx hb dPL_hasLinks_0 (by decide) ?_
  refine lv_istore_n (lv' := [(2, .int 0), (0, .ref (b 0)), (1, .int (nI rg))]) hx hb dPL_hasLinks_1 rfl hl (by decide) rfl (fun ls hl => ?_)
  refine zfor (N := nl) (fun k => ∀ (H : Heap) (locs : List Loc) (ls : Array Slot), (∀ j, j < k → ¬ (fR j = rg)) → va_P (dC, dI) zCl [((b 0), .inr (1, [.int (nI nb), .int (nI nl), .ref (b 10), .ref (b 11), .ref (b 12), .ref (b 13), .ref (b 14), .ref (b 15), .ref (b 16), .ref (b 17), .ref (b 18)])), ((b 12), .inl (cI, 60, .inl (fun j => nI (fR j))))] H → va_D (zN s0.heap.size) [((b 0), .inr (1, [.int (nI nb), .int (nI nl), .ref (b 10), .ref (b 11), .ref (b 12), .ref (b 13), .ref (b 14), .ref (b 15), .ref (b 16), .ref (b 17), .ref (b 18)])), ((b 12), .inl (cI, 60, .inl (fun j => nI (fR j))))] → va_S (zN s.heap.size) s.heap H locs → lv_has ls 3 [(0, .ref (b 0)), (1, .int (nI rg)), (2, .int (nI k))] → W p l e _ s m _ below meth c H locs _ _ _ (F0 m 2 ls [])) ?_ ?_ s.heap [] ls (fun j h => absurd h (Nat.not_lt_zero _)) hP hD hS (lv_sub hl [1, 2, 0] rfl)
  · intro k hk ih H locs ls  hno hP hD hS hl
    refine lv_iload_n hx hb dPL_hasLinks_2 rfl (lv_at hl 2 rfl) ?_
    refine lv_aload_n hx hb dPL_hasLinks_3 rfl (lv_at hl 0 rfl) ?_
    have hu1 : ∀ w ∈ u_ws "RingGuard$Plan" T_PL 11, w.before ([.ref (b 0), .int (nI rg)] : List Value).toArray s = true := hB.words zU_PL
    refine va_get (D := (dC, dI)) (ci := 1) (v := .int (nI nl)) (C := "RingGuard$Plan") (T := T_PL) (N := 11) hx hb hu1 zid hown hK hP 0 rfl rfl 1 (by decide) (hB.word (zm1 k1_37) rfl) (fun _ h9 => h9) rfl dPL_hasLinks_4 ?_
    refine lv_icmp_ge (tgt := 28) hx hb dPL_hasLinks_7 (by decide) (fun c9 => absurd c9 (nI_ge (b := nl) hk (by omega))) (fun _ => ?_)
    refine lv_aload_n hx hb dPL_hasLinks_10 rfl (lv_at hl 0 rfl) ?_
    refine va_get (D := (dC, dI)) (ci := 1) (v := .ref (b 12)) (C := "RingGuard$Plan") (T := T_PL) (N := 11) hx hb hu1 zid hown hK hP 0 rfl rfl 4 (by decide) (hB.word (zm1 k1_45) rfl) (fun _ h9 => h9) rfl dPL_hasLinks_11 ?_
    refine lv_iload_n hx hb dPL_hasLinks_14 rfl (lv_at hl 2 rfl) ?_
    refine va_iald hx hb hK hP 1 0 rfl rfl (i := nI k) (vp_in_nI (by omega) (by decide)) dPL_hasLinks_15 ?_
    refine lv_topi (fun k1 ek1 => ?_)
    have ek1 : k1 = nI (fR k) := by rw [ek1]; show nI (fR (nI _).toNatClampNeg) = _; rw [nI_clamp (by omega)]
    subst ek1
    refine lv_iload_n hx hb dPL_hasLinks_16 rfl (lv_at hl 1 rfl) ?_
    refine lv_icmp_ne (tgt := 22) hx hb dPL_hasLinks_17 (by decide) (fun c_17 => ?_) (fun c_17 => ?_)
    · refine lv_iinc (v := nI (k + 1)) (lv' := [(2, .int (nI (k + 1))), (0, .ref (b 0)), (1, .int (nI rg))]) hx hb dPL_hasLinks_22 hl (k := 2) rfl (nI_1 k) (by decide) rfl (fun ls hl => ?_)
      refine lv_goto (tgt := 2) hx hb dPL_hasLinks_25 (by decide) ?_
      exact ih H locs ls (fun j hj => by rcases Nat.lt_or_ge j k with h9 | h9; exact hno j h9; have e9 : j = k := (by omega); subst e9; exact fun e8 => c_17 (by rw [e8])) hP hD hS (lv_sub hl [1, 2, 0] rfl)
    · refine lv_iconst (v := 1) hx hb dPL_hasLinks_20 (by decide) ?_
      refine W.widen (k := 0) (n := 0) (Nat.le_of_ble_eq_true rfl) (Nat.le_of_ble_eq_true rfl) ?_
      exact W.zret (v := 1) (ty := .boolean) hx hb hr rfl (fun t ht hW => ⟨⟨1, (), rfl, (Or.inl ⟨rfl, k, hk, nI_inj (by have := gR k; omega) (by omega) c_17⟩), trivial⟩, hS.F ht⟩) hS.2.2 dPL_hasLinks_21
  · intro H locs ls  hno hP hD hS hl
    refine lv_iload_n hx hb dPL_hasLinks_2 rfl (lv_at hl 2 rfl) ?_
    refine lv_aload_n hx hb dPL_hasLinks_3 rfl (lv_at hl 0 rfl) ?_
    have hu1 : ∀ w ∈ u_ws "RingGuard$Plan" T_PL 11, w.before ([.ref (b 0), .int (nI rg)] : List Value).toArray s = true := hB.words zU_PL
    refine va_get (D := (dC, dI)) (ci := 1) (v := .int (nI nl)) (C := "RingGuard$Plan") (T := T_PL) (N := 11) hx hb hu1 zid hown hK hP 0 rfl rfl 1 (by decide) (hB.word (zm1 k1_37) rfl) (fun _ h9 => h9) rfl dPL_hasLinks_4 ?_
    refine lv_icmp_ge (tgt := 28) hx hb dPL_hasLinks_7 (by decide) (fun _ => ?_) (fun c9 => absurd (nI_le (a := nl) (b := nl) (Nat.le_refl _) (by omega)) c9)
    refine lv_iconst (v := 0) hx hb dPL_hasLinks_28 (by decide) ?_
    refine W.widen (k := 0) (n := 0) (Nat.le_of_ble_eq_true rfl) (Nat.le_of_ble_eq_true rfl) ?_
    exact W.zret (v := 0) (ty := .boolean) hx hb hr rfl (fun t ht hW => ⟨⟨0, (), rfl, (Or.inr ⟨rfl, hno⟩), trivial⟩, hS.F ht⟩) hS.2.2 dPL_hasLinks_29
set_option maxHeartbeats 4000000 in
set_option maxRecDepth 100000 in
theorem zp_isInRingBefore (l : Launch) (dC : Nat → ClassId) (dI : Nat → Nat → Nat) (cI cZ cJ : ClassId) (a0 : Array Value) (s0 : State) (b : Nat → Nat) (nb nl sz : Nat) (fA fB fR : Nat → Nat) (br rg : Nat) (hnl : nl ≤ 60) (hbr : br < 48) (hrg : rg ≤ 6) (gA : ∀ j, fA j < 48) (gB : ∀ j, fB j < 48) (gR : ∀ j, fR j < 6) : Met l yPL_isInRingBefore [Cond.code yPL_isInRingBefore bPL_isInRingBefore 4 (some .boolean)] ({ frames := 1, cells := 0, slots := 0, locals := 22 } : Room) (zP zCl dC dI (zTY cI cZ cJ) a0 s0 [.ref (b 0), .int (nI br), .int (nI rg)] sz [((b 0), .inr (1, [.int (nI nb), .int (nI nl), .ref (b 10), .ref (b 11), .ref (b 12), .ref (b 13), .ref (b 14), .ref (b 15), .ref (b 16), .ref (b 17), .ref (b 18)])), ((b 10), .inl (cI, 60, .inl (fun j => nI (fA j)))), ((b 11), .inl (cI, 60, .inl (fun j => nI (fB j)))), ((b 12), .inl (cI, 60, .inl (fun j => nI (fR j))))]) (zQp (fun r => (r = 1 ∧ ∃ j, j < nl ∧ fR j < rg ∧ (fA j = br ∨ fB j = br)) ∨ (r = 0 ∧ ∀ j, j < nl → ¬ (fR j < rg ∧ (fA j = br ∨ fB j = br)))) sz) 0 0 (zN sz) := by
  refine Met.ofW (cc := bPL_isInRingBefore) (maxL := 4) (ret := (some .boolean)) (by decide) rfl ?_
  intro p e s m args below meth c s₁ B hml hv
  obtain ⟨rfl, hsz, hP, hK, hD0, hB⟩ := hv
  have hx := B.exec
  have hb := B.bytes
  have hr := B.returns
  have hown : s.vm.findClass "RingGuard$Plan" = some m.cls := findClass_of_methodNamed B.named
  have hlocks := B.notSynchronized
  subst hsz
  have hD := hD0
  have hA0 : ∀ q, zN s.heap.size q → s0.heap.size ≤ q := zA1 hB
  have hAD : ∀ q, zN s0.heap.size q → s0.heap.size ≤ q := fun _ h => h
  have hA : ∀ q : Nat, s.heap.size ≤ q → zN s.heap.size q := fun _ h => h
  have hS : va_S (zN s.heap.size) s.heap s.heap [] := va_S.rf
  have hP : va_P (dC, dI) zCl [((b 0), .inr (1, [.int (nI nb), .int (nI nl), .ref (b 10), .ref (b 11), .ref (b 12), .ref (b 13), .ref (b 14), .ref (b 15), .ref (b 16), .ref (b 17), .ref (b 18)])), ((b 10), .inl (cI, 60, .inl (fun j => nI (fA j)))), ((b 11), .inl (cI, 60, .inl (fun j => nI (fB j)))), ((b 12), .inl (cI, 60, .inl (fun j => nI (fR j))))] s.heap := hP
  have hl := lv_entry ([.ref (b 0), .int (nI br), .int (nI rg)]) (n := 4) (Nat.le_of_ble_eq_true rfl)
  rw [lg_entry_eq]
  generalize (lg_sl ([.ref (b 0), .int (nI br), .int (nI rg)]) ++ List.replicate (4 - (lg_sl ([.ref (b 0), .int (nI br), .int (nI rg)])).length) Slot.unset).toArray = ls at hl ⊢
  have hl : lv_has ls 4 [(0, .ref (b 0)), (1, .int (nI br)), (2, .int (nI rg))] := hl
  refine lv_iconst (v := 0) hx hb dPL_isInRingBefore_0 (by decide) ?_
  refine lv_istore_n (lv' := [(3, .int 0), (0, .ref (b 0)), (1, .int (nI br)), (2, .int (nI rg))]) hx hb dPL_isInRingBefore_1 rfl hl (by decide) rfl (fun ls hl => ?_)
  refine zfor (N := nl) (fun k => ∀ (H : Heap) (locs : List Loc) (ls : Array Slot), (∀ j, j < k → ¬ (fR j < rg ∧ (fA j = br ∨ fB j = br))) → va_P (dC, dI) zCl [((b 0), .inr (1, [.int (nI nb), .int (nI nl), .ref (b 10), .ref (b 11), .ref (b 12), .ref (b 13), .ref (b 14), .ref (b 15), .ref (b 16), .ref (b 17), .ref (b 18)])), ((b 10), .inl (cI, 60, .inl (fun j => nI (fA j)))), ((b 11), .inl (cI, 60, .inl (fun j => nI (fB j)))), ((b 12), .inl (cI, 60, .inl (fun j => nI (fR j))))] H → va_D (zN s0.heap.size) [((b 0), .inr (1, [.int (nI nb), .int (nI nl), .ref (b 10), .ref (b 11), .ref (b 12), .ref (b 13), .ref (b 14), .ref (b 15), .ref (b 16), .ref (b 17), .ref (b 18)])), ((b 10), .inl (cI, 60, .inl (fun j => nI (fA j)))), ((b 11), .inl (cI, 60, .inl (fun j => nI (fB j)))), ((b 12), .inl (cI, 60, .inl (fun j => nI (fR j))))] → va_S (zN s.heap.size) s.heap H locs → lv_has ls 4 [(0, .ref (b 0)), (1, .int (nI br)), (2, .int (nI rg)), (3, .int (nI k))] → W p l e _ s m _ below meth c H locs _ _ _ (F0 m 2 ls [])) ?_ ?_ s.heap [] ls (fun j h => absurd h (Nat.not_lt_zero _)) hP hD hS (lv_sub hl [1, 2, 3, 0] rfl)
  · intro k hk ih H locs ls  hno hP hD hS hl
    refine lv_iload_n hx hb dPL_isInRingBefore_2 rfl (lv_at hl 3 rfl) ?_
    refine lv_aload_n hx hb dPL_isInRingBefore_3 rfl (lv_at hl 0 rfl) ?_
    have hu1 : ∀ w ∈ u_ws "RingGuard$Plan" T_PL 11, w.before ([.ref (b 0), .int (nI br), .int (nI rg)] : List Value).toArray s = true := hB.words zU_PL
    refine va_get (D := (dC, dI)) (ci := 1) (v := .int (nI nl)) (C := "RingGuard$Plan") (T := T_PL) (N := 11) hx hb hu1 zid hown hK hP 0 rfl rfl 1 (by decide) (hB.word (zm1 k1_37) rfl) (fun _ h9 => h9) rfl dPL_isInRingBefore_4 ?_
    refine lv_icmp_ge (tgt := 38) hx hb dPL_isInRingBefore_7 (by decide) (fun c9 => absurd c9 (nI_ge (b := nl) hk (by omega))) (fun _ => ?_)
    refine lv_aload_n hx hb dPL_isInRingBefore_10 rfl (lv_at hl 0 rfl) ?_
    refine va_get (D := (dC, dI)) (ci := 1) (v := .ref (b 12)) (C := "RingGuard$Plan") (T := T_PL) (N := 11) hx hb hu1 zid hown hK hP 0 rfl rfl 4 (by decide) (hB.word (zm1 k1_45) rfl) (fun _ h9 => h9) rfl dPL_isInRingBefore_11 ?_
    refine lv_iload_n hx hb dPL_isInRingBefore_14 rfl (lv_at hl 3 rfl) ?_
    refine va_iald hx hb hK hP 3 0 rfl rfl (i := nI k) (vp_in_nI (by omega) (by decide)) dPL_isInRingBefore_15 ?_
    refine lv_topi (fun k1 ek1 => ?_)
    have ek1 : k1 = nI (fR k) := by rw [ek1]; show nI (fR (nI _).toNatClampNeg) = _; rw [nI_clamp (by omega)]
    subst ek1
    refine lv_iload_n hx hb dPL_isInRingBefore_16 rfl (lv_at hl 2 rfl) ?_
    refine lv_icmp_ge (tgt := 32) hx hb dPL_isInRingBefore_17 (by decide) (fun c_17 => ?_) (fun c_17 => ?_)
    · refine lv_iinc (v := nI (k + 1)) (lv' := [(3, .int (nI (k + 1))), (0, .ref (b 0)), (1, .int (nI br)), (2, .int (nI rg))]) hx hb dPL_isInRingBefore_32 hl (k := 3) rfl (nI_1 k) (by decide) rfl (fun ls hl => ?_)
      refine lv_goto (tgt := 2) hx hb dPL_isInRingBefore_35 (by decide) ?_
      exact ih H locs ls (fun j hj => by rcases Nat.lt_or_ge j k with h9 | h9; exact hno j h9; have e9 : j = k := (by omega); subst e9; first | exact fun q8 => zbef_0 (gR _) hrg c_17 q8.1 | exact fun q8 => (zport_ne (by omega)).mpr q8.2 c_27) hP hD hS (lv_sub hl [1, 2, 3, 0] rfl)
    · refine lv_aload_n hx hb dPL_isInRingBefore_20 rfl (lv_at hl 0 rfl) ?_
      refine lv_iload_n hx hb dPL_isInRingBefore_21 rfl (lv_at hl 1 rfl) ?_
      refine lv_iload_n hx hb dPL_isInRingBefore_22 rfl (lv_at hl 3 rfl) ?_
      have hPc : va_P (dC, dI) zCl [((b 0), .inr (1, [.int (nI nb), .int (nI nl), .ref (b 10), .ref (b 11), .ref (b 12), .ref (b 13), .ref (b 14), .ref (b 15), .ref (b 16), .ref (b 17), .ref (b 18)])), ((b 10), .inl (cI, 60, .inl (fun j => nI (fA j)))), ((b 11), .inl (cI, 60, .inl (fun j => nI (fB j))))] H := hP.sub [0, 1, 2] rfl
      have hDc : va_D (zN s0.heap.size) [((b 0), .inr (1, [.int (nI nb), .int (nI nl), .ref (b 10), .ref (b 11), .ref (b 12), .ref (b 13), .ref (b 14), .ref (b 15), .ref (b 16), .ref (b 17), .ref (b 18)])), ((b 10), .inl (cI, 60, .inl (fun j => nI (fA j)))), ((b 11), .inl (cI, 60, .inl (fun j => nI (fB j))))] := hD.sub [0, 1, 2] (by decide) rfl
      refine zcallp (va_runV (As := [.int (nI br), .int (nI k)]) (rest := []) ⟨hx, hb, hml, hown, zno⟩ (zp_portOf l dC dI cI cZ cJ a0 s0 b nb nl H.size fA fB br k (by omega) hbr gA gB) (zcw 2 (hB.word (zm2 k2_212) rfl) (hB.word (zm1 k1_2) rfl) (hB.word (zm2 k2_209) rfl) (hB.word (zm2 k2_210) rfl) (hB.word (zm2 k2_211) rfl) rfl rfl (by decide +kernel) ⟨Nat.le_of_ble_eq_true rfl, Nat.le_of_ble_eq_true rfl⟩) ⟨zP_blind, va_recv hK hP (ci := 1) (q0 := 0) rfl rfl, zP_pre hPc hK hDc hAD (zB_on hB hA0 hS)⟩ rfl rfl hl.1 rfl (lv_room (Nat.le_of_ble_eq_true rfl)) dPL_isInRingBefore_23 ⟨Nat.le_of_ble_eq_true rfl, Nat.le_of_ble_eq_true rfl⟩) hS hA (fun r2 H1 locs hr2 hz1 hk1 hS => ?_)
      have hP := zKeep hP hk1
      generalize H1 = H at hP hS ⊢
      have hP : va_P (dC, dI) zCl [((b 0), .inr (1, [.int (nI nb), .int (nI nl), .ref (b 10), .ref (b 11), .ref (b 12), .ref (b 13), .ref (b 14), .ref (b 15), .ref (b 16), .ref (b 17), .ref (b 18)])), ((b 10), .inl (cI, 60, .inl (fun j => nI (fA j)))), ((b 11), .inl (cI, 60, .inl (fun j => nI (fB j)))), ((b 12), .inl (cI, 60, .inl (fun j => nI (fR j))))] H := hP
      subst hr2
      refine lv_iconst (v := (-1)) hx hb dPL_isInRingBefore_26 (by decide) ?_
      refine lv_icmp_eq (tgt := 32) hx hb dPL_isInRingBefore_27 (by decide) (fun c_27 => ?_) (fun c_27 => ?_)
      · refine lv_iinc (v := nI (k + 1)) (lv' := [(3, .int (nI (k + 1))), (0, .ref (b 0)), (1, .int (nI br)), (2, .int (nI rg))]) hx hb dPL_isInRingBefore_32 hl (k := 3) rfl (nI_1 k) (by decide) rfl (fun ls hl => ?_)
        refine lv_goto (tgt := 2) hx hb dPL_isInRingBefore_35 (by decide) ?_
        exact ih H locs ls (fun j hj => by rcases Nat.lt_or_ge j k with h9 | h9; exact hno j h9; have e9 : j = k := (by omega); subst e9; first | exact fun q8 => zbef_0 (gR _) hrg c_17 q8.1 | exact fun q8 => (zport_ne (by omega)).mpr q8.2 c_27) hP hD hS (lv_sub hl [1, 2, 3, 0] rfl)
      · refine lv_iconst (v := 1) hx hb dPL_isInRingBefore_30 (by decide) ?_
        refine W.widen (k := 0) (n := 0) (Nat.le_of_ble_eq_true rfl) (Nat.le_of_ble_eq_true rfl) ?_
        exact W.zret (v := 1) (ty := .boolean) hx hb hr rfl (fun t ht hW => ⟨⟨1, (), rfl, (Or.inl ⟨rfl, k, hk, ⟨zbef_1 (gR k) hrg c_17, (zport_ne (by omega)).mp c_27⟩⟩), trivial⟩, hS.F ht⟩) hS.2.2 dPL_isInRingBefore_31
  · intro H locs ls  hno hP hD hS hl
    refine lv_iload_n hx hb dPL_isInRingBefore_2 rfl (lv_at hl 3 rfl) ?_
    refine lv_aload_n hx hb dPL_isInRingBefore_3 rfl (lv_at hl 0 rfl) ?_
    have hu1 : ∀ w ∈ u_ws "RingGuard$Plan" T_PL 11, w.before ([.ref (b 0), .int (nI br), .int (nI rg)] : List Value).toArray s = true := hB.words zU_PL
    refine va_get (D := (dC, dI)) (ci := 1) (v := .int (nI nl)) (C := "RingGuard$Plan") (T := T_PL) (N := 11) hx hb hu1 zid hown hK hP 0 rfl rfl 1 (by decide) (hB.word (zm1 k1_37) rfl) (fun _ h9 => h9) rfl dPL_isInRingBefore_4 ?_
    refine lv_icmp_ge (tgt := 38) hx hb dPL_isInRingBefore_7 (by decide) (fun _ => ?_) (fun c9 => absurd (nI_le (a := nl) (b := nl) (Nat.le_refl _) (by omega)) c9)
    refine lv_iconst (v := 0) hx hb dPL_isInRingBefore_38 (by decide) ?_
    refine W.widen (k := 0) (n := 0) (Nat.le_of_ble_eq_true rfl) (Nat.le_of_ble_eq_true rfl) ?_
    exact W.zret (v := 0) (ty := .boolean) hx hb hr rfl (fun t ht hW => ⟨⟨0, (), rfl, (Or.inr ⟨rfl, hno⟩), trivial⟩, hS.F ht⟩) hS.2.2 dPL_isInRingBefore_39
set_option maxHeartbeats 4000000 in
set_option maxRecDepth 100000 in
theorem zp_hasBareBridge (l : Launch) (dC : Nat → ClassId) (dI : Nat → Nat → Nat) (cI cZ cJ : ClassId) (a0 : Array Value) (s0 : State) (b : Nat → Nat) (nb nl sz : Nat) (fA fB fR : Nat → Nat) (hnb : nb ≤ 48) (hnl : nl ≤ 60) (gA : ∀ j, fA j < 48) (gB : ∀ j, fB j < 48) (gR : ∀ j, fR j < 6) : Met l yPL_hasBareBridge [Cond.code yPL_hasBareBridge bPL_hasBareBridge 2 (some .boolean)] ({ frames := 2, cells := 0, slots := 0, locals := 45 } : Room) (zP zCl dC dI (zTY cI cZ cJ) a0 s0 [.ref (b 0)] sz [((b 0), .inr (1, [.int (nI nb), .int (nI nl), .ref (b 10), .ref (b 11), .ref (b 12), .ref (b 13), .ref (b 14), .ref (b 15), .ref (b 16), .ref (b 17), .ref (b 18)])), ((b 10), .inl (cI, 60, .inl (fun j => nI (fA j)))), ((b 11), .inl (cI, 60, .inl (fun j => nI (fB j)))), ((b 12), .inl (cI, 60, .inl (fun j => nI (fR j))))]) (zQp (fun r => (r = 1 ∧ ∃ j, j < nb ∧ ∀ l, l < nl → ¬ (fR l < 6 ∧ (fA l = j ∨ fB l = j))) ∨ (r = 0 ∧ ∀ j, j < nb → ¬ (∀ l, l < nl → ¬ (fR l < 6 ∧ (fA l = j ∨ fB l = j))))) sz) 0 0 (zN sz) := by
  refine Met.ofW (cc := bPL_hasBareBridge) (maxL := 2) (ret := (some .boolean)) (by decide) rfl ?_
  intro p e s m args below meth c s₁ B hml hv
  obtain ⟨rfl, hsz, hP, hK, hD0, hB⟩ := hv
  have hx := B.exec
  have hb := B.bytes
  have hr := B.returns
  have hown : s.vm.findClass "RingGuard$Plan" = some m.cls := findClass_of_methodNamed B.named
  have hlocks := B.notSynchronized
  subst hsz
  have hD := hD0
  have hA0 : ∀ q, zN s.heap.size q → s0.heap.size ≤ q := zA1 hB
  have hAD : ∀ q, zN s0.heap.size q → s0.heap.size ≤ q := fun _ h => h
  have hA : ∀ q : Nat, s.heap.size ≤ q → zN s.heap.size q := fun _ h => h
  have hS : va_S (zN s.heap.size) s.heap s.heap [] := va_S.rf
  have hP : va_P (dC, dI) zCl [((b 0), .inr (1, [.int (nI nb), .int (nI nl), .ref (b 10), .ref (b 11), .ref (b 12), .ref (b 13), .ref (b 14), .ref (b 15), .ref (b 16), .ref (b 17), .ref (b 18)])), ((b 10), .inl (cI, 60, .inl (fun j => nI (fA j)))), ((b 11), .inl (cI, 60, .inl (fun j => nI (fB j)))), ((b 12), .inl (cI, 60, .inl (fun j => nI (fR j))))] s.heap := hP
  have hl := lv_entry ([.ref (b 0)]) (n := 2) (Nat.le_of_ble_eq_true rfl)
  rw [lg_entry_eq]
  generalize (lg_sl ([.ref (b 0)]) ++ List.replicate (2 - (lg_sl ([.ref (b 0)])).length) Slot.unset).toArray = ls at hl ⊢
  have hl : lv_has ls 2 [(0, .ref (b 0))] := hl
  refine lv_iconst (v := 0) hx hb dPL_hasBareBridge_0 (by decide) ?_
  refine lv_istore_n (lv' := [(1, .int 0), (0, .ref (b 0))]) hx hb dPL_hasBareBridge_1 rfl hl (by decide) rfl (fun ls hl => ?_)
  refine zfor (N := nb) (fun k => ∀ (H : Heap) (locs : List Loc) (ls : Array Slot), (∀ j, j < k → ¬ (∀ l, l < nl → ¬ (fR l < 6 ∧ (fA l = j ∨ fB l = j)))) → va_P (dC, dI) zCl [((b 0), .inr (1, [.int (nI nb), .int (nI nl), .ref (b 10), .ref (b 11), .ref (b 12), .ref (b 13), .ref (b 14), .ref (b 15), .ref (b 16), .ref (b 17), .ref (b 18)])), ((b 10), .inl (cI, 60, .inl (fun j => nI (fA j)))), ((b 11), .inl (cI, 60, .inl (fun j => nI (fB j)))), ((b 12), .inl (cI, 60, .inl (fun j => nI (fR j))))] H → va_D (zN s0.heap.size) [((b 0), .inr (1, [.int (nI nb), .int (nI nl), .ref (b 10), .ref (b 11), .ref (b 12), .ref (b 13), .ref (b 14), .ref (b 15), .ref (b 16), .ref (b 17), .ref (b 18)])), ((b 10), .inl (cI, 60, .inl (fun j => nI (fA j)))), ((b 11), .inl (cI, 60, .inl (fun j => nI (fB j)))), ((b 12), .inl (cI, 60, .inl (fun j => nI (fR j))))] → va_S (zN s.heap.size) s.heap H locs → lv_has ls 2 [(0, .ref (b 0)), (1, .int (nI k))] → W p l e _ s m _ below meth c H locs _ _ _ (F0 m 2 ls [])) ?_ ?_ s.heap [] ls (fun j h => absurd h (Nat.not_lt_zero _)) hP hD hS (lv_sub hl [1, 0] rfl)
  · intro k hk ih H locs ls  hno hP hD hS hl
    refine lv_iload_n hx hb dPL_hasBareBridge_2 rfl (lv_at hl 1 rfl) ?_
    refine lv_aload_n hx hb dPL_hasBareBridge_3 rfl (lv_at hl 0 rfl) ?_
    have hu1 : ∀ w ∈ u_ws "RingGuard$Plan" T_PL 11, w.before ([.ref (b 0)] : List Value).toArray s = true := hB.words zU_PL
    refine va_get (D := (dC, dI)) (ci := 1) (v := .int (nI nb)) (C := "RingGuard$Plan") (T := T_PL) (N := 11) hx hb hu1 zid hown hK hP 0 rfl rfl 0 (by decide) (hB.word (zm1 k1_35) rfl) (fun _ h9 => h9) rfl dPL_hasBareBridge_4 ?_
    refine lv_icmp_ge (tgt := 28) hx hb dPL_hasBareBridge_7 (by decide) (fun c9 => absurd c9 (nI_ge (b := nb) hk (by omega))) (fun _ => ?_)
    refine lv_aload_n hx hb dPL_hasBareBridge_10 rfl (lv_at hl 0 rfl) ?_
    refine lv_iload_n hx hb dPL_hasBareBridge_11 rfl (lv_at hl 1 rfl) ?_
    refine lv_bipush (v := 6) hx hb dPL_hasBareBridge_12 (by decide) ?_
    have hPc : va_P (dC, dI) zCl [((b 0), .inr (1, [.int (nI nb), .int (nI nl), .ref (b 10), .ref (b 11), .ref (b 12), .ref (b 13), .ref (b 14), .ref (b 15), .ref (b 16), .ref (b 17), .ref (b 18)])), ((b 10), .inl (cI, 60, .inl (fun j => nI (fA j)))), ((b 11), .inl (cI, 60, .inl (fun j => nI (fB j)))), ((b 12), .inl (cI, 60, .inl (fun j => nI (fR j))))] H := hP.sub [0, 1, 2, 3] rfl
    have hDc : va_D (zN s0.heap.size) [((b 0), .inr (1, [.int (nI nb), .int (nI nl), .ref (b 10), .ref (b 11), .ref (b 12), .ref (b 13), .ref (b 14), .ref (b 15), .ref (b 16), .ref (b 17), .ref (b 18)])), ((b 10), .inl (cI, 60, .inl (fun j => nI (fA j)))), ((b 11), .inl (cI, 60, .inl (fun j => nI (fB j)))), ((b 12), .inl (cI, 60, .inl (fun j => nI (fR j))))] := hD.sub [0, 1, 2, 3] (by decide) rfl
    refine zcallp (va_runV (As := [.int (nI k), .int 6]) (rest := []) ⟨hx, hb, hml, hown, zno⟩ (zp_isInRingBefore l dC dI cI cZ cJ a0 s0 b nb nl H.size fA fB fR k 6 hnl (by omega) (by omega) gA gB gR) (zcw 2 (hB.word (zm2 k2_208) rfl) (hB.word (zm1 k1_2) rfl) (hB.word (zm2 k2_205) rfl) (hB.word (zm2 k2_207) rfl) (k2_selects_private (by decide) (hB.word (zm1 k1_26) rfl) (hB.word (zm2 k2_206) rfl) (hB.word (zm2 k2_207) rfl)) rfl rfl (by decide +kernel) ⟨Nat.le_of_ble_eq_true rfl, Nat.le_of_ble_eq_true rfl⟩) ⟨zP_blind, va_recv hK hP (ci := 1) (q0 := 0) rfl rfl, zP_pre hPc hK hDc hAD (zB_on hB hA0 hS)⟩ rfl rfl hl.1 rfl (lv_room (Nat.le_of_ble_eq_true rfl)) dPL_hasBareBridge_14 ⟨Nat.le_of_ble_eq_true rfl, Nat.le_of_ble_eq_true rfl⟩) hS hA (fun r1 H1 locs hr1 hz1 hk1 hS => ?_)
    have hP := zKeep hP hk1
    generalize H1 = H at hP hS ⊢
    have hP : va_P (dC, dI) zCl [((b 0), .inr (1, [.int (nI nb), .int (nI nl), .ref (b 10), .ref (b 11), .ref (b 12), .ref (b 13), .ref (b 14), .ref (b 15), .ref (b 16), .ref (b 17), .ref (b 18)])), ((b 10), .inl (cI, 60, .inl (fun j => nI (fA j)))), ((b 11), .inl (cI, 60, .inl (fun j => nI (fB j)))), ((b 12), .inl (cI, 60, .inl (fun j => nI (fR j))))] H := hP
    refine lv_if_ne (tgt := 22) hx hb dPL_hasBareBridge_17 (by decide) (fun c_17 => ?_) (fun c_17 => ?_)
    · refine lv_iinc (v := nI (k + 1)) (lv' := [(1, .int (nI (k + 1))), (0, .ref (b 0))]) hx hb dPL_hasBareBridge_22 hl (k := 1) rfl (nI_1 k) (by decide) rfl (fun ls hl => ?_)
      refine lv_goto (tgt := 2) hx hb dPL_hasBareBridge_25 (by decide) ?_
      exact ih H locs ls (fun j hj => by rcases Nat.lt_or_ge j k with h9 | h9; exact hno j h9; have e9 : j = k := (by omega); subst e9; exact fun q8 => (zb0 hr1 c_17).elim (fun l9 h8 => q8 l9 h8.1 h8.2)) hP hD hS (lv_sub hl [1, 0] rfl)
    · refine lv_iconst (v := 1) hx hb dPL_hasBareBridge_20 (by decide) ?_
      refine W.widen (k := 0) (n := 0) (Nat.le_of_ble_eq_true rfl) (Nat.le_of_ble_eq_true rfl) ?_
      exact W.zret (v := 1) (ty := .boolean) hx hb hr rfl (fun t ht hW => ⟨⟨1, (), rfl, (Or.inl ⟨rfl, k, hk, zb1 hr1 c_17⟩), trivial⟩, hS.F ht⟩) hS.2.2 dPL_hasBareBridge_21
  · intro H locs ls  hno hP hD hS hl
    refine lv_iload_n hx hb dPL_hasBareBridge_2 rfl (lv_at hl 1 rfl) ?_
    refine lv_aload_n hx hb dPL_hasBareBridge_3 rfl (lv_at hl 0 rfl) ?_
    have hu1 : ∀ w ∈ u_ws "RingGuard$Plan" T_PL 11, w.before ([.ref (b 0)] : List Value).toArray s = true := hB.words zU_PL
    refine va_get (D := (dC, dI)) (ci := 1) (v := .int (nI nb)) (C := "RingGuard$Plan") (T := T_PL) (N := 11) hx hb hu1 zid hown hK hP 0 rfl rfl 0 (by decide) (hB.word (zm1 k1_35) rfl) (fun _ h9 => h9) rfl dPL_hasBareBridge_4 ?_
    refine lv_icmp_ge (tgt := 28) hx hb dPL_hasBareBridge_7 (by decide) (fun _ => ?_) (fun c9 => absurd (nI_le (a := nb) (b := nb) (Nat.le_refl _) (by omega)) c9)
    refine lv_iconst (v := 0) hx hb dPL_hasBareBridge_28 (by decide) ?_
    refine W.widen (k := 0) (n := 0) (Nat.le_of_ble_eq_true rfl) (Nat.le_of_ble_eq_true rfl) ?_
    exact W.zret (v := 0) (ty := .boolean) hx hb hr rfl (fun t ht hW => ⟨⟨0, (), rfl, (Or.inr ⟨rfl, hno⟩), trivial⟩, hS.F ht⟩) hS.2.2 dPL_hasBareBridge_29
