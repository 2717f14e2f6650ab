set_option maxHeartbeats 4000000 in
set_option maxRecDepth 100000 in
theorem zw_separate (l : Launch) (dC : Nat → ClassId) (dI : Nat → Nat → Nat) (cI cZ cJ : ClassId) (a0 : Array Value) (s0 : State) (b : Nat → Nat) (sz n : Nat) (gc gs : Int32) (f0 : Nat → Int32) (hn : n ≤ 48) : Met l yGR_separate [Cond.code yGR_separate bGR_separate 3 none] ({ frames := 0, cells := 0, slots := 0, locals := 0 } : Room) (zP zCl dC dI (zTY cI cZ cJ) a0 s0 [.ref (b 5), .int (nI n)] sz [((b 5), .inr (6, [.ref (b 6), .int gc, .int gs])), ((b 6), .inl (cI, 48, .inl f0))]) (zQw zCl dC dI (fun wo => ∃ f : Nat → Int32, (∀ j, j < n → f j = nI j) ∧ wo = [((b 5), .inr (6, [.ref (b 6), .int (nI n), .int (nI n)])), ((b 6), .inl (cI, 48, .inl f))]) (va_A [((b 5), .inr (6, [.ref (b 6), .int gc, .int gs])), ((b 6), .inl (cI, 48, .inl f0))] sz)) 0 0 (va_A [((b 5), .inr (6, [.ref (b 6), .int gc, .int gs])), ((b 6), .inl (cI, 48, .inl f0))] sz) := by
  refine Met.ofW (cc := bGR_separate) (maxL := 3) (ret := none) (by decide) rfl ?_
  intro p e s m args below meth c s₁ B hml hv
  obtain ⟨rfl, hsz, hP, hK, hD0, hB⟩ := hv
  have hx := B.exec
  have hb := B.bytes
  have hr := B.returns
  have hown : s.vm.findClass "RingGuard$Groups" = some m.cls := findClass_of_methodNamed B.named
  have hlocks := B.notSynchronized
  subst hsz
  have hD := hD0.self (sz := s.heap.size)
  have hA0 := zA0 hD0 hB
  generalize hAe : va_A [((b 5), .inr (6, [.ref (b 6), .int gc, .int gs])), ((b 6), .inl (cI, 48, .inl f0))] s.heap.size = A at hD hA0 ⊢
  have hAD := hA0
  have hA : ∀ q : Nat, s.heap.size ≤ q → A q := fun q h => by rw [← hAe]; exact Or.inr h
  have hS : va_S A s.heap s.heap [] := va_S.rf
  have hP : va_P (dC, dI) zCl [((b 5), .inr (6, [.ref (b 6), .int gc, .int gs])), ((b 6), .inl (cI, 48, .inl f0))] s.heap := hP
  have hl := lv_entry ([.ref (b 5), .int (nI n)]) (n := 3) (Nat.le_of_ble_eq_true rfl)
  rw [lg_entry_eq]
  generalize (lg_sl ([.ref (b 5), .int (nI n)]) ++ List.replicate (3 - (lg_sl ([.ref (b 5), .int (nI n)])).length) Slot.unset).toArray = ls at hl ⊢
  have hl : lv_has ls 3 [(0, .ref (b 5)), (1, .int (nI n))] := hl
  refine lv_aload_n hx hb dGR_separate_0 rfl (lv_at hl 0 rfl) ?_
  refine lv_iload_n hx hb dGR_separate_1 rfl (lv_at hl 1 rfl) ?_
  have hu6 : ∀ w ∈ u_ws "RingGuard$Groups" T_GR 3, w.before ([.ref (b 5), .int (nI n)] : List Value).toArray s = true := hB.words zU_GR
  refine va_put (D := (dC, dI)) (ci := 6) (v := .int (nI n)) (ty := .int) (C := "RingGuard$Groups") (T := T_GR) (N := 3) hx hb hu6 zid ty_GR ok_GR nm_GR hown hK hP hD hS 0 rfl rfl 2 (by decide) (hB.word (zm1 k1_227) rfl) (fun _ h9 => h9) rfl (by decide +kernel) rfl rfl (Nat.le_of_ble_eq_true rfl) dGR_separate_2 (fun H locs hP hD hS => ?_)
  have hP : va_P (dC, dI) zCl [((b 5), .inr (6, [.ref (b 6), .int gc, .int (nI n)])), ((b 6), .inl (cI, 48, .inl f0))] H := hP
  have hD : va_D A [((b 5), .inr (6, [.ref (b 6), .int gc, .int (nI n)])), ((b 6), .inl (cI, 48, .inl f0))] := hD
  refine lv_aload_n hx hb dGR_separate_5 rfl (lv_at hl 0 rfl) ?_
  refine lv_iload_n hx hb dGR_separate_6 rfl (lv_at hl 1 rfl) ?_
  refine va_put (D := (dC, dI)) (ci := 6) (v := .int (nI n)) (ty := .int) (C := "RingGuard$Groups") (T := T_GR) (N := 3) hx hb hu6 zid ty_GR ok_GR nm_GR hown hK hP hD hS 0 rfl rfl 1 (by decide) (hB.word (zm1 k1_224) rfl) (fun _ h9 => h9) rfl (by decide +kernel) rfl rfl (Nat.le_of_ble_eq_true rfl) dGR_separate_7 (fun H locs hP hD hS => ?_)
  have hP : va_P (dC, dI) zCl [((b 5), .inr (6, [.ref (b 6), .int (nI n), .int (nI n)])), ((b 6), .inl (cI, 48, .inl f0))] H := hP
  have hD : va_D A [((b 5), .inr (6, [.ref (b 6), .int (nI n), .int (nI n)])), ((b 6), .inl (cI, 48, .inl f0))] := hD
  refine lv_iconst (v := 0) hx hb dGR_separate_10 (by decide) ?_
  refine lv_istore_n (lv' := [(2, .int 0), (0, .ref (b 5)), (1, .int (nI n))]) hx hb dGR_separate_11 rfl hl (by decide) rfl (fun ls hl => ?_)
  refine zfor (N := n) (fun k => ∀ (H : Heap) (locs : List Loc) (ls : Array Slot) (f : Nat → Int32), (∀ j, j < k → f j = nI j) → va_P (dC, dI) zCl [((b 5), .inr (6, [.ref (b 6), .int (nI n), .int (nI n)])), ((b 6), .inl (cI, 48, .inl f))] H → va_D A [((b 5), .inr (6, [.ref (b 6), .int (nI n), .int (nI n)])), ((b 6), .inl (cI, 48, .inl f))] → va_S A s.heap H locs → lv_has ls 3 [(0, .ref (b 5)), (1, .int (nI n)), (2, .int (nI k))] → W p l e _ s m _ below meth c H locs _ _ _ (F0 m 12 ls [])) ?_ ?_ H locs ls f0 (fun j h => absurd h (Nat.not_lt_zero _)) hP hD hS (lv_sub hl [1, 2, 0] rfl)
  · intro k hk ih H locs ls f hf hP hD hS hl
    refine lv_iload_n hx hb dGR_separate_12 rfl (lv_at hl 2 rfl) ?_
    refine lv_iload_n hx hb dGR_separate_13 rfl (lv_at hl 1 rfl) ?_
    refine lv_icmp_ge (tgt := 30) hx hb dGR_separate_14 (by decide) (fun c9 => absurd c9 (nI_ge (b := n) hk (by omega))) (fun _ => ?_)
    refine lv_aload_n hx hb dGR_separate_17 rfl (lv_at hl 0 rfl) ?_
    refine va_get (D := (dC, dI)) (ci := 6) (v := .ref (b 6)) (C := "RingGuard$Groups") (T := T_GR) (N := 3) hx hb hu6 zid hown hK hP 0 rfl rfl 0 (by decide) (hB.word (zm1 k1_222) rfl) (fun _ h9 => h9) rfl dGR_separate_18 ?_
    refine lv_iload_n hx hb dGR_separate_21 rfl (lv_at hl 2 rfl) ?_
    refine lv_iload_n hx hb dGR_separate_22 rfl (lv_at hl 2 rfl) ?_
    refine va_iast hx hb hK hP hD hS 1 0 rfl rfl (i := nI k) (vp_in_nI (by omega) (by decide)) dGR_separate_23 (fun H locs hP hD hS => ?_)
    have hP : va_P (dC, dI) zCl [((b 5), .inr (6, [.ref (b 6), .int (nI n), .int (nI n)])), ((b 6), .inl (cI, 48, .inl (upd f (nI k : Int32).toNatClampNeg (nI k))))] H := hP
    have hD : va_D A [((b 5), .inr (6, [.ref (b 6), .int (nI n), .int (nI n)])), ((b 6), .inl (cI, 48, .inl (upd f (nI k : Int32).toNatClampNeg (nI k))))] := hD
    refine lv_iinc (v := nI (k + 1)) (lv' := [(2, .int (nI (k + 1))), (0, .ref (b 5)), (1, .int (nI n))]) hx hb dGR_separate_24 hl (k := 2) rfl (nI_1 k) (by decide) rfl (fun ls hl => ?_)
    refine lv_goto (tgt := 12) hx hb dGR_separate_27 (by decide) ?_
    exact ih H locs ls (upd f (nI k : Int32).toNatClampNeg (nI k)) (zupdI (by omega) hf) hP hD hS (lv_sub hl [1, 2, 0] rfl)
  · intro H locs ls f hf hP hD hS hl
    refine lv_iload_n hx hb dGR_separate_12 rfl (lv_at hl 2 rfl) ?_
    refine lv_iload_n hx hb dGR_separate_13 rfl (lv_at hl 1 rfl) ?_
    refine lv_icmp_ge (tgt := 30) hx hb dGR_separate_14 (by decide) (fun _ => ?_) (fun c9 => absurd (nI_le (a := n) (b := n) (Nat.le_refl _) (by omega)) c9)
    refine W.widen (k := 0) (n := 0) (Nat.le_of_ble_eq_true rfl) (Nat.le_of_ble_eq_true rfl) ?_
    have hP9 : va_P (dC, dI) zCl [((b 5), .inr (6, [.ref (b 6), .int (nI n), .int (nI n)])), ((b 6), .inl (cI, 48, .inl f))] H := hP.sub [0, 1] rfl
    have hD9 : va_D A [((b 5), .inr (6, [.ref (b 6), .int (nI n), .int (nI n)])), ((b 6), .inl (cI, 48, .inl f))] := hD.sub [0, 1] (by decide) rfl
    exact W.vret hx hb hr (fun t ht hW => ⟨⟨[((b 5), .inr (6, [.ref (b 6), .int (nI n), .int (nI n)])), ((b 6), .inl (cI, 48, .inl f))], rfl, ⟨f, hf, rfl⟩, by rw [ht]; exact hP9, hD9⟩, hS.F ht⟩) hS.2.2 dGR_separate_30
