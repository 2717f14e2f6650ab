set_option maxHeartbeats 4000000 in
set_option maxRecDepth 100000 in
theorem zw_fill (l : Launch) (dC : Nat → ClassId) (dI : Nat → Nat → Nat) (cI cZ cJ : ClassId) (a0 : Array Value) (s0 : State) (h n sz : Nat) (f0 : Nat → Int32) (v : Int32) (hn : n < 2 ^ 31) : Met l yAR_fill [Cond.code yAR_fill bAR_fill 4 none] ({ frames := 0, cells := 0, slots := 0, locals := 0 } : Room) (zP zCl dC dI (zTY cI cZ cJ) a0 s0 [.ref h, .int v] sz [(h, .inl (cI, n, .inl f0))]) (zQw zCl dC dI (fun wo => ∃ f2 : Nat → Int32, (∀ j, j < n → f2 j = v) ∧ wo = [(h, .inl (cI, n, .inl f2))]) (va_A [(h, .inl (cI, n, .inl f0))] sz)) 0 0 (va_A [(h, .inl (cI, n, .inl f0))] sz) := by
  refine Met.ofW (cc := bAR_fill) (maxL := 4) (ret := none) (by decide) rfl ?_
  intro p e s m args below meth c s₁ B hml hv
  obtain ⟨rfl, hsz, hP, hK, hD0, hB⟩ := hv
  have hx := B.exec
  have hb := B.bytes
  have hr := B.returns
  have hown : s.vm.findClass "java/util/Arrays" = some m.cls := findClass_of_methodNamed B.named
  have hlocks := B.notSynchronized
  subst hsz
  have hD := hD0.self (sz := s.heap.size)
  have hA0 := zA0 hD0 hB
  generalize hAe : va_A [(h, .inl (cI, n, .inl f0))] s.heap.size = A at hD hA0 ⊢
  have hAD := hA0
  have hA : ∀ q : Nat, s.heap.size ≤ q → A q := fun q h => by rw [← hAe]; exact Or.inr h
  have hS : va_S A s.heap s.heap [] := va_S.rf
  have hP : va_P (dC, dI) zCl [(h, .inl (cI, n, .inl f0))] s.heap := hP
  have hl := lv_entry ([.ref h, .int v]) (n := 4) (Nat.le_of_ble_eq_true rfl)
  rw [lg_entry_eq]
  generalize (lg_sl ([.ref h, .int v]) ++ List.replicate (4 - (lg_sl ([.ref h, .int v])).length) Slot.unset).toArray = ls at hl ⊢
  have hl : lv_has ls 4 [(0, .ref h), (1, .int v)] := hl
  refine lv_iconst (v := 0) hx hb dAR_fill_0 (by decide) ?_
  refine lv_istore_n (lv' := [(2, .int 0), (0, .ref h), (1, .int v)]) hx hb dAR_fill_1 rfl hl (by decide) rfl (fun ls hl => ?_)
  refine lv_aload_n hx hb dAR_fill_2 rfl (lv_at hl 1 rfl) ?_
  refine va_alen hx hb hK hP 0 0 rfl rfl (v := nI n) rfl dAR_fill_3 ?_
  refine lv_istore_n (lv' := [(3, .int (nI n)), (2, .int 0), (0, .ref h), (1, .int v)]) hx hb dAR_fill_4 rfl hl (by decide) rfl (fun ls hl => ?_)
  refine zfor (N := n) (fun k => ∀ (H : Heap) (locs : List Loc) (ls : Array Slot) (f : Nat → Int32), (∀ j, j < k → f j = v) → va_P (dC, dI) zCl [(h, .inl (cI, n, .inl f))] H → va_D A [(h, .inl (cI, n, .inl f))] → va_S A s.heap H locs → lv_has ls 4 [(0, .ref h), (1, .int v), (2, .int (nI k)), (3, .int (nI n))] → W p l e _ s m _ below meth c H locs _ _ _ (F0 m 5 ls [])) ?_ ?_ s.heap [] ls f0 (fun j h => absurd h (Nat.not_lt_zero _)) hP hD hS (lv_sub hl [2, 3, 1, 0] rfl)
  · intro k hk ih H locs ls f hf hP hD hS hl
    refine lv_iload_n hx hb dAR_fill_5 rfl (lv_at hl 2 rfl) ?_
    refine lv_iload_n hx hb dAR_fill_6 rfl (lv_at hl 3 rfl) ?_
    refine lv_icmp_ge (tgt := 20) hx hb dAR_fill_7 (by decide) (fun c9 => absurd c9 (nI_ge (b := n) hk hn)) (fun _ => ?_)
    refine lv_aload_n hx hb dAR_fill_10 rfl (lv_at hl 0 rfl) ?_
    refine lv_iload_n hx hb dAR_fill_11 rfl (lv_at hl 2 rfl) ?_
    refine lv_iload_n hx hb dAR_fill_12 rfl (lv_at hl 1 rfl) ?_
    refine va_iast hx hb hK hP hD hS 0 0 rfl rfl (i := nI k) (vp_in_nI hk hn) dAR_fill_13 (fun H locs hP hD hS => ?_)
    have hP : va_P (dC, dI) zCl [(h, .inl (cI, n, .inl (upd f (nI k : Int32).toNatClampNeg v)))] H := hP
    have hD : va_D A [(h, .inl (cI, n, .inl (upd f (nI k : Int32).toNatClampNeg v)))] := hD
    refine lv_iinc (v := nI (k + 1)) (lv' := [(2, .int (nI (k + 1))), (0, .ref h), (1, .int v), (3, .int (nI n))]) hx hb dAR_fill_14 hl (k := 2) rfl (nI_1 k) (by decide) rfl (fun ls hl => ?_)
    refine lv_goto (tgt := 5) hx hb dAR_fill_17 (by decide) ?_
    exact ih H locs ls (upd f (nI k : Int32).toNatClampNeg v) (zupd (Nat.lt_trans hk hn) hf) hP hD hS (lv_sub hl [1, 2, 0, 3] rfl)
  · intro H locs ls f hf hP hD hS hl
    refine lv_iload_n hx hb dAR_fill_5 rfl (lv_at hl 2 rfl) ?_
    refine lv_iload_n hx hb dAR_fill_6 rfl (lv_at hl 3 rfl) ?_
    refine lv_icmp_ge (tgt := 20) hx hb dAR_fill_7 (by decide) (fun _ => ?_) (fun c9 => absurd (nI_le (a := n) (b := n) (Nat.le_refl _) hn) c9)
    refine W.widen (k := 0) (n := 0) (Nat.le_of_ble_eq_true rfl) (Nat.le_of_ble_eq_true rfl) ?_
    have hP9 : va_P (dC, dI) zCl [(h, .inl (cI, n, .inl f))] H := hP.sub [0] rfl
    have hD9 : va_D A [(h, .inl (cI, n, .inl f))] := hD.sub [0] (by decide) rfl
    exact W.vret hx hb hr (fun t ht hW => ⟨⟨[(h, .inl (cI, n, .inl f))], rfl, ⟨f, hf, rfl⟩, by rw [ht]; exact hP9, hD9⟩, hS.F ht⟩) hS.2.2 dAR_fill_20
