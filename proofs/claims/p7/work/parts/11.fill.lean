abbrev yAR_fill : MethodName := ⟨"java/util/Arrays", "fill", "([II)V"⟩
abbrev bAR_fill : ByteArray := prog_18_method_103_code
theorem dAR_fill_0 : decode bAR_fill 0 = .ok (.iconst 0, 1) := by decide +kernel
theorem dAR_fill_1 : decode bAR_fill 1 = .ok (.istore_n 2, 1) := by decide +kernel
theorem dAR_fill_2 : decode bAR_fill 2 = .ok (.aload_n 0, 1) := by decide +kernel
theorem dAR_fill_3 : decode bAR_fill 3 = .ok (.arraylength, 1) := by decide +kernel
theorem dAR_fill_4 : decode bAR_fill 4 = .ok (.istore_n 3, 1) := by decide +kernel
theorem dAR_fill_5 : decode bAR_fill 5 = .ok (.iload_n 2, 1) := by decide +kernel
theorem dAR_fill_6 : decode bAR_fill 6 = .ok (.iload_n 3, 1) := by decide +kernel
theorem dAR_fill_7 : decode bAR_fill 7 = .ok (.if_icmp .ge 13, 3) := by decide +kernel
theorem dAR_fill_10 : decode bAR_fill 10 = .ok (.aload_n 0, 1) := by decide +kernel
theorem dAR_fill_11 : decode bAR_fill 11 = .ok (.iload_n 2, 1) := by decide +kernel
theorem dAR_fill_12 : decode bAR_fill 12 = .ok (.iload_n 1, 1) := by decide +kernel
theorem dAR_fill_13 : decode bAR_fill 13 = .ok (.iastore, 1) := by decide +kernel
theorem dAR_fill_14 : decode bAR_fill 14 = .ok (.iinc 2 1, 3) := by decide +kernel
theorem dAR_fill_17 : decode bAR_fill 17 = .ok (.goto (-12), 3) := by decide +kernel
theorem dAR_fill_20 : decode bAR_fill 20 = .ok (.return_, 1) := by decide +kernel
theorem zarr_congr {cI : ClassId} {N : Nat} {f g : Nat → Value} (h : ∀ j, j < N → f j = g j) : arrV cI N f = arrV cI N g := by
  unfold arrV
  have e : (fun j : Fin N => f j.val) = fun j : Fin N => g j.val := funext fun j => h j.val j.isLt
  rw [e]
theorem zupd {f : Nat → Int32} {k : Nat} {v : Int32} (hk : k < 2 ^ 31) (hf : ∀ j, j < k → f j = v) : ∀ j, j < k + 1 → upd f (nI k).toNatClampNeg v j = v := fun j hj => by
  rw [nI_clamp hk]
  unfold upd
  by_cases e : j = k
  · rw [if_pos e]
  · rw [if_neg e]; exact hf j (by omega)
set_option maxHeartbeats 4000000 in
set_option maxRecDepth 100000 in
theorem zw_fill (l : Launch) (dC : Nat → ClassId) (dI : Nat → Nat → Nat) (cI cZ cJ cA : ClassId) (a0 : Array Value) (s0 : State) (h n sz : Nat) (f0 : Nat → Int32) (v : Int32) (hn : n < 2 ^ 31) : Met l yAR_fill [Cond.code yAR_fill bAR_fill 4 none] ({ frames := 0, cells := 0, slots := 0, locals := 0 } : Room) (zP zCl dC dI (zTZ cI cZ cJ cA) a0 s0 [.ref h, .int v] sz [(h, .inl (cI, n, .inl f0))]) (zQw zCl dC dI (fun wo => ∃ f2 : Nat → Int32, (∀ j, j < n → f2 j = v) ∧ wo = [(h, .inl (cI, n, .inl f2))]) (va_A [(h, .inl (cI, n, .inl f0))] sz)) 0 0 (va_A [(h, .inl (cI, n, .inl f0))] sz) := by
  refine Met.ofW (cc := bAR_fill) (maxL := 4) (ret := none) (by decide) rfl ?_
  intro p e s m args below meth c s₁ B hml hv
  obtain ⟨rfl, hsz, hP, hK, hD0, hB⟩ := hv
  have hx := B.exec
  have hb := B.bytes
  have hr := B.returns
  have hown : s.vm.findClass "java/util/Arrays" = some m.cls := findClass_of_methodNamed B.named
  have hlocks := B.notSynchronized
  subst hsz
  have hD := hD0.self (sz := s.heap.size)
  have hA0 := zA0 hD0 hB
  generalize hAe : va_A [(h, .inl (cI, n, .inl f0))] s.heap.size = A at hD hA0 ⊢
  have hAD := hA0
  have hA : ∀ q : Nat, s.heap.size ≤ q → A q := fun q h => by rw [← hAe]; exact Or.inr h
  have hS : va_S A s.heap s.heap [] := va_S.rf
  have hP : va_P (dC, dI) zCl [(h, .inl (cI, n, .inl f0))] s.heap := hP
  have hl := lv_entry ([.ref h, .int v]) (n := 4) (Nat.le_of_ble_eq_true rfl)
  rw [lg_entry_eq]
  generalize (lg_sl ([.ref h, .int v]) ++ List.replicate (4 - (lg_sl ([.ref h, .int v])).length) Slot.unset).toArray = ls at hl ⊢
  have hl : lv_has ls 4 [(0, .ref h), (1, .int v)] := hl
  refine lv_iconst (v := 0) hx hb dAR_fill_0 (by decide) ?_
  refine lv_istore_n (lv' := [(2, .int 0), (0, .ref h), (1, .int v)]) hx hb dAR_fill_1 rfl hl (by decide) rfl (fun ls hl => ?_)
  refine lv_aload_n hx hb dAR_fill_2 rfl (lv_at hl 1 rfl) ?_
  refine va_alen hx hb hK hP 0 0 rfl rfl (v := nI n) rfl dAR_fill_3 ?_
  refine lv_istore_n (lv' := [(3, .int (nI n)), (2, .int 0), (0, .ref h), (1, .int v)]) hx hb dAR_fill_4 rfl hl (by decide) rfl (fun ls hl => ?_)
  refine zfor (N := n) (fun k => ∀ (H : Heap) (locs : List Loc) (ls : Array Slot) (f : Nat → Int32), (∀ j, j < k → f j = v) → va_P (dC, dI) zCl [(h, .inl (cI, n, .inl f))] H → va_D A [(h, .inl (cI, n, .inl f))] → va_S A s.heap H locs → lv_has ls 4 [(0, .ref h), (1, .int v), (2, .int (nI k)), (3, .int (nI n))] → W p l e _ s m _ below meth c H locs _ _ _ (F0 m 5 ls [])) ?_ ?_ s.heap [] ls f0 (fun j h => absurd h (Nat.not_lt_zero _)) hP hD hS (lv_sub hl [2, 3, 1, 0] rfl)
  · intro k hk ih H locs ls f hf hP hD hS hl
    refine lv_iload_n hx hb dAR_fill_5 rfl (lv_at hl 2 rfl) ?_
    refine lv_iload_n hx hb dAR_fill_6 rfl (lv_at hl 3 rfl) ?_
    refine lv_icmp_ge (tgt := 20) hx hb dAR_fill_7 (by decide) (fun c9 => absurd c9 (nI_ge (b := n) hk hn)) (fun _ => ?_)
    refine lv_aload_n hx hb dAR_fill_10 rfl (lv_at hl 0 rfl) ?_
    refine lv_iload_n hx hb dAR_fill_11 rfl (lv_at hl 2 rfl) ?_
    refine lv_iload_n hx hb dAR_fill_12 rfl (lv_at hl 1 rfl) ?_
    refine va_iast hx hb hK hP hD hS 0 0 rfl rfl (i := nI k) (vp_in_nI hk hn) dAR_fill_13 (fun H locs hP hD hS => ?_)
    have hP : va_P (dC, dI) zCl [(h, .inl (cI, n, .inl (upd f (nI k : Int32).toNatClampNeg v)))] H := hP
    have hD : va_D A [(h, .inl (cI, n, .inl (upd f (nI k : Int32).toNatClampNeg v)))] := hD
    refine lv_iinc (v := nI (k + 1)) (lv' := [(2, .int (nI (k + 1))), (0, .ref h), (1, .int v), (3, .int (nI n))]) hx hb dAR_fill_14 hl (k := 2) rfl (nI_1 k) (by decide) rfl (fun ls hl => ?_)
    refine lv_goto (tgt := 5) hx hb dAR_fill_17 (by decide) ?_
    exact ih H locs ls (upd f (nI k : Int32).toNatClampNeg v) (zupd (Nat.lt_trans hk hn) hf) hP hD hS (lv_sub hl [1, 2, 0, 3] rfl)
  · intro H locs ls f hf hP hD hS hl
    refine lv_iload_n hx hb dAR_fill_5 rfl (lv_at hl 2 rfl) ?_
    refine lv_iload_n hx hb dAR_fill_6 rfl (lv_at hl 3 rfl) ?_
    refine lv_icmp_ge (tgt := 20) hx hb dAR_fill_7 (by decide) (fun _ => ?_) (fun c9 => absurd (nI_le (a := n) (b := n) (Nat.le_refl _) hn) c9)
    refine W.widen (k := 0) (n := 0) (Nat.le_of_ble_eq_true rfl) (Nat.le_of_ble_eq_true rfl) ?_
    have hP9 : va_P (dC, dI) zCl [(h, .inl (cI, n, .inl f))] H := hP.sub [0] rfl
    have hD9 : va_D A [(h, .inl (cI, n, .inl f))] := hD.sub [0] (by decide) rfl
    exact W.vret hx hb hr (fun t ht hW => ⟨⟨[(h, .inl (cI, n, .inl f))], rfl, ⟨f, hf, rfl⟩, by rw [ht]; exact hP9, hD9⟩, hS.F ht⟩) hS.2.2 dAR_fill_20
section ZLc
variable {p : Program} {l : Launch} {e : Env} {R : Room} {s : State} {m : MethodId} {args : Array Value} {below : List Frame} {meth : Method} {c : Code} {H : Heap} {locs : List Loc} {cells slots : Nat} {Q : State → Prop}
variable {pc : Nat} {ls : Array Slot} {rest st0 : List Value} {β : Type} {t : β} {A : Nat → Prop} {H0 : Heap} {cI cZ cJ cA : ClassId} {o b : Nat → Nat} {P S : ZS} {dC : Nat → ClassId} {dI : Nat → Nat → Nat} {a : Array Value} {mc ms : Nat}
theorem c_fillP {k N : Nat} (hk : 9 ≤ k ∧ k < 76) (hc : cC cI cZ k = cI) (hL : cL k = N) (hP : va_P (dC, dI) zCl (CW cI cZ cA o b P S) H) : va_P (dC, dI) zCl [(b k, .inl (cI, N, .inl (S.F k)))] H := by
  have hq : (CW cI cZ cA o b P S)[8 + k]? = some (b k, .inl (cI, N, .inl (S.F k))) := by rw [CW_atS hk, hc, hL]
  intro i q h
  cases i with
  | zero => cases h; exact hP _ _ hq
  | succ i => cases h
theorem c_fillD {k N : Nat} (hk : 9 ≤ k ∧ k < 76) (hc : cC cI cZ k = cI) (hL : cL k = N) (hD : va_D A (CW cI cZ cA o b P S)) : va_D A [(b k, .inl (cI, N, .inl (S.F k)))] := by
  have hq : (CW cI cZ cA o b P S)[8 + k]? = some (b k, .inl (cI, N, .inl (S.F k))) := by rw [CW_atS hk, hc, hL]
  refine ⟨fun i j p q hi hj _ => ?_, fun i q h => ?_⟩
  · cases i with
    | zero => cases j with
      | zero => rfl
      | succ j => cases hj
    | succ i => cases hi
  · cases i with
    | zero => cases h; exact hD.2 _ _ hq
    | succ i => cases h
theorem c_fill {k N : Nat} {v : Int32} (hk : 9 ≤ k ∧ k < 76) (hc : cC cI cZ k = cI) (hL : cL k = N) (hP : va_P (dC, dI) zCl (CW cI cZ cA o b P S) H) (hD : va_D A (CW cI cZ cA o b P S)) (hS : va_S A H0 H locs) (hA : ∀ q, H0.size ≤ q → A q)
    (hr : va_Run p l e R s m args below meth c H locs cells slots mc ms (F0 m pc ls st0) rest (zQw zCl dC dI (fun wo => ∃ f2 : Nat → Int32, (∀ j, j < N → f2 j = v) ∧ wo = [(b k, .inl (cI, N, .inl f2))]) (va_A [(b k, .inl (cI, N, .inl (S.F k)))] H.size) a) (va_A [(b k, .inl (cI, N, .inl (S.F k)))] H.size)) {f : ZS → β} (E : t = zl (S.row k (fun _ => v)) f)
    (kk : ∀ (S1 : ZS) (H1 : Heap) (locs1 : List Loc), S1 = S.row k (fun _ => v) → t = f S1 → va_P (dC, dI) zCl (CW cI cZ cA o b P S1) H1 → va_D A (CW cI cZ cA o b P S1) → va_S A H0 H1 locs1 → W p l e R s m args below meth c H1 locs1 (cells + mc) (slots + ms) Q (F0 m (pc + 3) ls rest)) : W p l e R s m args below meth c H locs cells slots Q (F0 m pc ls st0) := by
  have hq : (CW cI cZ cA o b P S)[8 + k]? = some (b k, .inl (cI, N, .inl (S.F k))) := by rw [CW_atS hk, hc, hL]
  have hin : ∀ q, va_A [(b k, .inl (cI, N, .inl (S.F k)))] H.size q → q = b k ∨ H.size ≤ q := by
    rintro q (⟨i, e, h⟩ | h)
    · cases i with
      | zero => cases h; exact Or.inl rfl
      | succ i => cases h
    · exact Or.inr h
  have hF : ∀ q, va_A [(b k, .inl (cI, N, .inl (S.F k)))] H.size q → A q := fun q h => by
    rcases hin q h with rfl | h
    · exact hD.2 _ _ hq
    · exact hA q (Nat.le_trans hS.1 h)
  refine va_callv hr hS (fun q _ h => hF q h) hF (fun wo t1 H1 locs1 ht _ hw hB hz hk1 hS1 => ?_)
  obtain ⟨f2, hf2, rfl⟩ := hw
  obtain ⟨hP1, hD1⟩ := hB
  rw [ht] at hP1
  have hcell : H1[b k]? = some (vp_cell cI (N, .inl (fun _ => v))) := by
    have h0 : H1[b k]? = some (vp_cell cI (N, .inl f2)) := hP1 0 _ rfl
    rw [h0, vp_cell_i, vp_cell_i, zarr_congr (fun j hj => by rw [hf2 j hj])]
  have hset := CW_setS (cA := cA) (cI := cI) (cZ := cZ) (o := o) (b := b) (P := P) (S := S) hk (fun _ => v)
  rw [hc, hL] at hset
  refine kk _ H1 locs1 rfl E ?_ ?_ hS1
  · rw [← hset]
    intro i q hi
    by_cases e : i = 8 + k
    · subst e
      rw [List.getElem?_set_self (by rw [CW_len]; omega)] at hi
      cases hi
      exact hcell
    · rw [List.getElem?_set_ne (Ne.symm e)] at hi
      have h1 := hP i q hi
      refine h1.kept (hk1 q.1 h1.lt (fun h => ?_))
      rcases hin q.1 h with h | h
      · exact e (hD.1 i (8 + k) q _ hi hq h)
      · exact absurd h1.lt (Nat.not_lt.mpr h)
  · rw [← hset]
    exact hD.set hq
end ZLc
section ZLm
variable {p : Program} {l : Launch} {e : Env} {R : Room} {s : State} {m : MethodId} {args : Array Value} {below : List Frame} {meth : Method} {c : Code} {H : Heap} {locs : List Loc} {cells slots : Nat} {Q : State → Prop}
variable {pc : Nat} {ls : Array Slot} {rest st0 : List Value} {β : Type} {t : β} {A : Nat → Prop} {H0 : Heap} {cI cZ cJ cA : ClassId} {o b : Nat → Nat} {P S : ZS} {dC : Nat → ClassId} {dI : Nat → Nat → Nat} {a : Array Value} {mc ms : Nat}
theorem m_fillP {k N : Nat} (hk : 7 ≤ k ∧ k < 38) (hc : mC cI cZ k = cI) (hL : mL k = N) (hP : va_P (dC, dI) zCl (MW cI cZ cA o b P S) H) : va_P (dC, dI) zCl [(b k, .inl (cI, N, .inl (S.F k)))] H := by
  have hq : (MW cI cZ cA o b P S)[1 + k]? = some (b k, .inl (cI, N, .inl (S.F k))) := by rw [MW_atS hk, hc, hL]
  intro i q h
  cases i with
  | zero => cases h; exact hP _ _ hq
  | succ i => cases h
theorem m_fillD {k N : Nat} (hk : 7 ≤ k ∧ k < 38) (hc : mC cI cZ k = cI) (hL : mL k = N) (hD : va_D A (MW cI cZ cA o b P S)) : va_D A [(b k, .inl (cI, N, .inl (S.F k)))] := by
  have hq : (MW cI cZ cA o b P S)[1 + k]? = some (b k, .inl (cI, N, .inl (S.F k))) := by rw [MW_atS hk, hc, hL]
  refine ⟨fun i j p q hi hj _ => ?_, fun i q h => ?_⟩
  · cases i with
    | zero => cases j with
      | zero => rfl
      | succ j => cases hj
    | succ i => cases hi
  · cases i with
    | zero => cases h; exact hD.2 _ _ hq
    | succ i => cases h
theorem m_fill {k N : Nat} {v : Int32} (hk : 7 ≤ k ∧ k < 38) (hc : mC cI cZ k = cI) (hL : mL k = N) (hP : va_P (dC, dI) zCl (MW cI cZ cA o b P S) H) (hD : va_D A (MW cI cZ cA o b P S)) (hS : va_S A H0 H locs) (hA : ∀ q, H0.size ≤ q → A q)
    (hr : va_Run p l e R s m args below meth c H locs cells slots mc ms (F0 m pc ls st0) rest (zQw zCl dC dI (fun wo => ∃ f2 : Nat → Int32, (∀ j, j < N → f2 j = v) ∧ wo = [(b k, .inl (cI, N, .inl f2))]) (va_A [(b k, .inl (cI, N, .inl (S.F k)))] H.size) a) (va_A [(b k, .inl (cI, N, .inl (S.F k)))] H.size)) {f : ZS → β} (E : t = zl (S.row k (fun _ => v)) f)
    (kk : ∀ (S1 : ZS) (H1 : Heap) (locs1 : List Loc), S1 = S.row k (fun _ => v) → t = f S1 → va_P (dC, dI) zCl (MW cI cZ cA o b P S1) H1 → va_D A (MW cI cZ cA o b P S1) → va_S A H0 H1 locs1 → W p l e R s m args below meth c H1 locs1 (cells + mc) (slots + ms) Q (F0 m (pc + 3) ls rest)) : W p l e R s m args below meth c H locs cells slots Q (F0 m pc ls st0) := by
  have hq : (MW cI cZ cA o b P S)[1 + k]? = some (b k, .inl (cI, N, .inl (S.F k))) := by rw [MW_atS hk, hc, hL]
  have hin : ∀ q, va_A [(b k, .inl (cI, N, .inl (S.F k)))] H.size q → q = b k ∨ H.size ≤ q := by
    rintro q (⟨i, e, h⟩ | h)
    · cases i with
      | zero => cases h; exact Or.inl rfl
      | succ i => cases h
    · exact Or.inr h
  have hF : ∀ q, va_A [(b k, .inl (cI, N, .inl (S.F k)))] H.size q → A q := fun q h => by
    rcases hin q h with rfl | h
    · exact hD.2 _ _ hq
    · exact hA q (Nat.le_trans hS.1 h)
  refine va_callv hr hS (fun q _ h => hF q h) hF (fun wo t1 H1 locs1 ht _ hw hB hz hk1 hS1 => ?_)
  obtain ⟨f2, hf2, rfl⟩ := hw
  obtain ⟨hP1, hD1⟩ := hB
  rw [ht] at hP1
  have hcell : H1[b k]? = some (vp_cell cI (N, .inl (fun _ => v))) := by
    have h0 : H1[b k]? = some (vp_cell cI (N, .inl f2)) := hP1 0 _ rfl
    rw [h0, vp_cell_i, vp_cell_i, zarr_congr (fun j hj => by rw [hf2 j hj])]
  have hset := MW_setS (cA := cA) (cI := cI) (cZ := cZ) (o := o) (b := b) (P := P) (S := S) hk (fun _ => v)
  rw [hc, hL] at hset
  refine kk _ H1 locs1 rfl E ?_ ?_ hS1
  · rw [← hset]
    intro i q hi
    by_cases e : i = 1 + k
    · subst e
      rw [List.getElem?_set_self (by rw [MW_len]; omega)] at hi
      cases hi
      exact hcell
    · rw [List.getElem?_set_ne (Ne.symm e)] at hi
      have h1 := hP i q hi
      refine h1.kept (hk1 q.1 h1.lt (fun h => ?_))
      rcases hin q.1 h with h | h
      · exact e (hD.1 i (1 + k) q _ hi hq h)
      · exact absurd h1.lt (Nat.not_lt.mpr h)
  · rw [← hset]
    exact hD.set hq
end ZLm
