theorem k1_0 : tables_1_1[0]? = some (Jvm.Cond.initialized "RingGuardLaw") := by decide +kernel
theorem k2_59 : tables_1_2[59]? = some (Jvm.Cond.methodLink "RingGuardLaw" (73 : Nat) ({ cls := "RingGuardLaw", name := "bridge", desc := "(LRingGuard;[J)I" } : Jvm.MethodName)) := by decide +kernel
theorem k2_60 : tables_1_2[60]? = some (Jvm.Cond.static ({ cls := "RingGuardLaw", name := "bridge", desc := "(LRingGuard;[J)I" } : Jvm.MethodName)) := by decide +kernel
theorem k2_61 : tables_1_2[61]? = some (Jvm.Cond.codeWith ({ cls := "RingGuardLaw", name := "bridge", desc := "(LRingGuard;[J)I" } : Jvm.MethodName) method_3_code (3 : Nat) (Option.some Jvm.ClassFile.FieldType.int) [((0 : Nat), (8 : Nat), (11 : Nat), (13 : Nat))]) := rfl
theorem k5_38 : tables_1_5[38]? = some (Jvm.Cond.methodLink "RingGuardLaw" (78 : Nat) ({ cls := "RingGuardModel", name := "bridge", desc := "()I" } : Jvm.MethodName)) := by decide +kernel
theorem k5_39 : tables_1_5[39]? = some (Jvm.Cond.instanceMethod ({ cls := "RingGuardModel", name := "bridge", desc := "()I" } : Jvm.MethodName)) := by decide +kernel
theorem k5_40 : tables_1_5[40]? = some (Jvm.Cond.selects "RingGuardModel" ({ cls := "RingGuardModel", name := "bridge", desc := "()I" } : Jvm.MethodName) ({ cls := "RingGuardModel", name := "bridge", desc := "()I" } : Jvm.MethodName)) := by decide +kernel
theorem k5_41 : tables_1_5[41]? = some (Jvm.Cond.code ({ cls := "RingGuardModel", name := "bridge", desc := "()I" } : Jvm.MethodName) prog_10_method_9_code (1 : Nat) (Option.some Jvm.ClassFile.FieldType.int)) := rfl
abbrev yLA_law : MethodName := ⟨"RingGuardLaw", "law", "([I)Z"⟩
abbrev bLA_law : ByteArray := code
theorem dLA_law_136 : decode bLA_law 136 = .ok (.aload_n 1, 1) := by decide +kernel
theorem dLA_law_137 : decode bLA_law 137 = .ok (.aload_n 3, 1) := by decide +kernel
theorem dLA_law_138 : decode bLA_law 138 = .ok (.invokestatic 73, 3) := by decide +kernel
theorem dLA_law_141 : decode bLA_law 141 = .ok (.istore 5, 2) := by decide +kernel
theorem dLA_law_143 : decode bLA_law 143 = .ok (.aload_n 2, 1) := by decide +kernel
theorem dLA_law_144 : decode bLA_law 144 = .ok (.invokevirtual 78, 3) := by decide +kernel
theorem dLA_law_147 : decode bLA_law 147 = .ok (.istore 6, 2) := by decide +kernel
theorem dLA_law_149 : decode bLA_law 149 = .ok (.goto 728, 3) := by decide +kernel
def lw_P (b : Addr) (xs : List Int32) (args : Array Value) (s : State) : Prop := args = #[.ref b] ∧ s.IntsAt b xs ∧ xs.length ≤ 2048 ∧ (Jvm.Cond.and given_1 narrow_1).before args s = true
def lw_Q (_ : Array Value) (s : State) (o : Outcome) (t : State) : Prop := o = .returned (some (.int 1)) ∧ Framed s o t [] 601024 7293034
def lw_Z (below : List Frame) (a : Array Value) (s : State) : State → Prop := fun t => ∃ o, t.status = .running ∧ Ended t below o ∧ lw_Q a s o t
/-- the law's own end, with 1 on the stack, nothing written that was there before, its room as the claim has it -/
theorem lw_ret {p : Program} {l : Launch} {e : Env} {s : State} {m : MethodId} {below : List Frame} {meth : Method} {c : Code} {b : Nat} (hx : p.tables.exec = Jvm.exec) (hb : c.code = code) (hr : meth.sig.returnType = ret) (hlocks : meth.locks = false) {pc : Nat} {H : Heap} {ls : Array Slot} (hdg : decode code pc = .ok (.ireturn, 1)) : W p l e room_1 s m #[Value.ref b] below meth c H [] 601024 7293034 (lw_Z below #[Value.ref b] s) (F0 m pc ls [.int 1]) := by
  intro T hT X
  obtain ⟨fs, hret, hrun, hended, hW, hframe⟩ := X.leave (v := some (.int 1)) (hlocks := hlocks) (fun h => by rw [hr] at h; cases h)
  have hmeth' : T.vm.method? m = some meth := X.method'
  refine ⟨T.setFrames fs, ?_, .returned (some (.int 1)), hrun, hended, rfl, ⟨_, rfl⟩, hW, hframe⟩
  jvm_step X.here [X.here.top, hx, hb, hdg, hmeth', hr, ret, narrow_b1]
  (try refine ⟨rfl, ?_⟩); (try refine ⟨rfl, ?_⟩)
  first | (intro acts; rw [hret _ acts rfl rfl rfl]) | rw [hret _ _ rfl rfl rfl]
  exact Steps.refl _
def zAt (p : Program) (s : State) (m : MethodId) (meth : Method) (c : Code) (sb L : Nat) (xs : Nat → Int32) : Prop :=
  p.tables.exec = Jvm.exec ∧ c.code = code ∧ meth.sig.returnType = ret ∧ c.maxLocals = 7 ∧ s.vm.findClass "RingGuardLaw" = some m.cls ∧ tq_B zT #[Value.ref sb] s s ∧ va_X sb L xs s s.heap ∧ sb < s.heap.size ∧ meth.locks = false
def zRel (n : Nat) (P S P' S' : ZS) : Prop := zIv P P' ∧ cok S ∧ mok S' ∧ zXr n P S P' S'
def zGo (p : Program) (l : Launch) (e : Env) (s : State) (m : MethodId) (below : List Frame) (meth : Method) (c : Code) (dC : Nat → ClassId) (dI : Nat → Nat → Nat) (cI cZ cJ cA : ClassId) (sb qo : Nat) (o mo mb : Nat → Nat) (n : Nat) (i : Int32) (pc cells slots : Nat) : Prop :=
  ∀ (H : Heap) (locs : List Loc) (ls : Array Slot) (b : Nat → Nat) (P S P' S' : ZS) (f : Nat → Int64), zRel n P S P' S' → va_P (dC, dI) zCl ((CW cI cZ cA o b P S ++ [(qo, .inl (cJ, 1, .inr (.inl f)))]) ++ MW cI cZ cA mo mb P' S') H → va_D (zN s.heap.size) ((CW cI cZ cA o b P S ++ [(qo, .inl (cJ, 1, .inr (.inl f)))]) ++ MW cI cZ cA mo mb P' S') → va_S (zN s.heap.size) s.heap H locs → lv_has ls 7 [(4, .int i), (3, .ref qo), (2, .ref (mo 0)), (1, .ref (o 0)), (0, .ref sb)] → W p l e room_1 s m #[Value.ref sb] below meth c H locs cells slots (lw_Z below #[Value.ref sb] s) (F0 m pc ls [])
theorem zL4 {L k : Nat} {n : Int32} (hL : L ≤ 2048) (hk : 4 * k ≤ L) (en : n = Int32.ofNat L - 4) (c : ¬ n < nI (4 * k)) : 4 * k + 4 ≤ L := by
  have h1 : (nI L).toInt = L := nI_toInt (by omega)
  have h2 : (nI (4 * k)).toInt = (4 * k : Nat) := nI_toInt (by omega)
  have h4 : (4 : Int32).toInt = 4 := by decide
  have e : n.toInt = L - 4 := by
    rw [en]
    show (nI L - 4).toInt = _
    rw [Int32.toInt_sub, h1, h4, zbm ⟨by omega, by omega⟩]
  rw [Int32.lt_iff_toInt_lt, e, h2] at c
  omega
theorem zfm {w w' : va_W} {is : List Nat} (h : is.map (fun i => w[i]?) = w'.map some) : is.filterMap (fun i => w[i]?) = w' := by
  have e := congrArg (List.filterMap id) h
  rw [List.filterMap_map, List.filterMap_map] at e
  have e1 : (id ∘ fun i : Nat => w[i]?) = fun i : Nat => w[i]? := rfl
  have e2 : (id ∘ (some : Nat × va_E → Option (Nat × va_E))) = some := rfl
  rw [e1, e2, List.filterMap_some] at e
  exact e
theorem zsubP {D : va_G} {cl : List vw_C} {w w' v : va_W} {H : Heap} (hP : va_P D cl (w ++ v) H) (is : List Nat) (h : is.map (fun i => w[i]?) = w'.map some) : va_P D cl (w' ++ v) H := va_P.app ((zPL hP).sub is (zfm h)) (zPR hP)
theorem zsubD {A : Nat → Prop} {w w' v : va_W} (hD : va_D A (w ++ v)) (is : List Nat) (h : is.map (fun i => w[i]?) = w'.map some) (hn : va_nd is = true) : va_D A (w' ++ v) := by
  refine va_D.app ((zDL hD).sub is hn h) (zDR hD) (fun i j x y hi hj hxy => ?_)
  have h1 : (is.map (fun i => w[i]?))[i]? = (w'.map some)[i]? := by rw [h]
  rw [List.getElem?_map, List.getElem?_map, hi] at h1
  cases h2 : is[i]? with
  | none => rw [h2] at h1; cases h1
  | some t =>
    rw [h2] at h1
    have h3 : w[t]? = some x := Option.some.inj h1
    have hl := (List.getElem?_eq_some_iff.mp h3).1
    have h4 : (w ++ v)[t]? = some x := by rw [List.getElem?_append_left hl]; exact h3
    have h5 : (w ++ v)[w.length + j]? = some y := by rw [List.getElem?_append_right (Nat.le_add_right _ _), Nat.add_sub_cancel_left]; exact hj
    have := hD.1 _ _ x y h4 h5 hxy
    omega
theorem zH_fail_P {P S : ZS} {f : Nat → Int64} {x0 r : Int32} {w : ZS × ZS × (Nat → Int64)} (h : zH_fail P S f x0 r w) : w.1 = P := by
  unfold zH_fail at h
  split at h
  · rw [h.2]
  · rw [h.2]
theorem zH_heal_P {P S : ZS} {f : Nat → Int64} {x0 r : Int32} {w : ZS × ZS × (Nat → Int64)} (h : zH_heal P S f x0 r w) : w.1 = P := by
  unfold zH_heal at h
  split at h
  · rw [h.2]
  · rw [h.2]
theorem zH_lose_P {P S : ZS} {f : Nat → Int64} {x0 x1 r : Int32} {w : ZS × ZS × (Nat → Int64)} (h : zH_lose P S f x0 x1 r w) : w.1 = P := by
  unfold zH_lose at h
  split at h
  · rw [h.2]
  · rw [h.2]
theorem zH_order_P {P S : ZS} {f : Nat → Int64} {x0 x1 x2 r : Int32} {w : ZS × ZS × (Nat → Int64)} (h : zH_order P S f x0 x1 x2 r w) : w.1 = P := by
  unfold zH_order at h
  split at h
  · rw [h.2]
  · rw [h.2]
theorem zH_clear_P {P S : ZS} {f : Nat → Int64} {x0 x1 r : Int32} {w : ZS × ZS × (Nat → Int64)} (h : zH_clear P S f x0 x1 r w) : w.1 = P := by
  unfold zH_clear at h
  split at h
  · rw [h.2]
  · rw [h.2]
theorem zH_ticks_P {P S : ZS} {f : Nat → Int64} {x0 r : Int32} {w : ZS × ZS × (Nat → Int64)} (h : zH_ticks P S f x0 r w) : w.1 = P := by
  unfold zH_ticks at h
  split at h
  · rw [h.2]
  · rw [h.2]
theorem zH_host_P {P S : ZS} {f : Nat → Int64} {x0 x1 r : Int32} {w : ZS × ZS × (Nat → Int64)} (h : zH_host P S f x0 x1 r w) : w.1 = P := by
  unfold zH_host at h
  split at h
  · rw [h.2]
  · rw [h.2]
theorem zH_send_P {P S : ZS} {f : Nat → Int64} {x0 x1 x2 r : Int32} {w : ZS × ZS × (Nat → Int64)} (h : zH_send P S f x0 x1 x2 r w) : w.1 = P := by
  unfold zH_send at h
  split at h
  · rw [h.2]
  · rw [h.2]
theorem zH_holds_P {P S : ZS} {f : Nat → Int64} {x0 x1 r : Int32} {w : ZS × ZS × (Nat → Int64)} (h : zH_holds P S f x0 x1 r w) : w.1 = P := by
  unfold zH_holds at h
  split at h
  · rw [h.2]
  · rw [h.2]
theorem zH_told_P {P S : ZS} {f : Nat → Int64} {x0 x1 x2 r : Int32} {w : ZS × ZS × (Nat → Int64)} (h : zH_told P S f x0 x1 x2 r w) : w.1 = P := by
  unfold zH_told at h
  split at h
  · rw [h.2]
  · rw [h.2]
theorem zH_learned_P {P S : ZS} {f : Nat → Int64} {x0 x1 x2 r : Int32} {w : ZS × ZS × (Nat → Int64)} (h : zH_learned P S f x0 x1 x2 r w) : w.1 = P := by
  unfold zH_learned at h
  split at h
  · rw [h.2]
  · rw [h.2]
theorem zH_joined_P {P S : ZS} {f : Nat → Int64} {x0 x1 r : Int32} {w : ZS × ZS × (Nat → Int64)} (h : zH_joined P S f x0 x1 r w) : w.1 = P := by
  unfold zH_joined at h
  split at h
  · rw [h.2]
  · rw [h.2]
theorem zs_bridge {P P' S S' : ZS} {f : Nat → Int64} {r r' : Int32} {w : ZS × ZS × (Nat → Int64)} {w' : ZS × ZS} (h : zIv P P') (h1 : zH_bridge P S f r w) (g1 : cok w.1) (h2 : (w'.1, w'.2, r') = fMO_bridge P' S') (g2 : mok w'.1) : zIv w.1 w'.1 ∧ w'.2.I 3 = r ∧ (r = 0 → w.2.2 (0 : Int32).toNatClampNeg = r'.toInt64) := by
  obtain ⟨P1, S1, f1⟩ := w
  obtain ⟨P2, S2⟩ := w'
  rcases zbridge h S S' with ⟨⟨k, e1⟩, e2⟩ | ⟨e1, e2, e3⟩
  · unfold zH_bridge at h1
    rw [e1] at h1
    rw [e2] at h2
    obtain ⟨rfl, hw⟩ := h1
    cases hw
    cases h2
    exact ⟨h, rfl, fun h => absurd h (by decide)⟩
  · unfold zH_bridge at h1
    rw [e1] at h1
    rw [e2] at h2
    obtain ⟨rfl, hw⟩ := h1
    cases hw
    cases h2
    exact ⟨e3 g1 g2, rfl, fun _ => rfl⟩
theorem zs_link {P P' S S' : ZS} {f : Nat → Int64} {x0 x1 x2 r r' : Int32} {w : ZS × ZS × (Nat → Int64)} {w' : ZS × ZS} (h : zIv P P') (h1 : zH_link P S f x0 x1 x2 r w) (g1 : cok w.1) (h2 : (w'.1, w'.2, r') = fMO_link P' S' x0 x1 x2) (g2 : mok w'.1) : zIv w.1 w'.1 := by
  obtain ⟨P1, S1, f1⟩ := w
  obtain ⟨P2, S2⟩ := w'
  rcases zlink h S S' x0 x1 x2 with ⟨k, S3, e1, e2⟩ | ⟨S3, e1, e2, e3⟩
  · unfold zH_link at h1
    rw [e1] at h1
    rw [e2] at h2
    obtain ⟨-, hw⟩ := h1
    cases hw
    cases h2
    exact h
  · unfold zH_link at h1
    rw [e1] at h1
    rw [e2] at h2
    obtain ⟨-, hw⟩ := h1
    cases hw
    cases h2
    exact e3 g1 g2
theorem zs_owner {P P' S S' : ZS} {f : Nat → Int64} {x0 x1 x2 r : Int32} {w : ZS × ZS × (Nat → Int64)} {w' : ZS × ZS} (h : zIv P P') (h1 : zH_owner P S f x0 x1 x2 r w) (g1 : cok w.1) (h2 : w' = fMO_owner P' S' x0 x1 x2) (g2 : mok w'.1) : zIv w.1 w'.1 := by
  obtain ⟨P1, S1, f1⟩ := w
  obtain ⟨P2, S2⟩ := w'
  rcases zowner h S S' x0 x1 x2 with ⟨k, S3, e1, e2⟩ | ⟨S3, e1, e2, e3⟩
  · unfold zH_owner at h1
    rw [e1] at h1
    rw [e2] at h2
    obtain ⟨-, hw⟩ := h1
    cases hw
    cases h2
    exact h
  · unfold zH_owner at h1
    rw [e1] at h1
    rw [e2] at h2
    obtain ⟨-, hw⟩ := h1
    cases hw
    cases h2
    exact e3 g1 g2
theorem zs_start {P P' S S' : ZS} {f : Nat → Int64} {r r' : Int32} {w : ZS × ZS × (Nat → Int64)} {w' : ZS × ZS} (h : zIv P P') (h1 : zH_start P S f r w) (g1 : cok w.1) (h2 : (w'.1, w'.2, r') = fMO_start P' S') (g2 : mok w'.1) : zIv w.1 w'.1 := by
  obtain ⟨P1, S1, f1⟩ := w
  obtain ⟨P2, S2⟩ := w'
  rcases zstart h S S' with ⟨e1, S3, e2⟩ | ⟨P3, S3, P3', S3', k, e1, e2, e3⟩
  · unfold zH_start at h1
    rw [e1] at h1
    rw [e2] at h2
    obtain ⟨-, hw⟩ := h1
    cases hw
    cases h2
    exact h
  · unfold zH_start at h1
    rw [e1] at h1
    rw [e2] at h2
    obtain ⟨-, hw⟩ := h1
    cases hw
    cases h2
    exact e3 g1 g2
theorem zs_fail {n : Nat} {P P' S S' : ZS} {f : Nat → Int64} {x0 r r' : Int32} {w : ZS × ZS × (Nat → Int64)} {x9 : ZS} (h : zIv P P') (hT : zXr n P S P' S') (hn : n ≤ 600) (h1 : zH_fail P S f x0 r w) (h2 : (x9, r') = fMO_fail P' S' x0) : (x9.I 3 = r ∧ (r = 0 → w.2.2 (0 : Int32).toNatClampNeg = (if r' = 0 then (0 : Int64) else 1))) ∧ zXr (n + 1) P w.2.1 P' x9 := by
  obtain ⟨P1, S1, f1⟩ := w
  rcases zd_fail h hT hn x0 with ⟨k, v, e1, ek, e2⟩ | ⟨T, T', v, e1, e2, e3, e4⟩
  · unfold zH_fail at h1
    rw [e1] at h1
    rw [e2] at h2
    obtain ⟨hr, hw⟩ := h1
    cases hw
    cases h2
    refine ⟨⟨?_, fun r0 => ?_⟩, hT.s3 _⟩
    · rw [hr]; rfl
    · rw [hr] at r0
      split at r0 <;> exact absurd r0 (by decide)
  · unfold zH_fail at h1
    rw [e1] at h1
    rw [e2] at h2
    obtain ⟨hr, hw⟩ := h1
    cases hw
    cases h2
    exact ⟨⟨by rw [hr]; exact e3, fun _ => rfl⟩, e4⟩
theorem zs_heal {n : Nat} {P P' S S' : ZS} {f : Nat → Int64} {x0 r r' : Int32} {w : ZS × ZS × (Nat → Int64)} {x9 : ZS} (h : zIv P P') (hT : zXr n P S P' S') (hn : n ≤ 600) (h1 : zH_heal P S f x0 r w) (h2 : (x9, r') = fMO_heal P' S' x0) : (x9.I 3 = r ∧ (r = 0 → w.2.2 (0 : Int32).toNatClampNeg = (if r' = 0 then (0 : Int64) else 1))) ∧ zXr (n + 1) P w.2.1 P' x9 := by
  obtain ⟨P1, S1, f1⟩ := w
  rcases zd_heal h hT hn x0 with ⟨k, v, e1, ek, e2⟩ | ⟨T, T', v, e1, e2, e3, e4⟩
  · unfold zH_heal at h1
    rw [e1] at h1
    rw [e2] at h2
    obtain ⟨hr, hw⟩ := h1
    cases hw
    cases h2
    refine ⟨⟨?_, fun r0 => ?_⟩, hT.s3 _⟩
    · rw [hr]; rfl
    · rw [hr] at r0
      split at r0 <;> exact absurd r0 (by decide)
  · unfold zH_heal at h1
    rw [e1] at h1
    rw [e2] at h2
    obtain ⟨hr, hw⟩ := h1
    cases hw
    cases h2
    exact ⟨⟨by rw [hr]; exact e3, fun _ => rfl⟩, e4⟩
theorem zs_lose {n : Nat} {P P' S S' : ZS} {f : Nat → Int64} {x0 x1 r r' : Int32} {w : ZS × ZS × (Nat → Int64)} {x9 : ZS} (h : zIv P P') (hT : zXr n P S P' S') (hn : n ≤ 600) (h1 : zH_lose P S f x0 x1 r w) (h2 : (x9, r') = fMO_lose P' S' x0 x1) : (x9.I 3 = r ∧ (r = 0 → w.2.2 (0 : Int32).toNatClampNeg = r'.toInt64)) ∧ zXr (n + 1) P w.2.1 P' x9 := by
  obtain ⟨P1, S1, f1⟩ := w
  rcases zd_lose h hT x0 x1 with ⟨k, v, e1, ek, e2⟩ | ⟨T, T', v, e1, e2, e3, e4⟩
  · unfold zH_lose at h1
    rw [e1] at h1
    rw [e2] at h2
    obtain ⟨hr, hw⟩ := h1
    cases hw
    cases h2
    refine ⟨⟨?_, fun r0 => ?_⟩, hT.s3 _⟩
    · rw [hr]; rfl
    · rw [hr] at r0
      split at r0 <;> exact absurd r0 (by decide)
  · unfold zH_lose at h1
    rw [e1] at h1
    rw [e2] at h2
    obtain ⟨hr, hw⟩ := h1
    cases hw
    cases h2
    exact ⟨⟨by rw [hr]; exact e3, fun _ => rfl⟩, e4⟩
theorem zs_order {n : Nat} {P P' S S' : ZS} {f : Nat → Int64} {x0 x1 x2 r r' : Int32} {w : ZS × ZS × (Nat → Int64)} {x9 : ZS} (h : zIv P P') (hT : zXr n P S P' S') (hn : n ≤ 600) (h1 : zH_order P S f x0 x1 x2 r w) (h2 : (x9, r') = fMO_order P' S' x0 x1 x2) : (x9.I 3 = r ∧ (r = 0 → w.2.2 (0 : Int32).toNatClampNeg = (if r' = 0 then (0 : Int64) else 1))) ∧ zXr (n + 1) P w.2.1 P' x9 := by
  obtain ⟨P1, S1, f1⟩ := w
  rcases zd_order h hT hn x0 x1 x2 with ⟨k, v, e1, ek, e2⟩ | ⟨T, T', v, e1, e2, e3, e4⟩
  · unfold zH_order at h1
    rw [e1] at h1
    rw [e2] at h2
    obtain ⟨hr, hw⟩ := h1
    cases hw
    cases h2
    refine ⟨⟨?_, fun r0 => ?_⟩, hT.s3 _⟩
    · rw [hr]; rfl
    · rw [hr] at r0
      split at r0 <;> exact absurd r0 (by decide)
  · unfold zH_order at h1
    rw [e1] at h1
    rw [e2] at h2
    obtain ⟨hr, hw⟩ := h1
    cases hw
    cases h2
    exact ⟨⟨by rw [hr]; exact e3, fun _ => rfl⟩, e4⟩
theorem zs_clear {n : Nat} {P P' S S' : ZS} {f : Nat → Int64} {x0 x1 r r' : Int32} {w : ZS × ZS × (Nat → Int64)} {x9 : ZS} (h : zIv P P') (hT : zXr n P S P' S') (hn : n ≤ 600) (h1 : zH_clear P S f x0 x1 r w) (h2 : (x9, r') = fMO_clear P' S' x0 x1) : (x9.I 3 = r ∧ (r = 0 → w.2.2 (0 : Int32).toNatClampNeg = (if r' = 0 then (0 : Int64) else 1))) ∧ zXr (n + 1) P w.2.1 P' x9 := by
  obtain ⟨P1, S1, f1⟩ := w
  rcases zd_clear h hT hn x0 x1 with ⟨k, v, e1, ek, e2⟩ | ⟨T, T', v, e1, e2, e3, e4⟩
  · unfold zH_clear at h1
    rw [e1] at h1
    rw [e2] at h2
    obtain ⟨hr, hw⟩ := h1
    cases hw
    cases h2
    refine ⟨⟨?_, fun r0 => ?_⟩, hT.s3 _⟩
    · rw [hr]; rfl
    · rw [hr] at r0
      split at r0 <;> exact absurd r0 (by decide)
  · unfold zH_clear at h1
    rw [e1] at h1
    rw [e2] at h2
    obtain ⟨hr, hw⟩ := h1
    cases hw
    cases h2
    exact ⟨⟨by rw [hr]; exact e3, fun _ => rfl⟩, e4⟩
theorem zs_ticks {n : Nat} {P P' S S' : ZS} {f : Nat → Int64} {x0 r r' : Int32} {w : ZS × ZS × (Nat → Int64)} {x9 : ZS} (h : zIv P P') (hT : zXr n P S P' S') (hn : n ≤ 600) (h1 : zH_ticks P S f x0 r w) (h2 : (x9, r') = fMO_ticks P' S' x0) : (x9.I 3 = r ∧ (r = 0 → w.2.2 (0 : Int32).toNatClampNeg = r'.toInt64)) ∧ zXr (n + 1) P w.2.1 P' x9 := by
  obtain ⟨P1, S1, f1⟩ := w
  rcases zd_ticks h hT hn x0 with ⟨k, v, e1, ek, e2⟩ | ⟨T, T', v, e1, e2, e3, e4⟩
  · unfold zH_ticks at h1
    rw [e1] at h1
    rw [e2] at h2
    obtain ⟨hr, hw⟩ := h1
    cases hw
    cases h2
    refine ⟨⟨?_, fun r0 => ?_⟩, hT.s3 _⟩
    · rw [hr]; rfl
    · rw [hr] at r0
      split at r0 <;> exact absurd r0 (by decide)
  · unfold zH_ticks at h1
    rw [e1] at h1
    rw [e2] at h2
    obtain ⟨hr, hw⟩ := h1
    cases hw
    cases h2
    exact ⟨⟨by rw [hr]; exact e3, fun _ => rfl⟩, e4⟩
theorem zs_joined {n : Nat} {P P' S S' : ZS} {f : Nat → Int64} {x0 x1 r r' : Int32} {w : ZS × ZS × (Nat → Int64)} {x9 : ZS} (h : zIv P P') (hT : zXr n P S P' S') (hn : n ≤ 600) (h1 : zH_joined P S f x0 x1 r w) (h2 : (x9, r') = fMO_joined P' S' x0 x1) : (x9.I 3 = r ∧ (r = 0 → w.2.2 (0 : Int32).toNatClampNeg = (if r' = 0 then (0 : Int64) else 1))) ∧ zXr (n + 1) P w.2.1 P' x9 := by
  obtain ⟨P1, S1, f1⟩ := w
  rcases zd_joined h hT x0 x1 with ⟨k, v, e1, ek, e2⟩ | ⟨T, T', v, e1, e2, e3, e4⟩
  · unfold zH_joined at h1
    rw [e1] at h1
    rw [e2] at h2
    obtain ⟨hr, hw⟩ := h1
    cases hw
    cases h2
    refine ⟨⟨?_, fun r0 => ?_⟩, hT.s3 _⟩
    · rw [hr]
      show (if k = 1 then (1 : Int32) else 2) = 1
      have k1 : k = 1 := fRG_joined_cs e1
      rw [k1]
      rfl
    · rw [hr] at r0
      exact absurd r0 (by decide)
  · unfold zH_joined at h1
    rw [e1] at h1
    rw [e2] at h2
    obtain ⟨hr, hw⟩ := h1
    cases hw
    cases h2
    exact ⟨⟨by rw [hr]; exact e3, fun _ => rfl⟩, e4⟩
theorem zk_told {n : Nat} {P P' S S' : ZS} {f : Nat → Int64} {x0 x1 x2 r r' : Int32} {w : ZS × ZS × (Nat → Int64)} {x9 : ZS} (hT : zXr n P S P' S') (h1 : zH_told P S f x0 x1 x2 r w) (h2 : (x9, r') = fMO_told P' S' x0 x1 x2) : zXr (n + 1) P w.2.1 P' x9 := by
  have qM := q_fMO_told P' S' x0 x1 x2
  rw [← h2] at qM
  unfold zH_told at h1
  cases e : fRG_told P S x0 x1 x2 with
  | error q => rw [e] at h1; rw [h1.2]; exact hT.s1 qM
  | ok z => rw [e] at h1; rw [h1.2]; exact hT.s1 qM
theorem zk_learned {n : Nat} {P P' S S' : ZS} {f : Nat → Int64} {x0 x1 x2 r r' : Int32} {w : ZS × ZS × (Nat → Int64)} {x9 : ZS} (hT : zXr n P S P' S') (h1 : zH_learned P S f x0 x1 x2 r w) (h2 : (x9, r') = fMO_learned P' S' x0 x1 x2) : zXr (n + 1) P w.2.1 P' x9 := by
  have qM := q_fMO_learned P' S' x0 x1 x2
  rw [← h2] at qM
  unfold zH_learned at h1
  cases e : fRG_learned P S x0 x1 x2 with
  | error q => rw [e] at h1; rw [h1.2]; exact hT.s1 qM
  | ok z => rw [e] at h1; rw [h1.2]; exact hT.s1 qM
theorem zk_visits {n : Nat} {P P' S S' : ZS} {r' : Int32} {x9 : ZS} (hT : zXr n P S P' S') (h2 : (x9, r') = fMO_visits P' S') : zXr (n + 1) P S P' x9 := by
  have qM := q_fMO_visits P' S'
  rw [← h2] at qM
  exact hT.s1 qM
theorem zk_casts {n : Nat} {P P' S S' : ZS} {r' : Int32} {x9 : ZS} (hT : zXr n P S P' S') (h2 : (x9, r') = fMO_casts P' S') : zXr (n + 1) P S P' x9 := by
  have qM := q_fMO_casts P' S'
  rw [← h2] at qM
  exact hT.s1 qM
theorem zk_lost {n : Nat} {P P' S S' : ZS} {r' : Int32} {x9 : ZS} (hT : zXr n P S P' S') (h2 : (x9, r') = fMO_lost P' S') : zXr (n + 1) P S P' x9 := by
  have qM := q_fMO_lost P' S'
  rw [← h2] at qM
  exact hT.s1 qM
theorem zk_circles {n : Nat} {P P' S S' : ZS} {r' : Int32} {x9 : ZS} (hT : zXr n P S P' S') (h2 : (x9, r') = fMO_circles P' S') : zXr (n + 1) P S P' x9 := by
  have qM := q_fMO_circles P' S'
  rw [← h2] at qM
  exact hT.s1 qM
theorem zk_apart {n : Nat} {P P' S S' : ZS} {r' : Int32} {x9 : ZS} (hT : zXr n P S P' S') (h2 : (x9, r') = fMO_apart P' S') : zXr (n + 1) P S P' x9 := by
  have qM := q_fMO_apart P' S'
  rw [← h2] at qM
  exact hT.s1 qM
theorem zX0 : zXr 0 zP0 zS0 zPm zSm := by
  refine ⟨0, 0, 0, ⟨by decide, by decide, by decide, by decide, fun j => (by decide : zr 0 5 0), fun l hl => absurd hl (Nat.not_lt_zero _)⟩, fun l hl => absurd hl (Nat.not_lt_zero _), Nat.zero_le _, Or.inl ⟨rfl, fun j => rfl, ⟨fun x hx => ?_, rfl, rfl, rfl, rfl⟩, ⟨fun x hx => ?_, rfl, rfl, rfl⟩, rfl⟩⟩
  · funext j
    exact if_neg ((show ∀ y ∈ zr0C, ¬ (y = 23 ∨ 28 ≤ y) by decide) x hx)
  · funext j
    exact if_neg ((show ∀ y ∈ zr0M, ¬ (y = 20 ∨ y = 22) by decide) x hx)
