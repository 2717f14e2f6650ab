theorem k1_0 : tables_1_1[0]? = some (Jvm.Cond.initialized "RingGuardLaw") := by decide +kernel
theorem k2_59 : tables_1_2[59]? = some (Jvm.Cond.methodLink "RingGuardLaw" (73 : Nat) ({ cls := "RingGuardLaw", name := "bridge", desc := "(LRingGuard;[J)I" } : Jvm.MethodName)) := by decide +kernel
theorem k2_60 : tables_1_2[60]? = some (Jvm.Cond.static ({ cls := "RingGuardLaw", name := "bridge", desc := "(LRingGuard;[J)I" } : Jvm.MethodName)) := by decide +kernel
theorem k2_61 : tables_1_2[61]? = some (Jvm.Cond.codeWith ({ cls := "RingGuardLaw", name := "bridge", desc := "(LRingGuard;[J)I" } : Jvm.MethodName) method_3_code (3 : Nat) (Option.some Jvm.ClassFile.FieldType.int) [((0 : Nat), (8 : Nat), (11 : Nat), (13 : Nat))]) := rfl
theorem k5_38 : tables_1_5[38]? = some (Jvm.Cond.methodLink "RingGuardLaw" (78 : Nat) ({ cls := "RingGuardModel", name := "bridge", desc := "()I" } : Jvm.MethodName)) := by decide +kernel
theorem k5_39 : tables_1_5[39]? = some (Jvm.Cond.instanceMethod ({ cls := "RingGuardModel", name := "bridge", desc := "()I" } : Jvm.MethodName)) := by decide +kernel
theorem k5_40 : tables_1_5[40]? = some (Jvm.Cond.selects "RingGuardModel" ({ cls := "RingGuardModel", name := "bridge", desc := "()I" } : Jvm.MethodName) ({ cls := "RingGuardModel", name := "bridge", desc := "()I" } : Jvm.MethodName)) := by decide +kernel
theorem k5_41 : tables_1_5[41]? = some (Jvm.Cond.code ({ cls := "RingGuardModel", name := "bridge", desc := "()I" } : Jvm.MethodName) prog_10_method_9_code (1 : Nat) (Option.some Jvm.ClassFile.FieldType.int)) := rfl
abbrev yLA_law : MethodName := ⟨"RingGuardLaw", "law", "([I)Z"⟩
abbrev bLA_law : ByteArray := code
theorem dLA_law_136 : decode bLA_law 136 = .ok (.aload_n 1, 1) := by decide +kernel
theorem dLA_law_137 : decode bLA_law 137 = .ok (.aload_n 3, 1) := by decide +kernel
theorem dLA_law_138 : decode bLA_law 138 = .ok (.invokestatic 73, 3) := by decide +kernel
theorem dLA_law_141 : decode bLA_law 141 = .ok (.istore 5, 2) := by decide +kernel
theorem dLA_law_143 : decode bLA_law 143 = .ok (.aload_n 2, 1) := by decide +kernel
theorem dLA_law_144 : decode bLA_law 144 = .ok (.invokevirtual 78, 3) := by decide +kernel
theorem dLA_law_147 : decode bLA_law 147 = .ok (.istore 6, 2) := by decide +kernel
theorem dLA_law_149 : decode bLA_law 149 = .ok (.goto 721, 3) := by decide +kernel
def lw_P (b : Addr) (xs : List Int32) (args : Array Value) (s : State) : Prop := args = #[.ref b] ∧ s.IntsAt b xs ∧ xs.length ≤ 2048 ∧ (Jvm.Cond.and given_1 narrow_1).before args s = true
def lw_Q (_ : Array Value) (s : State) (o : Outcome) (t : State) : Prop := o = .returned (some (.int 1)) ∧ Framed s o t [] 601024 7293034
def lw_Z (below : List Frame) (a : Array Value) (s : State) : State → Prop := fun t => ∃ o, t.status = .running ∧ Ended t below o ∧ lw_Q a s o t
/-- the law's own end, with 1 on the stack, nothing written that was there before, its room as the claim has it -/
theorem lw_ret {p : Program} {l : Launch} {e : Env} {s : State} {m : MethodId} {below : List Frame} {meth : Method} {c : Code} {b : Nat} (hx : p.tables.exec = Jvm.exec) (hb : c.code = code) (hr : meth.sig.returnType = ret) (hlocks : meth.locks = false) {pc : Nat} {H : Heap} {ls : Array Slot} (hdg : decode code pc = .ok (.ireturn, 1)) : W p l e room_1 s m #[Value.ref b] below meth c H [] 601024 7293034 (lw_Z below #[Value.ref b] s) (F0 m pc ls [.int 1]) := by
  intro T hT X
  obtain ⟨fs, hret, hrun, hended, hW, hframe⟩ := X.leave (v := some (.int 1)) (hlocks := hlocks) (fun h => by rw [hr] at h; cases h)
  have hmeth' : T.vm.method? m = some meth := X.method'
  refine ⟨T.setFrames fs, ?_, .returned (some (.int 1)), hrun, hended, rfl, ⟨_, rfl⟩, hW, hframe⟩
  jvm_step X.here [X.here.top, hx, hb, hdg, hmeth', hr, ret, narrow_b1]
  (try refine ⟨rfl, ?_⟩); (try refine ⟨rfl, ?_⟩)
  first | (intro acts; rw [hret _ acts rfl rfl rfl]) | rw [hret _ _ rfl rfl rfl]
  exact Steps.refl _
def zAt (p : Program) (s : State) (m : MethodId) (meth : Method) (c : Code) (sb L : Nat) (xs : Nat → Int32) : Prop :=
  p.tables.exec = Jvm.exec ∧ c.code = code ∧ meth.sig.returnType = ret ∧ c.maxLocals = 7 ∧ s.vm.findClass "RingGuardLaw" = some m.cls ∧ tq_B zT #[Value.ref sb] s s ∧ va_X sb L xs s s.heap ∧ sb < s.heap.size ∧ meth.locks = false
def zRel (P S P' S' : ZS) : Prop := zIv P P' ∧ cok S ∧ mok S'
def zGo (p : Program) (l : Launch) (e : Env) (s : State) (m : MethodId) (below : List Frame) (meth : Method) (c : Code) (dC : Nat → ClassId) (dI : Nat → Nat → Nat) (cI cZ cJ cA : ClassId) (sb qo : Nat) (o mo mb : Nat → Nat) (i : Int32) (pc cells slots : Nat) : Prop :=
  ∀ (H : Heap) (locs : List Loc) (ls : Array Slot) (b : Nat → Nat) (P S P' S' : ZS) (f : Nat → Int64), zRel P S P' S' → va_P (dC, dI) zCl ((CW cI cZ cA o b P S ++ [(qo, .inl (cJ, 1, .inr (.inl f)))]) ++ MW cI cZ cA mo mb P' S') H → va_D (zN s.heap.size) ((CW cI cZ cA o b P S ++ [(qo, .inl (cJ, 1, .inr (.inl f)))]) ++ MW cI cZ cA mo mb P' S') → va_S (zN s.heap.size) s.heap H locs → lv_has ls 7 [(4, .int i), (3, .ref qo), (2, .ref (mo 0)), (1, .ref (o 0)), (0, .ref sb)] → W p l e room_1 s m #[Value.ref sb] below meth c H locs cells slots (lw_Z below #[Value.ref sb] s) (F0 m pc ls [])
theorem zL4 {L k : Nat} {n : Int32} (hL : L ≤ 2048) (hk : 4 * k ≤ L) (en : n = Int32.ofNat L - 4) (c : ¬ n < nI (4 * k)) : 4 * k + 4 ≤ L := by
  have h1 : (nI L).toInt = L := nI_toInt (by omega)
  have h2 : (nI (4 * k)).toInt = (4 * k : Nat) := nI_toInt (by omega)
  have h4 : (4 : Int32).toInt = 4 := by decide
  have e : n.toInt = L - 4 := by
    rw [en]
    show (nI L - 4).toInt = _
    rw [Int32.toInt_sub, h1, h4, zbm ⟨by omega, by omega⟩]
  rw [Int32.lt_iff_toInt_lt, e, h2] at c
  omega
theorem zfm {w w' : va_W} {is : List Nat} (h : is.map (fun i => w[i]?) = w'.map some) : is.filterMap (fun i => w[i]?) = w' := by
  have e := congrArg (List.filterMap id) h
  rw [List.filterMap_map, List.filterMap_map] at e
  have e1 : (id ∘ fun i : Nat => w[i]?) = fun i : Nat => w[i]? := rfl
  have e2 : (id ∘ (some : Nat × va_E → Option (Nat × va_E))) = some := rfl
  rw [e1, e2, List.filterMap_some] at e
  exact e
theorem zsubP {D : va_G} {cl : List vw_C} {w w' v : va_W} {H : Heap} (hP : va_P D cl (w ++ v) H) (is : List Nat) (h : is.map (fun i => w[i]?) = w'.map some) : va_P D cl (w' ++ v) H := va_P.app ((zPL hP).sub is (zfm h)) (zPR hP)
theorem zsubD {A : Nat → Prop} {w w' v : va_W} (hD : va_D A (w ++ v)) (is : List Nat) (h : is.map (fun i => w[i]?) = w'.map some) (hn : va_nd is = true) : va_D A (w' ++ v) := by
  refine va_D.app ((zDL hD).sub is hn h) (zDR hD) (fun i j x y hi hj hxy => ?_)
  have h1 : (is.map (fun i => w[i]?))[i]? = (w'.map some)[i]? := by rw [h]
  rw [List.getElem?_map, List.getElem?_map, hi] at h1
  cases h2 : is[i]? with
  | none => rw [h2] at h1; cases h1
  | some t =>
    rw [h2] at h1
    have h3 : w[t]? = some x := Option.some.inj h1
    have hl := (List.getElem?_eq_some_iff.mp h3).1
    have h4 : (w ++ v)[t]? = some x := by rw [List.getElem?_append_left hl]; exact h3
    have h5 : (w ++ v)[w.length + j]? = some y := by rw [List.getElem?_append_right (Nat.le_add_right _ _), Nat.add_sub_cancel_left]; exact hj
    have := hD.1 _ _ x y h4 h5 hxy
    omega
theorem zH_fail_P {P S : ZS} {f : Nat → Int64} {x0 r : Int32} {w : ZS × ZS × (Nat → Int64)} (h : zH_fail P S f x0 r w) : w.1 = P := by
  unfold zH_fail at h
  split at h
  · rw [h.2]
  · rw [h.2]
theorem zH_heal_P {P S : ZS} {f : Nat → Int64} {x0 r : Int32} {w : ZS × ZS × (Nat → Int64)} (h : zH_heal P S f x0 r w) : w.1 = P := by
  unfold zH_heal at h
  split at h
  · rw [h.2]
  · rw [h.2]
theorem zH_lose_P {P S : ZS} {f : Nat → Int64} {x0 x1 r : Int32} {w : ZS × ZS × (Nat → Int64)} (h : zH_lose P S f x0 x1 r w) : w.1 = P := by
  unfold zH_lose at h
  split at h
  · rw [h.2]
  · rw [h.2]
theorem zH_order_P {P S : ZS} {f : Nat → Int64} {x0 x1 x2 r : Int32} {w : ZS × ZS × (Nat → Int64)} (h : zH_order P S f x0 x1 x2 r w) : w.1 = P := by
  unfold zH_order at h
  split at h
  · rw [h.2]
  · rw [h.2]
theorem zH_clear_P {P S : ZS} {f : Nat → Int64} {x0 x1 r : Int32} {w : ZS × ZS × (Nat → Int64)} (h : zH_clear P S f x0 x1 r w) : w.1 = P := by
  unfold zH_clear at h
  split at h
  · rw [h.2]
  · rw [h.2]
theorem zH_ticks_P {P S : ZS} {f : Nat → Int64} {x0 r : Int32} {w : ZS × ZS × (Nat → Int64)} (h : zH_ticks P S f x0 r w) : w.1 = P := by
  unfold zH_ticks at h
  split at h
  · rw [h.2]
  · rw [h.2]
theorem zH_host_P {P S : ZS} {f : Nat → Int64} {x0 x1 r : Int32} {w : ZS × ZS × (Nat → Int64)} (h : zH_host P S f x0 x1 r w) : w.1 = P := by
  unfold zH_host at h
  split at h
  · rw [h.2]
  · rw [h.2]
theorem zH_send_P {P S : ZS} {f : Nat → Int64} {x0 x1 x2 r : Int32} {w : ZS × ZS × (Nat → Int64)} (h : zH_send P S f x0 x1 x2 r w) : w.1 = P := by
  unfold zH_send at h
  split at h
  · rw [h.2]
  · rw [h.2]
theorem zH_holds_P {P S : ZS} {f : Nat → Int64} {x0 x1 r : Int32} {w : ZS × ZS × (Nat → Int64)} (h : zH_holds P S f x0 x1 r w) : w.1 = P := by
  unfold zH_holds at h
  split at h
  · rw [h.2]
  · rw [h.2]
theorem zH_told_P {P S : ZS} {f : Nat → Int64} {x0 x1 x2 r : Int32} {w : ZS × ZS × (Nat → Int64)} (h : zH_told P S f x0 x1 x2 r w) : w.1 = P := by
  unfold zH_told at h
  split at h
  · rw [h.2]
  · rw [h.2]
theorem zH_learned_P {P S : ZS} {f : Nat → Int64} {x0 x1 x2 r : Int32} {w : ZS × ZS × (Nat → Int64)} (h : zH_learned P S f x0 x1 x2 r w) : w.1 = P := by
  unfold zH_learned at h
  split at h
  · rw [h.2]
  · rw [h.2]
theorem zH_joined_P {P S : ZS} {f : Nat → Int64} {x0 x1 r : Int32} {w : ZS × ZS × (Nat → Int64)} (h : zH_joined P S f x0 x1 r w) : w.1 = P := by
  unfold zH_joined at h
  split at h
  · rw [h.2]
  · rw [h.2]
theorem zs_bridge {P P' S S' : ZS} {f : Nat → Int64} {r r' : Int32} {w : ZS × ZS × (Nat → Int64)} {w' : ZS × ZS} (h : zIv P P') (h1 : zH_bridge P S f r w) (g1 : cok w.1) (h2 : (w'.1, w'.2, r') = fMO_bridge P' S') (g2 : mok w'.1) : zIv w.1 w'.1 ∧ w'.2.I 3 = r ∧ (r = 0 → w.2.2 (0 : Int32).toNatClampNeg = r'.toInt64) := by
  obtain ⟨P1, S1, f1⟩ := w
  obtain ⟨P2, S2⟩ := w'
  rcases zbridge h S S' with ⟨⟨k, e1⟩, e2⟩ | ⟨e1, e2, e3⟩
  · unfold zH_bridge at h1
    rw [e1] at h1
    rw [e2] at h2
    obtain ⟨rfl, hw⟩ := h1
    cases hw
    cases h2
    exact ⟨h, rfl, fun h => absurd h (by decide)⟩
  · unfold zH_bridge at h1
    rw [e1] at h1
    rw [e2] at h2
    obtain ⟨rfl, hw⟩ := h1
    cases hw
    cases h2
    exact ⟨e3 g1 g2, rfl, fun _ => rfl⟩
theorem zs_link {P P' S S' : ZS} {f : Nat → Int64} {x0 x1 x2 r r' : Int32} {w : ZS × ZS × (Nat → Int64)} {w' : ZS × ZS} (h : zIv P P') (h1 : zH_link P S f x0 x1 x2 r w) (g1 : cok w.1) (h2 : (w'.1, w'.2, r') = fMO_link P' S' x0 x1 x2) (g2 : mok w'.1) : zIv w.1 w'.1 := by
  obtain ⟨P1, S1, f1⟩ := w
  obtain ⟨P2, S2⟩ := w'
  rcases zlink h S S' x0 x1 x2 with ⟨k, S3, e1, e2⟩ | ⟨S3, e1, e2, e3⟩
  · unfold zH_link at h1
    rw [e1] at h1
    rw [e2] at h2
    obtain ⟨-, hw⟩ := h1
    cases hw
    cases h2
    exact h
  · unfold zH_link at h1
    rw [e1] at h1
    rw [e2] at h2
    obtain ⟨-, hw⟩ := h1
    cases hw
    cases h2
    exact e3 g1 g2
theorem zs_owner {P P' S S' : ZS} {f : Nat → Int64} {x0 x1 x2 r : Int32} {w : ZS × ZS × (Nat → Int64)} {w' : ZS × ZS} (h : zIv P P') (h1 : zH_owner P S f x0 x1 x2 r w) (g1 : cok w.1) (h2 : w' = fMO_owner P' S' x0 x1 x2) (g2 : mok w'.1) : zIv w.1 w'.1 := by
  obtain ⟨P1, S1, f1⟩ := w
  obtain ⟨P2, S2⟩ := w'
  rcases zowner h S S' x0 x1 x2 with ⟨k, S3, e1, e2⟩ | ⟨S3, e1, e2, e3⟩
  · unfold zH_owner at h1
    rw [e1] at h1
    rw [e2] at h2
    obtain ⟨-, hw⟩ := h1
    cases hw
    cases h2
    exact h
  · unfold zH_owner at h1
    rw [e1] at h1
    rw [e2] at h2
    obtain ⟨-, hw⟩ := h1
    cases hw
    cases h2
    exact e3 g1 g2
/-- start: what the reference says was thrown -/
theorem zst_t (P S : ZS) : (fMO_start P S).2.1.I 3 = if P.I 0 = 0 then 0 else 1 := by
  unfold fMO_start
  simp only [zl]
  by_cases d : P.I 0 = 0
  · rw [if_pos d, if_pos d]
    unfold fMO_start_13
    simp only [zl, zl3]
    rw [if_pos (by decide : (0 : Int32) ≤ 0)]
    have h1 : (fMO_faultOf P (S.setI 3 0)).2.1.I 3 = 0 := ((q_fMO_faultOf P (S.setI 3 0)).1 3 (by decide)).trans rfl
    split
    · exact ((z_fMO_start_43 49 _ _ _).1 3 (by decide)).trans h1
    · exact h1
  · rw [if_neg d, if_neg d]
    unfold fMO_start_13
    simp only [zl, zl3]
    rw [if_neg (by decide : ¬ (1 : Int32) ≤ 0)]
    rfl
theorem zs_start {P P' S S' : ZS} {f : Nat → Int64} {r r' : Int32} {w : ZS × ZS × (Nat → Int64)} {w' : ZS × ZS} (h : zIv P P') (h1 : zH_start P S f r w) (g1 : cok w.1) (h2 : (w'.1, w'.2, r') = fMO_start P' S') (g2 : mok w'.1) : zIv w.1 w'.1 ∧ w'.2.I 3 = r ∧ (r = 0 → w.2.2 (0 : Int32).toNatClampNeg = r'.toInt64) := by
  obtain ⟨P1, S1, f1⟩ := w
  obtain ⟨P2, S2⟩ := w'
  have ht := zst_t P' S'
  rw [← h2, h.2.2.2.1] at ht
  replace ht : S2.I 3 = if P.I 2 = 0 then 0 else 1 := ht
  rcases zstart h S S' with ⟨e1, S3, e2⟩ | ⟨P3, S3, P3', S3', k, e1, e2, e3⟩
  · have d : ¬ P.I 2 = 0 := fun d => by
      have en : fRG_requireNotStarted P S = .ok () := by
        simp only [fRG_requireNotStarted, zl]
        rw [if_pos d]
      unfold fRG_start at e1
      rw [en] at e1
      cases e1
    unfold zH_start at h1
    rw [e1] at h1
    rw [e2] at h2
    obtain ⟨hr, hw⟩ := h1
    cases hw
    rw [if_neg d] at ht
    cases h2
    exact ⟨h, by rw [hr]; exact ht, fun r0 => by rw [hr] at r0; exact absurd r0 (by decide)⟩
  · have d : P.I 2 = 0 := fRG_start_st e1
    unfold zH_start at h1
    rw [e1] at h1
    rw [e2] at h2
    obtain ⟨hr, hw⟩ := h1
    cases hw
    rw [if_pos d] at ht
    cases h2
    exact ⟨e3 g1 g2, by rw [hr]; exact ht, fun _ => rfl⟩
