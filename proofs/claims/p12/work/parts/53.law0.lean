theorem k1_0 : tables_1_1[0]? = some (Jvm.Cond.initialized "RingGuardLaw") := by decide +kernel
theorem k2_59 : tables_1_2[59]? = some (Jvm.Cond.methodLink "RingGuardLaw" (73 : Nat) ({ cls := "RingGuardLaw", name := "bridge", desc := "(LRingGuard;[J)I" } : Jvm.MethodName)) := by decide +kernel
theorem k2_60 : tables_1_2[60]? = some (Jvm.Cond.static ({ cls := "RingGuardLaw", name := "bridge", desc := "(LRingGuard;[J)I" } : Jvm.MethodName)) := by decide +kernel
theorem k2_61 : tables_1_2[61]? = some (Jvm.Cond.codeWith ({ cls := "RingGuardLaw", name := "bridge", desc := "(LRingGuard;[J)I" } : Jvm.MethodName) method_3_code (3 : Nat) (Option.some Jvm.ClassFile.FieldType.int) [((0 : Nat), (8 : Nat), (11 : Nat), (13 : Nat))]) := rfl
theorem k5_38 : tables_1_5[38]? = some (Jvm.Cond.methodLink "RingGuardLaw" (78 : Nat) ({ cls := "RingGuardModel", name := "bridge", desc := "()I" } : Jvm.MethodName)) := by decide +kernel
theorem k5_39 : tables_1_5[39]? = some (Jvm.Cond.instanceMethod ({ cls := "RingGuardModel", name := "bridge", desc := "()I" } : Jvm.MethodName)) := by decide +kernel
theorem k5_40 : tables_1_5[40]? = some (Jvm.Cond.selects "RingGuardModel" ({ cls := "RingGuardModel", name := "bridge", desc := "()I" } : Jvm.MethodName) ({ cls := "RingGuardModel", name := "bridge", desc := "()I" } : Jvm.MethodName)) := by decide +kernel
theorem k5_41 : tables_1_5[41]? = some (Jvm.Cond.code ({ cls := "RingGuardModel", name := "bridge", desc := "()I" } : Jvm.MethodName) prog_10_method_9_code (1 : Nat) (Option.some Jvm.ClassFile.FieldType.int)) := rfl
abbrev yLA_law : MethodName := ⟨"RingGuardLaw", "law", "([I)Z"⟩
abbrev bLA_law : ByteArray := code
theorem dLA_law_136 : decode bLA_law 136 = .ok (.aload_n 1, 1) := by decide +kernel
theorem dLA_law_137 : decode bLA_law 137 = .ok (.aload_n 3, 1) := by decide +kernel
theorem dLA_law_138 : decode bLA_law 138 = .ok (.invokestatic 73, 3) := by decide +kernel
theorem dLA_law_141 : decode bLA_law 141 = .ok (.istore 5, 2) := by decide +kernel
theorem dLA_law_143 : decode bLA_law 143 = .ok (.aload_n 2, 1) := by decide +kernel
theorem dLA_law_144 : decode bLA_law 144 = .ok (.invokevirtual 78, 3) := by decide +kernel
theorem dLA_law_147 : decode bLA_law 147 = .ok (.istore 6, 2) := by decide +kernel
theorem dLA_law_149 : decode bLA_law 149 = .ok (.goto 721, 3) := by decide +kernel
def lw_P (b : Addr) (xs : List Int32) (args : Array Value) (s : State) : Prop := args = #[.ref b] ∧ s.IntsAt b xs ∧ xs.length ≤ 2048 ∧ (Jvm.Cond.and given_1 narrow_1).before args s = true
def lw_Q (_ : Array Value) (s : State) (o : Outcome) (t : State) : Prop := o = .returned (some (.int 1)) ∧ Framed s o t [] 601024 7293034
def lw_Z (below : List Frame) (a : Array Value) (s : State) : State → Prop := fun t => ∃ o, t.status = .running ∧ Ended t below o ∧ lw_Q a s o t
/-- the law's own end, with 1 on the stack, nothing written that was there before, its room as the claim has it -/
theorem lw_ret {p : Program} {l : Launch} {e : Env} {s : State} {m : MethodId} {below : List Frame} {meth : Method} {c : Code} {b : Nat} (hx : p.tables.exec = Jvm.exec) (hb : c.code = code) (hr : meth.sig.returnType = ret) (hlocks : meth.locks = false) {pc : Nat} {H : Heap} {ls : Array Slot} (hdg : decode code pc = .ok (.ireturn, 1)) : W p l e room_1 s m #[Value.ref b] below meth c H [] 601024 7293034 (lw_Z below #[Value.ref b] s) (F0 m pc ls [.int 1]) := by
  intro T hT X
  obtain ⟨fs, hret, hrun, hended, hW, hframe⟩ := X.leave (v := some (.int 1)) (hlocks := hlocks) (fun h => by rw [hr] at h; cases h)
  have hmeth' : T.vm.method? m = some meth := X.method'
  refine ⟨T.setFrames fs, ?_, .returned (some (.int 1)), hrun, hended, rfl, ⟨_, rfl⟩, hW, hframe⟩
  jvm_step X.here [X.here.top, hx, hb, hdg, hmeth', hr, ret, narrow_b1]
  (try refine ⟨rfl, ?_⟩); (try refine ⟨rfl, ?_⟩)
  first | (intro acts; rw [hret _ acts rfl rfl rfl]) | rw [hret _ _ rfl rfl rfl]
  exact Steps.refl _
def zAt (p : Program) (s : State) (m : MethodId) (meth : Method) (c : Code) (sb L : Nat) (xs : Nat → Int32) : Prop :=
  p.tables.exec = Jvm.exec ∧ c.code = code ∧ meth.sig.returnType = ret ∧ c.maxLocals = 7 ∧ s.vm.findClass "RingGuardLaw" = some m.cls ∧ tq_B zT #[Value.ref sb] s s ∧ va_X sb L xs s s.heap ∧ sb < s.heap.size ∧ meth.locks = false
def zRel (P S P' S' : ZS) : Prop := zIv P P' ∧ cok S ∧ mok S' ∧ S'.F 22 = S.F 23
def zGo (p : Program) (l : Launch) (e : Env) (s : State) (m : MethodId) (below : List Frame) (meth : Method) (c : Code) (dC : Nat → ClassId) (dI : Nat → Nat → Nat) (cI cZ cJ cA : ClassId) (sb qo : Nat) (o mo mb : Nat → Nat) (i : Int32) (pc cells slots : Nat) : Prop :=
  ∀ (H : Heap) (locs : List Loc) (ls : Array Slot) (b : Nat → Nat) (P S P' S' : ZS) (f : Nat → Int64), zRel P S P' S' → va_P (dC, dI) zCl ((CW cI cZ cA o b P S ++ [(qo, .inl (cJ, 1, .inr (.inl f)))]) ++ MW cI cZ cA mo mb P' S') H → va_D (zN s.heap.size) ((CW cI cZ cA o b P S ++ [(qo, .inl (cJ, 1, .inr (.inl f)))]) ++ MW cI cZ cA mo mb P' S') → va_S (zN s.heap.size) s.heap H locs → lv_has ls 7 [(4, .int i), (3, .ref qo), (2, .ref (mo 0)), (1, .ref (o 0)), (0, .ref sb)] → W p l e room_1 s m #[Value.ref sb] below meth c H locs cells slots (lw_Z below #[Value.ref sb] s) (F0 m pc ls [])
theorem zL4 {L k : Nat} {n : Int32} (hL : L ≤ 2048) (hk : 4 * k ≤ L) (en : n = Int32.ofNat L - 4) (c : ¬ n < nI (4 * k)) : 4 * k + 4 ≤ L := by
  have h1 : (nI L).toInt = L := nI_toInt (by omega)
  have h2 : (nI (4 * k)).toInt = (4 * k : Nat) := nI_toInt (by omega)
  have h4 : (4 : Int32).toInt = 4 := by decide
  have e : n.toInt = L - 4 := by
    rw [en]
    show (nI L - 4).toInt = _
    rw [Int32.toInt_sub, h1, h4, zbm ⟨by omega, by omega⟩]
  rw [Int32.lt_iff_toInt_lt, e, h2] at c
  omega
theorem zfm {w w' : va_W} {is : List Nat} (h : is.map (fun i => w[i]?) = w'.map some) : is.filterMap (fun i => w[i]?) = w' := by
  have e := congrArg (List.filterMap id) h
  rw [List.filterMap_map, List.filterMap_map] at e
  have e1 : (id ∘ fun i : Nat => w[i]?) = fun i : Nat => w[i]? := rfl
  have e2 : (id ∘ (some : Nat × va_E → Option (Nat × va_E))) = some := rfl
  rw [e1, e2, List.filterMap_some] at e
  exact e
theorem zsubP {D : va_G} {cl : List vw_C} {w w' v : va_W} {H : Heap} (hP : va_P D cl (w ++ v) H) (is : List Nat) (h : is.map (fun i => w[i]?) = w'.map some) : va_P D cl (w' ++ v) H := va_P.app ((zPL hP).sub is (zfm h)) (zPR hP)
theorem zsubD {A : Nat → Prop} {w w' v : va_W} (hD : va_D A (w ++ v)) (is : List Nat) (h : is.map (fun i => w[i]?) = w'.map some) (hn : va_nd is = true) : va_D A (w' ++ v) := by
  refine va_D.app ((zDL hD).sub is hn h) (zDR hD) (fun i j x y hi hj hxy => ?_)
  have h1 : (is.map (fun i => w[i]?))[i]? = (w'.map some)[i]? := by rw [h]
  rw [List.getElem?_map, List.getElem?_map, hi] at h1
  cases h2 : is[i]? with
  | none => rw [h2] at h1; cases h1
  | some t =>
    rw [h2] at h1
    have h3 : w[t]? = some x := Option.some.inj h1
    have hl := (List.getElem?_eq_some_iff.mp h3).1
    have h4 : (w ++ v)[t]? = some x := by rw [List.getElem?_append_left hl]; exact h3
    have h5 : (w ++ v)[w.length + j]? = some y := by rw [List.getElem?_append_right (Nat.le_add_right _ _), Nat.add_sub_cancel_left]; exact hj
    have := hD.1 _ _ x y h4 h5 hxy
    omega
theorem zH_fail_P {P S : ZS} {f : Nat → Int64} {x0 r : Int32} {w : ZS × ZS × (Nat → Int64)} (h : zH_fail P S f x0 r w) : w.1 = P := by
  unfold zH_fail at h
  split at h
  · rw [h.2]
  · rw [h.2]
theorem zH_heal_P {P S : ZS} {f : Nat → Int64} {x0 r : Int32} {w : ZS × ZS × (Nat → Int64)} (h : zH_heal P S f x0 r w) : w.1 = P := by
  unfold zH_heal at h
  split at h
  · rw [h.2]
  · rw [h.2]
theorem zH_lose_P {P S : ZS} {f : Nat → Int64} {x0 x1 r : Int32} {w : ZS × ZS × (Nat → Int64)} (h : zH_lose P S f x0 x1 r w) : w.1 = P := by
  unfold zH_lose at h
  split at h
  · rw [h.2]
  · rw [h.2]
theorem zH_order_P {P S : ZS} {f : Nat → Int64} {x0 x1 x2 r : Int32} {w : ZS × ZS × (Nat → Int64)} (h : zH_order P S f x0 x1 x2 r w) : w.1 = P := by
  unfold zH_order at h
  split at h
  · rw [h.2]
  · rw [h.2]
theorem zH_clear_P {P S : ZS} {f : Nat → Int64} {x0 x1 r : Int32} {w : ZS × ZS × (Nat → Int64)} (h : zH_clear P S f x0 x1 r w) : w.1 = P := by
  unfold zH_clear at h
  split at h
  · rw [h.2]
  · rw [h.2]
theorem zH_ticks_P {P S : ZS} {f : Nat → Int64} {x0 r : Int32} {w : ZS × ZS × (Nat → Int64)} (h : zH_ticks P S f x0 r w) : w.1 = P := by
  unfold zH_ticks at h
  split at h
  · rw [h.2]
  · rw [h.2]
theorem zH_host_P {P S : ZS} {f : Nat → Int64} {x0 x1 r : Int32} {w : ZS × ZS × (Nat → Int64)} (h : zH_host P S f x0 x1 r w) : w.1 = P := by
  unfold zH_host at h
  split at h
  · rw [h.2]
  · rw [h.2]
theorem zH_send_P {P S : ZS} {f : Nat → Int64} {x0 x1 x2 r : Int32} {w : ZS × ZS × (Nat → Int64)} (h : zH_send P S f x0 x1 x2 r w) : w.1 = P := by
  unfold zH_send at h
  split at h
  · rw [h.2]
  · rw [h.2]
theorem zH_holds_P {P S : ZS} {f : Nat → Int64} {x0 x1 r : Int32} {w : ZS × ZS × (Nat → Int64)} (h : zH_holds P S f x0 x1 r w) : w.1 = P := by
  unfold zH_holds at h
  split at h
  · rw [h.2]
  · rw [h.2]
theorem zH_told_P {P S : ZS} {f : Nat → Int64} {x0 x1 x2 r : Int32} {w : ZS × ZS × (Nat → Int64)} (h : zH_told P S f x0 x1 x2 r w) : w.1 = P := by
  unfold zH_told at h
  split at h
  · rw [h.2]
  · rw [h.2]
theorem zH_learned_P {P S : ZS} {f : Nat → Int64} {x0 x1 x2 r : Int32} {w : ZS × ZS × (Nat → Int64)} (h : zH_learned P S f x0 x1 x2 r w) : w.1 = P := by
  unfold zH_learned at h
  split at h
  · rw [h.2]
  · rw [h.2]
theorem zH_joined_P {P S : ZS} {f : Nat → Int64} {x0 x1 r : Int32} {w : ZS × ZS × (Nat → Int64)} (h : zH_joined P S f x0 x1 r w) : w.1 = P := by
  unfold zH_joined at h
  split at h
  · rw [h.2]
  · rw [h.2]
theorem zs_bridge {P P' S S' : ZS} {f : Nat → Int64} {r r' : Int32} {w : ZS × ZS × (Nat → Int64)} {w' : ZS × ZS} (h : zIv P P') (h1 : zH_bridge P S f r w) (g1 : cok w.1) (h2 : (w'.1, w'.2, r') = fMO_bridge P' S') (g2 : mok w'.1) : zIv w.1 w'.1 ∧ w'.2.I 3 = r ∧ (r = 0 → w.2.2 (0 : Int32).toNatClampNeg = r'.toInt64) := by
  obtain ⟨P1, S1, f1⟩ := w
  obtain ⟨P2, S2⟩ := w'
  rcases zbridge h S S' with ⟨⟨k, e1⟩, e2⟩ | ⟨e1, e2, e3⟩
  · unfold zH_bridge at h1
    rw [e1] at h1
    rw [e2] at h2
    obtain ⟨rfl, hw⟩ := h1
    cases hw
    cases h2
    exact ⟨h, rfl, fun h => absurd h (by decide)⟩
  · unfold zH_bridge at h1
    rw [e1] at h1
    rw [e2] at h2
    obtain ⟨rfl, hw⟩ := h1
    cases hw
    cases h2
    exact ⟨e3 g1 g2, rfl, fun _ => rfl⟩
theorem zs_link {P P' S S' : ZS} {f : Nat → Int64} {x0 x1 x2 r r' : Int32} {w : ZS × ZS × (Nat → Int64)} {w' : ZS × ZS} (h : zIv P P') (h1 : zH_link P S f x0 x1 x2 r w) (g1 : cok w.1) (h2 : (w'.1, w'.2, r') = fMO_link P' S' x0 x1 x2) (g2 : mok w'.1) : zIv w.1 w'.1 := by
  obtain ⟨P1, S1, f1⟩ := w
  obtain ⟨P2, S2⟩ := w'
  rcases zlink h S S' x0 x1 x2 with ⟨k, S3, e1, e2⟩ | ⟨S3, e1, e2, e3⟩
  · unfold zH_link at h1
    rw [e1] at h1
    rw [e2] at h2
    obtain ⟨-, hw⟩ := h1
    cases hw
    cases h2
    exact h
  · unfold zH_link at h1
    rw [e1] at h1
    rw [e2] at h2
    obtain ⟨-, hw⟩ := h1
    cases hw
    cases h2
    exact e3 g1 g2
theorem zs_owner {P P' S S' : ZS} {f : Nat → Int64} {x0 x1 x2 r : Int32} {w : ZS × ZS × (Nat → Int64)} {w' : ZS × ZS} (h : zIv P P') (h1 : zH_owner P S f x0 x1 x2 r w) (g1 : cok w.1) (h2 : w' = fMO_owner P' S' x0 x1 x2) (g2 : mok w'.1) : zIv w.1 w'.1 := by
  obtain ⟨P1, S1, f1⟩ := w
  obtain ⟨P2, S2⟩ := w'
  rcases zowner h S S' x0 x1 x2 with ⟨k, S3, e1, e2⟩ | ⟨S3, e1, e2, e3⟩
  · unfold zH_owner at h1
    rw [e1] at h1
    rw [e2] at h2
    obtain ⟨-, hw⟩ := h1
    cases hw
    cases h2
    exact h
  · unfold zH_owner at h1
    rw [e1] at h1
    rw [e2] at h2
    obtain ⟨-, hw⟩ := h1
    cases hw
    cases h2
    exact e3 g1 g2
theorem zs_start {P P' S S' : ZS} {f : Nat → Int64} {r r' : Int32} {w : ZS × ZS × (Nat → Int64)} {w' : ZS × ZS} (h : zIv P P') (h1 : zH_start P S f r w) (g1 : cok w.1) (h2 : (w'.1, w'.2, r') = fMO_start P' S') (g2 : mok w'.1) : zIv w.1 w'.1 := by
  obtain ⟨P1, S1, f1⟩ := w
  obtain ⟨P2, S2⟩ := w'
  rcases zstart h S S' with ⟨e1, S3, e2⟩ | ⟨P3, S3, P3', S3', k, e1, e2, e3⟩
  · unfold zH_start at h1
    rw [e1] at h1
    rw [e2] at h2
    obtain ⟨-, hw⟩ := h1
    cases hw
    cases h2
    exact h
  · unfold zH_start at h1
    rw [e1] at h1
    rw [e2] at h2
    obtain ⟨-, hw⟩ := h1
    cases hw
    cases h2
    exact e3 g1 g2
theorem zti1 {x : Int32} (h : 0 ≤ x.toInt ∧ x.toInt ≤ 1000) : (x + 1).toInt = x.toInt + 1 := zx1 (a := 0) (b := 1000) ⟨h.1, h.2⟩ (by decide)
theorem zh65 (P : ZS) (rc : ZS → Int32 → Int32 → Int32 → (ZS × Int32)) (x1 x3 x4 : Int32) (hrc : ∀ S, (rc S x1 x3 (x4 + 1)).2 = x3) : ∀ (n : Nat) (S : ZS) (x5 : Int32), 0 ≤ x5.toInt → x5.toInt ≤ 4 → 4 - x5.toInt < n → (zfix (fun S9 _ _ _ _ => (S9, 0)) (fMO_host_65 P rc) n S x1 x3 x4 x5).2 = x3 := by
  have z4 : (4 : Int32).toInt = 4 := by decide
  intro n
  induction n with
  | zero => intro S x5 h0 h1 h2; omega
  | succ n ih =>
    intro S x5 h0 h1 h2
    rw [zfix_s]
    generalize zfix (fun S9 _ _ _ _ => (S9, 0)) (fMO_host_65 P rc) n = rd at ih ⊢
    unfold fMO_host_65
    by_cases c : 4 ≤ x5
    · rw [if_pos c]
      exact hrc S
    · rw [if_neg c]
      simp only [zl]
      have lt : x5.toInt < 4 := by
        have := Int.not_le.mp (fun q => c (Int32.le_iff_toInt_le.mpr q))
        omega
      have ex : (x5 + 1).toInt = x5.toInt + 1 := zti1 ⟨by omega, by omega⟩
      exact ih _ (x5 + 1) (by omega) (by omega) (by omega)
theorem zh53 (P : ZS) (hP : (P.I 1).toInt ≤ 48) (x1 x3 : Int32) : ∀ (n : Nat) (S : ZS) (x4 : Int32), 0 ≤ x4.toInt → x4.toInt ≤ 48 → 48 - x4.toInt < n → (zfix (fun S9 _ _ _ => (S9, 0)) (fMO_host_53 P) n S x1 x3 x4).2 = x3 := by
  have z0 : (0 : Int32).toInt = 0 := by decide
  intro n
  induction n with
  | zero => intro S x4 h0 h1 h2; omega
  | succ n ih =>
    intro S x4 h0 h1 h2
    rw [zfix_s]
    generalize zfix (fun S9 _ _ _ => (S9, 0)) (fMO_host_53 P) n = rc at ih ⊢
    unfold fMO_host_53
    simp only [zl]
    by_cases c : P.I 1 ≤ x4
    · rw [if_pos c]
    · rw [if_neg c]
      have lt : x4.toInt < (P.I 1).toInt := Int.not_le.mp (fun q => c (Int32.le_iff_toInt_le.mpr q))
      have ex : (x4 + 1).toInt = x4.toInt + 1 := zti1 ⟨by omega, by omega⟩
      exact zh65 P rc x1 x3 x4 (fun S => ih S (x4 + 1) (by omega) (by omega) (by omega)) 5 S 0 (by omega) (by omega) (by omega)
theorem zgo2 (P S : ZS) (t : Int32) (h : ¬ t = 0) : fMO_goes P S 1 t = (S.setI 3 0, 1) := by
  unfold fMO_goes fMO_goes_18
  rw [if_neg (by decide), if_neg h]
  simp only [zl]
  rw [if_pos (by decide)]
theorem zhm0 (P S : ZS) (x0 x1 : Int32) : fMO_host_24 P S x0 x1 0 = (S.setI 3 1, 0) := by
  simp only [fMO_host_24, zl, zl2, zgoF0]
  rw [if_pos trivial]
theorem zhm2 {P S : ZS} {x0 x1 : Int32} (h : P.I 0 = 0) : fMO_host_24 P S x0 x1 1 = (S.setI 3 2, 0) := by
  simp only [fMO_host_24, zl, zl2]
  rw [h, zgoF1]
  rw [if_pos rfl]
theorem zhm1 {P S : ZS} {x0 x1 : Int32} (h : ¬ P.I 0 = 0) : fMO_host_24 P S x0 x1 1 = zfix (fun S9 _ _ _ => (S9, 0)) (fMO_host_53 P) 49 ((S.setI 3 0).setF 22 x0.toNatClampNeg x1) x0 (S.F 22 x0.toNatClampNeg) 0 := by
  simp only [fMO_host_24, zl, zl2]
  rw [zgo2 P S _ h]
  rw [if_neg (by decide : ¬ (1 : Int32) = 0)]
  rfl
theorem zhrow (T : ZS) (k i : Nat) (v : Int32) : (T.setF k i v).F k = upd (T.F k) i v := by
  show (if k = k then upd (T.F k) i v else T.F k) = _
  rw [if_pos rfl]
/-- host: both refuse alike, or both say the same number -/
theorem zs_host {P P' S S' : ZS} {f : Nat → Int64} {x0 x1 r r' : Int32} {w : ZS × ZS × (Nat → Int64)} {x9 : ZS} (h : zIv P P') (hT : S'.F 22 = S.F 23) (h1 : zH_host P S f x0 x1 r w) (h2 : (x9, r') = fMO_host P' S' x0 x1) : (x9.I 3 = r ∧ (r = 0 → w.2.2 (0 : Int32).toNatClampNeg = r'.toInt64)) ∧ x9.F 22 = w.2.1.F 23 := by
  obtain ⟨P1, S1, f1⟩ := w
  have hs := h.2.2.2.1
  have z64 : (64 : Int32).toInt = 64 := by decide
  have z0 : (0 : Int32).toInt = 0 := by decide
  have bad : ∀ k : Nat, ∀ c : Int32, fRG_host P S x0 x1 = .error k → fMO_host P' S' x0 x1 = (S'.setI 3 c, 0) → c = (if k = 1 then 1 else 2) → (x9.I 3 = r ∧ (r = 0 → f1 (0 : Int32).toNatClampNeg = r'.toInt64)) ∧ x9.F 22 = S1.F 23 := by
    intro k c e1 e2 ec
    unfold zH_host at h1
    rw [e1] at h1
    rw [e2] at h2
    obtain ⟨hr, hw⟩ := h1
    cases hw
    cases h2
    refine ⟨⟨?_, fun r0 => ?_⟩, hT⟩
    · rw [hr]; exact ec
    · rw [hr] at r0
      split at r0
      · exact absurd r0 (by decide)
      · exact absurd r0 (by decide)
  by_cases c1 : x0 < 0
  · refine bad 1 1 ?_ ?_ rfl
    · unfold fRG_host fRG_requireHost fRG_requireHost_10
      rw [if_pos c1]
      rfl
    · unfold fMO_host fMO_host_23
      rw [if_pos c1, zhm0]
  · by_cases c2 : 64 ≤ x0
    · have c3 : ¬ x0 < 64 := fun q => by
        have := Int32.le_iff_toInt_le.mp c2
        have := Int32.lt_iff_toInt_lt.mp q
        omega
      refine bad 1 1 ?_ ?_ rfl
      · unfold fRG_host fRG_requireHost fRG_requireHost_10
        rw [if_neg c1, if_neg c3]
        rfl
      · unfold fMO_host fMO_host_23
        rw [if_neg c1, if_pos c2, zhm0]
    · have c3 : x0 < 64 := Int32.lt_iff_toInt_lt.mpr (by
        have := Int.not_le.mp (fun q => c2 (Int32.le_iff_toInt_le.mpr q))
        omega)
      have eh : fRG_requireHost P S x0 = .ok () := by
        unfold fRG_requireHost
        rw [if_neg c1, if_pos c3]
      rcases zqB h.2.2.1 S S' x1 with ⟨m1, d1⟩ | ⟨m1, d1, -, -⟩
      · refine bad 1 1 ?_ ?_ rfl
        · unfold fRG_host
          rw [eh]
          show zbind (fRG_requireBridge P S x1) _ = _
          rw [d1]
          rfl
        · unfold fMO_host fMO_host_23
          simp only [zl]
          rw [if_neg c1, if_neg c2, m1, if_pos rfl, zhm0]
      · have m0 : fMO_host P' S' x0 x1 = fMO_host_24 P' S' x0 x1 1 := by
          unfold fMO_host
          simp only [zl]
          rw [if_neg c1, if_neg c2, m1, if_neg (by decide : ¬ (1 : Int32) = 0)]
        by_cases d : P.I 2 = 0
        · have en : fRG_requireStarted P S = .error 2 := by
            simp only [fRG_requireStarted, zl]
            rw [if_pos d]
          refine bad 2 2 ?_ ?_ rfl
          · unfold fRG_host
            rw [eh]
            show zbind (fRG_requireBridge P S x1) _ = _
            rw [d1]
            show zbind (fRG_requireStarted P S) _ = _
            rw [en]
            rfl
          · rw [m0, zhm2 (by rw [hs]; exact d)]
        · have en : fRG_requireStarted P S = .ok () := by
            simp only [fRG_requireStarted, zl]
            rw [if_neg d]
          have e1 : fRG_host P S x0 x1 = .ok (fTA_forgetHost P (S.setF 23 x0.toNatClampNeg x1) x0, S.F 23 x0.toNatClampNeg) := by
            unfold fRG_host
            rw [eh]
            show zbind (fRG_requireBridge P S x1) _ = _
            rw [d1]
            show zbind (fRG_requireStarted P S) _ = _
            rw [en]
            rfl
          rw [m0, zhm1 (by rw [hs]; exact d)] at h2
          have mB : (P'.I 1).toInt ≤ 48 := (h.2.1.2.1 1).2
          have b2 := zh53 P' mB x0 (S'.F 22 x0.toNatClampNeg) 49 ((S'.setI 3 0).setF 22 x0.toNatClampNeg x1) 0 (by omega) (by omega) (by omega)
          have b0 := z_fMO_host_53 P' 49 ((S'.setI 3 0).setF 22 x0.toNatClampNeg x1) x0 (S'.F 22 x0.toNatClampNeg) 0
          rw [← h2] at b0 b2
          have b3 := b0.1 3 (by decide)
          have b4 := b0.2 22 (by decide)
          have a4 := (q_fTA_forgetHost P (S.setF 23 x0.toNatClampNeg x1) x0).2 23 (by decide)
          unfold zH_host at h1
          rw [e1] at h1
          obtain ⟨hr, hw⟩ := h1
          cases hw
          refine ⟨⟨?_, fun _ => ?_⟩, ?_⟩
          · rw [hr]; exact b3.trans rfl
          · show (S.F 23 x0.toNatClampNeg).toInt64 = _
            have b2 : r' = S'.F 22 x0.toNatClampNeg := b2
            rw [b2, hT]
          · have b4 : x9.F 22 = ((S'.setI 3 0).setF 22 x0.toNatClampNeg x1).F 22 := b4
            rw [b4, zhrow]
            show upd (S'.F 22) _ _ = _
            rw [hT]
            exact (a4.trans (zhrow S 23 x0.toNatClampNeg x1)).symm
theorem zHk_bridge {P S : ZS} {f : Nat → Int64} { r : Int32} {w : ZS × ZS × (Nat → Int64)} (h : zH_bridge P S f  r w) : w.2.1.F 23 = S.F 23 := by
  unfold zH_bridge at h
  cases e : fRG_bridge P S  with
  | error k => rw [e] at h; rw [h.2]
  | ok z => rw [e] at h; rw [h.2]; exact (q_fRG_bridge P S  z e).2 23 (by decide)
theorem zHk_link {P S : ZS} {f : Nat → Int64} {x0 x1 x2 r : Int32} {w : ZS × ZS × (Nat → Int64)} (h : zH_link P S f x0 x1 x2 r w) : w.2.1.F 23 = S.F 23 := by
  unfold zH_link at h
  cases e : fRG_link P S x0 x1 x2 with
  | error k => rw [e] at h; rw [h.2]
  | ok z => rw [e] at h; rw [h.2]; exact (q_fRG_link P S x0 x1 x2 z e).2 23 (by decide)
theorem zHk_owner {P S : ZS} {f : Nat → Int64} {x0 x1 x2 r : Int32} {w : ZS × ZS × (Nat → Int64)} (h : zH_owner P S f x0 x1 x2 r w) : w.2.1.F 23 = S.F 23 := by
  unfold zH_owner at h
  cases e : fRG_owner P S x0 x1 x2 with
  | error k => rw [e] at h; rw [h.2]
  | ok z => rw [e] at h; rw [h.2]; exact (q_fRG_owner P S x0 x1 x2 z e).2 23 (by decide)
theorem zHk_start {P S : ZS} {f : Nat → Int64} { r : Int32} {w : ZS × ZS × (Nat → Int64)} (h : zH_start P S f  r w) : w.2.1.F 23 = S.F 23 := by
  unfold zH_start at h
  cases e : fRG_start P S  with
  | error k => rw [e] at h; rw [h.2]
  | ok z => rw [e] at h; rw [h.2]; exact (q_fRG_start P S  z e).2 23 (by decide)
theorem zHk_fail {P S : ZS} {f : Nat → Int64} {x0 r : Int32} {w : ZS × ZS × (Nat → Int64)} (h : zH_fail P S f x0 r w) : w.2.1.F 23 = S.F 23 := by
  unfold zH_fail at h
  cases e : fRG_fail P S x0 with
  | error k => rw [e] at h; rw [h.2]
  | ok z => rw [e] at h; rw [h.2]; exact (q_fRG_fail P S x0 z e).2 23 (by decide)
theorem zHk_heal {P S : ZS} {f : Nat → Int64} {x0 r : Int32} {w : ZS × ZS × (Nat → Int64)} (h : zH_heal P S f x0 r w) : w.2.1.F 23 = S.F 23 := by
  unfold zH_heal at h
  cases e : fRG_heal P S x0 with
  | error k => rw [e] at h; rw [h.2]
  | ok z => rw [e] at h; rw [h.2]; exact (q_fRG_heal P S x0 z e).2 23 (by decide)
theorem zHk_lose {P S : ZS} {f : Nat → Int64} {x0 x1 r : Int32} {w : ZS × ZS × (Nat → Int64)} (h : zH_lose P S f x0 x1 r w) : w.2.1.F 23 = S.F 23 := by
  unfold zH_lose at h
  cases e : fRG_lose P S x0 x1 with
  | error k => rw [e] at h; rw [h.2]
  | ok z => rw [e] at h; rw [h.2]; exact (q_fRG_lose P S x0 x1 z e).2 23 (by decide)
theorem zHk_order {P S : ZS} {f : Nat → Int64} {x0 x1 x2 r : Int32} {w : ZS × ZS × (Nat → Int64)} (h : zH_order P S f x0 x1 x2 r w) : w.2.1.F 23 = S.F 23 := by
  unfold zH_order at h
  cases e : fRG_order P S x0 x1 x2 with
  | error k => rw [e] at h; rw [h.2]
  | ok z => rw [e] at h; rw [h.2]; exact (q_fRG_order P S x0 x1 x2 z e).2 23 (by decide)
theorem zHk_clear {P S : ZS} {f : Nat → Int64} {x0 x1 r : Int32} {w : ZS × ZS × (Nat → Int64)} (h : zH_clear P S f x0 x1 r w) : w.2.1.F 23 = S.F 23 := by
  unfold zH_clear at h
  cases e : fRG_clear P S x0 x1 with
  | error k => rw [e] at h; rw [h.2]
  | ok z => rw [e] at h; rw [h.2]; exact (q_fRG_clear P S x0 x1 z e).2 23 (by decide)
theorem zHk_ticks {P S : ZS} {f : Nat → Int64} {x0 r : Int32} {w : ZS × ZS × (Nat → Int64)} (h : zH_ticks P S f x0 r w) : w.2.1.F 23 = S.F 23 := by
  unfold zH_ticks at h
  cases e : fRG_ticks P S x0 with
  | error k => rw [e] at h; rw [h.2]
  | ok z => rw [e] at h; rw [h.2]; exact (q_fRG_ticks P S x0 z e).2 23 (by decide)
theorem zHk_send {P S : ZS} {f : Nat → Int64} {x0 x1 x2 r : Int32} {w : ZS × ZS × (Nat → Int64)} (h : zH_send P S f x0 x1 x2 r w) : w.2.1.F 23 = S.F 23 := by
  unfold zH_send at h
  cases e : fRG_send P S x0 x1 x2 with
  | error k => rw [e] at h; rw [h.2]
  | ok z => rw [e] at h; rw [h.2]; exact (q_fRG_send P S x0 x1 x2 z e).2 23 (by decide)
theorem zHk_holds {P S : ZS} {f : Nat → Int64} {x0 x1 r : Int32} {w : ZS × ZS × (Nat → Int64)} (h : zH_holds P S f x0 x1 r w) : w.2.1.F 23 = S.F 23 := by
  unfold zH_holds at h
  cases e : fRG_holds P S x0 x1 with
  | error k => rw [e] at h; rw [h.2]
  | ok z => rw [e] at h; rw [h.2]
theorem zHk_told {P S : ZS} {f : Nat → Int64} {x0 x1 x2 r : Int32} {w : ZS × ZS × (Nat → Int64)} (h : zH_told P S f x0 x1 x2 r w) : w.2.1.F 23 = S.F 23 := by
  unfold zH_told at h
  cases e : fRG_told P S x0 x1 x2 with
  | error k => rw [e] at h; rw [h.2]
  | ok z => rw [e] at h; rw [h.2]
theorem zHk_learned {P S : ZS} {f : Nat → Int64} {x0 x1 x2 r : Int32} {w : ZS × ZS × (Nat → Int64)} (h : zH_learned P S f x0 x1 x2 r w) : w.2.1.F 23 = S.F 23 := by
  unfold zH_learned at h
  cases e : fRG_learned P S x0 x1 x2 with
  | error k => rw [e] at h; rw [h.2]
  | ok z => rw [e] at h; rw [h.2]
theorem zHk_joined {P S : ZS} {f : Nat → Int64} {x0 x1 r : Int32} {w : ZS × ZS × (Nat → Int64)} (h : zH_joined P S f x0 x1 r w) : w.2.1.F 23 = S.F 23 := by
  unfold zH_joined at h
  cases e : fRG_joined P S x0 x1 with
  | error k => rw [e] at h; rw [h.2]
  | ok z => rw [e] at h; rw [h.2]; exact (q_fRG_joined P S x0 x1 z e).2 23 (by decide)
theorem zMk_ticks {P S : ZS} {x0 r : Int32} {y : ZS} (h : (y, r) = fMO_ticks P S x0) : y.F 22 = S.F 22 := by
  have q := q_fMO_ticks P S x0
  rw [← h] at q
  exact q.2 22 (by decide)
theorem zMk_send {P S : ZS} {x0 x1 x2 r : Int32} {y : ZS} (h : (y, r) = fMO_send P S x0 x1 x2) : y.F 22 = S.F 22 := by
  have q := q_fMO_send P S x0 x1 x2
  rw [← h] at q
  exact q.2 22 (by decide)
theorem zMk_bridge {P S : ZS} {r : Int32} {y : ZS × ZS} (h : (y.1, y.2, r) = fMO_bridge P S ) : y.2.F 22 = S.F 22 := by
  have q := q_fMO_bridge P S 
  rw [← h] at q
  exact q.2 22 (by decide)
theorem zMk_link {P S : ZS} {x0 x1 x2 r : Int32} {y : ZS × ZS} (h : (y.1, y.2, r) = fMO_link P S x0 x1 x2) : y.2.F 22 = S.F 22 := by
  have q := q_fMO_link P S x0 x1 x2
  rw [← h] at q
  exact q.2 22 (by decide)
theorem zMk_owner {P S : ZS} {x0 x1 x2 : Int32} {y : ZS × ZS} (h : y = fMO_owner P S x0 x1 x2) : y.2.F 22 = S.F 22 := by
  have q := q_fMO_owner P S x0 x1 x2
  rw [← h] at q
  exact q.2 22 (by decide)
theorem zMk_fail {P S : ZS} {x0 r : Int32} {y : ZS} (h : (y, r) = fMO_fail P S x0) : y.F 22 = S.F 22 := by
  have q := q_fMO_fail P S x0
  rw [← h] at q
  exact q.2 22 (by decide)
theorem zMk_heal {P S : ZS} {x0 r : Int32} {y : ZS} (h : (y, r) = fMO_heal P S x0) : y.F 22 = S.F 22 := by
  have q := q_fMO_heal P S x0
  rw [← h] at q
  exact q.2 22 (by decide)
theorem zMk_lose {P S : ZS} {x0 x1 r : Int32} {y : ZS} (h : (y, r) = fMO_lose P S x0 x1) : y.F 22 = S.F 22 := by
  have q := q_fMO_lose P S x0 x1
  rw [← h] at q
  exact q.2 22 (by decide)
theorem zMk_order {P S : ZS} {x0 x1 x2 r : Int32} {y : ZS} (h : (y, r) = fMO_order P S x0 x1 x2) : y.F 22 = S.F 22 := by
  have q := q_fMO_order P S x0 x1 x2
  rw [← h] at q
  exact q.2 22 (by decide)
theorem zMk_clear {P S : ZS} {x0 x1 r : Int32} {y : ZS} (h : (y, r) = fMO_clear P S x0 x1) : y.F 22 = S.F 22 := by
  have q := q_fMO_clear P S x0 x1
  rw [← h] at q
  exact q.2 22 (by decide)
theorem zMk_visits {P S : ZS} {r : Int32} {y : ZS} (h : (y, r) = fMO_visits P S ) : y.F 22 = S.F 22 := by
  have q := q_fMO_visits P S 
  rw [← h] at q
  exact q.2 22 (by decide)
theorem zMk_holds {P S : ZS} {x0 x1 r : Int32} {y : ZS} (h : (y, r) = fMO_holds P S x0 x1) : y.F 22 = S.F 22 := by
  have q := q_fMO_holds P S x0 x1
  rw [← h] at q
  exact q.2 22 (by decide)
theorem zMk_told {P S : ZS} {x0 x1 x2 r : Int32} {y : ZS} (h : (y, r) = fMO_told P S x0 x1 x2) : y.F 22 = S.F 22 := by
  have q := q_fMO_told P S x0 x1 x2
  rw [← h] at q
  exact q.2 22 (by decide)
theorem zMk_learned {P S : ZS} {x0 x1 x2 r : Int32} {y : ZS} (h : (y, r) = fMO_learned P S x0 x1 x2) : y.F 22 = S.F 22 := by
  have q := q_fMO_learned P S x0 x1 x2
  rw [← h] at q
  exact q.2 22 (by decide)
theorem zMk_joined {P S : ZS} {x0 x1 r : Int32} {y : ZS} (h : (y, r) = fMO_joined P S x0 x1) : y.F 22 = S.F 22 := by
  have q := q_fMO_joined P S x0 x1
  rw [← h] at q
  exact q.2 22 (by decide)
theorem zMk_casts {P S : ZS} {r : Int32} {y : ZS} (h : (y, r) = fMO_casts P S ) : y.F 22 = S.F 22 := by
  have q := q_fMO_casts P S 
  rw [← h] at q
  exact q.2 22 (by decide)
theorem zMk_lost {P S : ZS} {r : Int32} {y : ZS} (h : (y, r) = fMO_lost P S ) : y.F 22 = S.F 22 := by
  have q := q_fMO_lost P S 
  rw [← h] at q
  exact q.2 22 (by decide)
theorem zMk_circles {P S : ZS} {r : Int32} {y : ZS} (h : (y, r) = fMO_circles P S ) : y.F 22 = S.F 22 := by
  have q := q_fMO_circles P S 
  rw [← h] at q
  exact q.2 22 (by decide)
theorem zMk_apart {P S : ZS} {r : Int32} {y : ZS} (h : (y, r) = fMO_apart P S ) : y.F 22 = S.F 22 := by
  have q := q_fMO_apart P S 
  rw [← h] at q
  exact q.2 22 (by decide)
theorem zMk_start {P S : ZS} {r : Int32} {y : ZS × ZS} (h : (y.1, y.2, r) = fMO_start P S ) : y.2.F 22 = S.F 22 := by
  have q := q_fMO_start P S 
  rw [← h] at q
  exact q.2 22 (by decide)
