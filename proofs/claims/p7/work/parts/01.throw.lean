/-! CALLS THAT THROW: a contract for a method that ends by throwing, the row of 'throw new X(text)', a call whose callee throws, with and without a handler. -/
/-- the frame of a method that threw: as FrameEnd, but for the outcome -/
def tq_End (st t : State) (L : List Loc) (k n : Nat) : Prop := st.WarmedH t.vm ∧ st.sameButNew ({ t with vm := st.vm } : State) L k n
/-- y's contract where it throws -/
def tq_Met (l : Launch) (y : MethodName) (ws : List Cond) (rm : Room) (Pc : Array Value → State → Prop) (Qc : Array Value → State → Addr → State → Prop) (mc ms : Nat) (free : Addr → Prop) : Prop :=
  MetFree l y (headSpec ws rm) Pc (fun _ _ _ _ _ => True) (fun a st o t => ∃ x : Addr, o = .threw x ∧ Qc a st x t ∧ ∃ L, tq_End st t L mc ms ∧ ∀ q ∈ L, free q.base)
def tq_MQ (below : List Frame) (Qc : Array Value → State → Addr → State → Prop) (a : Array Value) (s : State) (mc ms : Nat) (free : Addr → Prop) : State → Prop := fun t =>
  ∃ x : Addr, t.status = .running ∧ Ended t below (.threw x) ∧ Qc a s x t ∧ ∃ L, tq_End s t L mc ms ∧ ∀ q ∈ L, free q.base
theorem tq_ofW {l : Launch} {y : MethodName} {ws ws' : List Cond} {rm : Room} {Pc : Array Value → State → Prop} {Qc : Array Value → State → Addr → State → Prop} {mc ms : Nat} {free : Addr → Prop} {cc : ByteArray} {maxL : Nat} {ret : Option FieldType}
    (hy : plainName y.cls = true) (hw : ws = Cond.code y cc maxL ret :: ws')
    (body : ∀ p e s m args below meth c s₁, BodyLoose p l y (headSpec ws rm) cc maxL ret e s m args below meth c s₁ → c.maxLocals = maxL → c.exceptionTable.toList = [] → Pc args s →
      W p l e (headSpec ws rm).room s m args below meth c s.heap [] 0 0 (tq_MQ below Qc args s mc ms free) (entryFrame m args maxL)) : tq_Met l y ws rm Pc Qc mc ms free := by
  refine MetFree.of_bodyS (code := cc) (maxLocals := maxL) (ret := ret) hy ?_ ?_
  · intro args s m h hn
    obtain ⟨meth, c, h1, h2, h3, h4, h5, h6, -, -⟩ := Cond.code_spec hn (atoms_spec (ws := ws) h _ (by rw [hw]; exact List.mem_cons_self))
    exact ⟨meth, c, h1, h2, h3, h4, h5, h6⟩
  · intro p e s m args below meth c s₁ B hml hP _
    have hh0 : s₁.heap = s.heap := by rw [B.state]; rfl
    have X₀ := Stand.of_body B
    obtain ⟨meth', c', hm', hc', -, -, -, -, hempty, -⟩ := Cond.code_spec B.named (atoms_spec (ws := ws) B.pre _ (by rw [hw]; exact List.mem_cons_self))
    have e1 : meth' = meth := Option.some.inj (hm'.symm.trans X₀.method)
    subst e1
    have e2 : c' = c := Option.some.inj (hc'.symm.trans X₀.code)
    subst e2
    have h0 : c'.exceptionTable.size = 0 := by simpa [Array.isEmpty] using hempty
    have htab : c'.exceptionTable.toList = [] := List.eq_nil_of_length_eq_zero (by simpa using h0)
    obtain ⟨t, a1, x, b1, b2, b3⟩ := body p e s m args below meth' c' s₁ B hml htab hP s₁ hh0 X₀
    exact ⟨t, .threw x, a1, b1, b2, x, rfl, b3.1, b3.2⟩
section TQ
variable {p : Program} {l : Launch} {e : Env} {R : Room} {s : State} {m : MethodId} {args : Array Value} {below : List Frame} {meth : Method} {c : Code} {H : Heap} {locs : List Loc} {cells slots : Nat} {Q : State → Prop}
/-- a call whose callee throws: where it comes to -/
def tq_Run (p : Program) (l : Launch) (e : Env) (R : Room) (s : State) (m : MethodId) (args : Array Value) (below : List Frame) (meth : Method) (c : Code) (H : Heap) (locs : List Loc) (cells slots mc ms : Nat) (g : JFrame) (rest : List Value) (Qa : State → Addr → State → Prop) (free : Addr → Prop) : Prop :=
  ∀ T : State, T.heap = H → Stand p l e R s m args below meth c T locs cells slots → ∃ (x : Addr) (st₀ t T' : State) (L : List Loc), st₀.heap = H ∧ Stand p l e R s m args below meth c T' (locs ++ L) (cells + mc) (slots + ms) ∧ (∀ q ∈ L, free q.base) ∧ T'.heap = t.heap ∧ T'.vm = t.vm ∧ Qa st₀ x t ∧
    ∀ target, Steps p.tables e below ((T'.setTop { g with stack := rest }).pushFrame (.throwing x)) target → Steps p.tables e below (T.setTop g) target
theorem tq_back {T : State} (X : Stand p l e R s m args below meth c T locs cells slots) {y : MethodName} {ws : List Cond} {rm : Room} {Pc : Array Value → State → Prop} {Qc : Array Value → State → Addr → State → Prop} {mc ms : Nat} {free : Addr → Prop} {bytes : ByteArray} {maxL : Nat} {ret : Option FieldType}
    (hM : tq_Met l y ws rm Pc Qc mc ms free) (hblind : FrameBlind Pc) (hrc : rm.cells = mc) (hrs : rm.slots = ms) {K : Nat}
    (hframes : rm.frames + 1 ≤ R.frames) (hlocals : K + (maxL + 11) + rm.locals ≤ R.locals)
    (hws : ∀ w ∈ ws, ∀ (a' : Array Value) (U : State), s.WarmedH U.vm → w.before a' U = true) (hcode : Cond.code y bytes maxL ret ∈ ws) (hinit : ∀ (a' : Array Value) (U : State), s.WarmedH U.vm → (Cond.initialized y.cls).before a' U = true)
    {g : JFrame} (hg : g.method = m) (hsize : g.locals.size = c.maxLocals) {ig : Instr} {len : Nat} (hdg : decode c.code g.pc = .ok (ig, len)) (hK : 2 * g.monitorRoom + (g.stack.map fun v => v.category).sum ≤ K)
    {mk : MethodId} (hn : T.methodNamed? y = some mk) {a : Array Value} (hcells : cells + mc ≤ R.cells) (hslots : slots + ms ≤ R.slots) (hPc : Pc a T) :
    ∃ (x : Addr) (t T' : State) (L : List Loc), Stand p l e R s m args below meth c T' (locs ++ L) (cells + mc) (slots + ms) ∧ (∀ q ∈ L, free q.base) ∧ T'.heap = t.heap ∧ T'.vm = t.vm ∧ Qc a (T.calling g mk a) x t ∧
      Steps p.tables e below (doInvoke e (T.setTop g) [] mk a).1 ((T'.setTop g).pushFrame (.throwing x)) := by
  have hW := X.warmed
  have h2 := hws _ hcode a T hW
  obtain ⟨methY, cY, hmY, hcY, -, hlY, -, -, -, -⟩ := Cond.code_spec hn h2
  obtain ⟨kY, hkY, -⟩ := className_of_methodNamed hn
  have hinitY : kY.init = .initialized := Cond.initialized_spec (findClass_of_methodNamed hn) hkY (hinit a T hW)
  have h : At T g.method c below := by rw [hg]; exact X.here
  have happ : (headSpec ws rm).appliesLoose y e.platform (T.calling g mk a) = true :=
    Spec.appliesLoose_calling (g := g) h hdg hn hkY hinitY
      (X.room_calling (g := g) (R' := (headSpec ws rm).room) hsize hmY hcY hframes (by rw [hlY]; show _ + (maxL + 11) + rm.locals ≤ R.locals; omega) (by show cells + rm.cells ≤ R.cells; omega) (by show slots + rm.slots ≤ R.slots; omega)) (atoms_intro fun w hw => hws w hw _ _ hW)
  obtain ⟨mid, hmid⟩ := h.above
  have hfr : (T.setTop g).frames = (.java g :: mid) ++ below := by rw [State.frames_setTop' g h.top, hmid]; rfl
  obtain ⟨o, s₂, hsteps, -, hend, hq⟩ := Steps.callFree hM p X.admits X.cas X.clock (acts := []) hfr happ (hblind _ _ _ _ hPc) trivial
  obtain ⟨x, rfl, hQ, L, ⟨hW₂, hsame⟩, hL⟩ : ∃ x : Addr, o = .threw x ∧ Qc a (T.calling g mk a) x s₂ ∧ ∃ L, tq_End (T.calling g mk a) s₂ L mc ms ∧ ∀ q ∈ L, free q.base := hq
  rw [State.frames_setTop' g h.top, X.tail] at hend
  obtain ⟨T', X', -, -, ht⟩ := X.outOfThrown hg hend hW₂ hsame
  refine ⟨x, s₂, T', L, X', hL, ?_, ?_, hQ, ?_⟩
  · rw [ht]; exact (Stand.throwing_heap T' g x).symm
  · rw [ht]; exact (Stand.throwing_vm T' g x).symm
  · rw [← ht]; exact hsteps
variable {y : MethodName} {bytes cc : ByteArray} {maxL nL mc ms n index : Nat} {ret : Option FieldType} {ws : List Cond} {rm : Room} {Pc : Array Value → State → Prop} {Qc : Array Value → State → Addr → State → Prop} {free : Addr → Prop} {Ts : List Cond} {own C : String} {b : Addr} {As rest : List Value} {g : JFrame}
/-- invokevirtual of a method that throws -/
theorem tq_runV (S : CallFix p m c cc nL s args Ts own) (hM : tq_Met l y ws rm Pc Qc mc ms free) (cw : CallW R s args own C index y bytes maxL ret ws rm mc ms n) (hp : PreV s H C b Pc As)
    (hg : g.method = m) (hn : As.length = n) (hsize : g.locals.size = nL) (hstack : g.stack = As.reverse ++ .ref b :: rest) (hW : 2 * g.monitorRoom + (rest.map fun v => v.category).sum ≤ 8) (hdg : decode cc g.pc = .ok (.invokevirtual index, 3)) (hf : cells + mc ≤ R.cells ∧ slots + ms ≤ R.slots) :
    tq_Run p l e R s m args below meth c H locs cells slots mc ms g rest (Qc (Value.ref b :: As).toArray) (free) := by
  obtain ⟨⟨hrc, hrs, hfr, hlo, hws, hcw, hcode, hini, hy, hlen, hlink⟩, hinst, hsel⟩ := cw
  obtain ⟨hexec, hb, hml, hown, -⟩ := S
  obtain ⟨hblind, ⟨cellB, hcB, hobj, hcls⟩, hPc⟩ := hp
  subst hb
  intro T hT X
  obtain ⟨mk, methM, hnamed, hmethM, hstM, habM⟩ := Cond.instanceMethod_spec hinst
  obtain ⟨methM', cM, hmethM', -, -, -, -, -, -, hsigM⟩ := Cond.code_spec hnamed hcode
  cases hmethM.symm.trans hmethM'
  obtain ⟨c2, r2, m2, q1, q2, q3, q4, kP, hkP, hkPi⟩ := Cond.selects_spec hsel
  cases hcls.symm.trans q1
  cases (State.methodFound?_of_named hnamed hy).symm.trans q2
  cases hnamed.symm.trans q3
  have hselP : selectMethod e.platform s.vm cellB.cls mk = .method mk := by rw [Launch.admits_selectMethod X.admits]; exact q4
  obtain ⟨vm₁, X₁, hstep₁⟩ := X.invokevirtual hexec hown hlink hnamed hmethM hstM hkP hkPi hy (a := b) (cell := cellB) (by rw [hT]; exact hcB)
    (fun z h => by rw [h] at hobj; cases hobj) hselP hmethM habM hkP hkPi (g := g) hg (argsL := As) (rest := rest) (hn.trans (hlen _ hsigM)) hstack hdg
  obtain ⟨x, t, T', L, X', hL, e1, e2, hQ, hsteps⟩ := tq_back X₁ (bytes := bytes) (maxL := maxL) (ret := ret) hM hblind hrc hrs hfr hlo hws hcw (fun a' U hU => word_at hU (Or.inl (by first | rfl | simp [Cond.onTables, Cond.keeps, Cond.steady])) hini)
    (g := { g with stack := rest }) hg (hsize.trans hml.symm) hdg hW (X₁.named hnamed) (a := (Value.ref b :: As).toArray) hf.1 hf.2 (hPc _ hT X₁.warmed)
  exact ⟨x, (T.setVm vm₁).calling { g with stack := rest } mk (Value.ref b :: As).toArray, t, T', L, hT, X', hL, e1, e2, hQ, fun target h => hstep₁ _ fun acts => by rw [doInvoke_state]; exact hsteps.trans h⟩
/-- no handler here: the method throws on -/
theorem tq_pass {Qa : State → Addr → State → Prop} {Qd : Array Value → State → Addr → State → Prop} {fr : Addr → Prop} {k0 n0 : Nat} (hr : tq_Run p l e R s m args below meth c H locs cells slots mc ms g rest Qa free)
    (hg : g.method = m) (hlk : g.locked = none) (hen : g.entered = []) (htab : c.exceptionTable.toList = []) (hlocks : meth.locks = false) (hk : cells + mc ≤ k0) (hn : slots + ms ≤ n0)
    (hq : ∀ (x : Addr) (st₀ t u : State), st₀.heap = H → Qa st₀ x t → s.vm.Alike t.vm → u.heap = t.heap → u.vm = t.vm → Qd args s x u) (hf : ∀ q ∈ locs, fr q.base) (hf2 : ∀ q, free q → fr q) :
    W p l e R s m args below meth c H locs cells slots (tq_MQ below Qd args s k0 n0 fr) g := by
  intro T hT X
  obtain ⟨x, st₀, t, T', L, h0, X', hL, e1, e2, hQ, st⟩ := hr T hT X
  obtain ⟨a1, a2, a3, a4, a5⟩ := X'.leaveThrown x (g := { g with stack := rest }) hg hlk hen (by rw [htab]; intro y hy; cases hy) hlocks
  refine ⟨_, st _ a1, x, a2, a3, hq x st₀ t _ h0 hQ (by rw [← e2]; exact X'.warmed.alike) e1 e2, locs ++ L, ⟨a4, a5.mono hk hn⟩, fun q hq => ?_⟩
  rcases List.mem_append.mp hq with h | h
  · exact hf q h
  · exact hf2 _ (hL q h)
end TQ
/-- what the search for a handler gives in the state s, and the tables that it leaves -/
def tq_F (e : Env) (s : State) (f : JFrame) (a : Addr) (h : Handler) (vm' : Vm) : Prop :=
  ∀ (Q : Handler → Pre) (E : CtlPost) (d : Bool) (acts : List Action), wp (findHandler f a) Q E e d acts s ↔ Q h d acts (s.setVm vm')
section TF
variable {e : Env} {s : State} {f : JFrame} {a : Addr} {cell : Cell}
/-- one entry whose class links: taken if the object's class can be assigned, else passed; its record is made -/
theorem tq_go {Q : Handler → Pre} {E : CtlPost} {d : Bool} {acts : List Action} {x : ExceptionTableEntry} {t : List ExceptionTableEntry} {c : ClassId} (hx : covers x f.pc = true) (h0 : x.catchType ≠ 0)
    (hl : s.vm.ClassLinks e.platform f.method.cls x.catchType c) (hcell : s.heap[a]? = some cell) (hobj : ∀ k, cell.vm ≠ .statics k)
    (hk : ∃ k, s.vm.classes[cell.cls]? = some k) (hc : ∃ k, s.vm.classes[c]? = some k) :
    wp (findHandler.go f a (x :: t)) Q E e d acts s ↔
      if s.vm.assignable cell.cls c = true then Q (.found x.handlerPc) d acts (s.setVm (s.vm.noted f.method.cls x.catchType (.cls c))) else wp (findHandler.go f a t) Q E e d acts (s.setVm (s.vm.noted f.method.cls x.catchType (.cls c))) := by
  simp only [covers] at hx
  obtain ⟨ha, ht⟩ := (resolveClass_links e.toSetting hl).op (op := VmOp.resolveClass f.method.cls x.catchType) rfl
  have hal : s.vm.Alike (s.vm.noted f.method.cls x.catchType (.cls c)) := (Vm.Alike.refl s.vm).noted _ _ _
  obtain ⟨k1, hk1⟩ := hk
  obtain ⟨k2, hk2⟩ := hc
  obtain ⟨k1', hk1', -⟩ := hal.2.2 _ _ hk1
  obtain ⟨k2', hk2', -⟩ := hal.2.2 _ _ hk2
  have hass : (s.vm.noted f.method.cls x.catchType (.cls c)).assignable cell.cls c = s.vm.assignable cell.cls c := by rw [hal.assignable]
  cases hfit : s.vm.assignable cell.cls c with
  | true =>
    rw [hfit] at hass
    simp [findHandler.go, hx, h0, ha, ht, hcell, hobj, hk1', hk2', hass, VmOp.dirties, VmOp.acts]
  | false =>
    rw [hfit] at hass
    simp [findHandler.go, hx, h0, ha, ht, hcell, hobj, hk1', hk2', hass, VmOp.dirties, VmOp.acts]
end TF
theorem tq_step {e : Env} {s : State} {a : Addr} {f : JFrame} {r : List Frame} {pc : Nat} {vm' : Vm} (hfind : tq_F e s f a (.found pc) vm') :
    (stepThrowing e s a (.java f :: r)).Is ((s.setVm vm').setFrames (.java { f with pc := pc, stack := [.ref a] } :: r)) [] := by
  simp only [stepThrowing, searchFrame, vmDo]
  generalize hr : Sem.go _ e false [] s = res
  obtain ⟨as, rfl, ha⟩ := Sem.eq_ok_of hr (a := Handler.found pc) (s' := s.setVm vm') (acts' := []) (by simp [hfind _ _ _ _])
  exact ⟨rfl, ha⟩
theorem tq_caught {tb : Tables} {e : Env} {s target : State} {g : JFrame} {c : Code} {below : List Frame} {a : Addr} (h : At s g.method c below) {pc : Nat} {vm' : Vm}
    (hfind : tq_F e ((s.setTop g).pushFrame (.throwing a)) g a (.found pc) vm') (hrest : Steps tb e below ((s.setVm vm').setTop { g with pc := pc, stack := [.ref a] }) target) :
    Steps tb e below ((s.setTop g).pushFrame (.throwing a)) target := by
  obtain ⟨hgo, hw⟩ := h.throwing a
  refine Steps.head hgo hw ?_
  rw [stepThread_throwing (frames_entered h.top _), (tq_step (s := (s.setTop g).pushFrame (.throwing a)) hfind).1]
  obtain ⟨g₀, hg⟩ := Option.isSome_iff_exists.mp h.top
  obtain ⟨r, hr⟩ := State.topJava?_eq_some.mp hg
  have hr' : (s.setVm vm').frames = .java g₀ :: r := hr
  have sw : ∀ (u : State) (F G : List Frame), ((u.setFrames F).setVm vm').setFrames G = (u.setVm vm').setFrames G := fun u F G => by
    rw [show (u.setFrames F).setVm vm' = (u.setVm vm').setFrames F from rfl, State.setFrames_setFrames]
  rw [State.setTop_of_frames _ hr'] at hrest
  rw [hr, List.tail_cons, State.pushFrame, sw, State.setTop_of_frames _ hr, sw]
  exact hrest
/-- which of a method's handlers takes an object of class X that comes up at pc: the entries in their order, each linked; hp: the handler's pc -/
def tq_Sel (args : Array Value) (s : State) (own : String) (pc : Nat) (X : String) (hp : Nat) : List (Nat × Nat × Nat × Nat) → Prop
  | [] => False
  | h :: hs => if h.1 ≤ pc ∧ pc < h.2.1 then h.2.2.2 ≠ 0 ∧ ∃ nm : String, (Cond.classLink own h.2.2.2 nm).before args s = true ∧
      (((∀ cX cT, s.vm.findClass X = some cX → s.vm.findClass nm = some cT → s.vm.assignable cX cT = true) ∧ hp = h.2.2.1) ∨
       ((∀ cX cT, s.vm.findClass X = some cX → s.vm.findClass nm = some cT → s.vm.assignable cX cT = false) ∧ tq_Sel args s own pc X hp hs))
    else tq_Sel args s own pc X hp hs
theorem tq_through {e : Env} {s : State} {args : Array Value} {f : JFrame} {a : Addr} {cell : Cell} {own X : String} {hp : Nat} (hpl : e.platform.magicAccessors = ({} : Platform).magicAccessors) (hown : s.vm.findClass own = some f.method.cls)
    (hX : s.vm.findClass X = some cell.cls) (hobj : ∀ k, cell.vm ≠ .statics k) :
    ∀ (hs : List (Nat × Nat × Nat × Nat)) (es : List ExceptionTableEntry) (S : State), es.map (fun h => (h.startPc, h.endPc, h.handlerPc, h.catchType)) = hs → s.WarmedH S.vm → S.heap[a]? = some cell → tq_Sel args s own f.pc X hp hs →
      ∃ vm', s.WarmedH vm' ∧ ∀ (Q : Handler → Pre) (E : CtlPost) (d : Bool) (acts : List Action), wp (findHandler.go f a es) Q E e d acts S ↔ Q (.found hp) d acts (S.setVm vm') := by
  obtain ⟨k0, hk0⟩ := Vm.classAt_of_findClass hX
  intro hs
  induction hs with
  | nil => intro es S _ _ _ h; exact absurd h id
  | cons h hs ih =>
    intro es S hes hW hcell hsel
    cases es with
    | nil => simp at hes
    | cons x t =>
      obtain ⟨hx0, ht⟩ := List.cons.inj hes
      subst hx0
      simp only [tq_Sel] at hsel
      by_cases hcov : x.startPc ≤ f.pc ∧ f.pc < x.endPc
      · rw [if_pos hcov] at hsel
        obtain ⟨h0, nm, hlink, hfit⟩ := hsel
        have hc1 : covers x f.pc = true := by simp [covers, hcov.1, hcov.2]
        obtain ⟨cT, hcT, hl⟩ := Cond.classLink_spec hown hlink e.platform hpl
        obtain ⟨dk, _, _, kt, hd, _, _, _, _, hkt, _, hopen⟩ := hl.here
        obtain ⟨k0', hk0', -⟩ := hW.alike.2.2 _ _ hk0
        obtain ⟨kt', hkt', -⟩ := hW.alike.2.2 _ _ hkt
        have hW' := hW.noted hd hopen (State.rightAt_cls hl)
        rcases hfit with ⟨hfit, hh⟩ | ⟨hno, hrest⟩
        · refine ⟨_, hW', fun Q E d acts => ?_⟩
          rw [tq_go hc1 h0 (hW.classLinks hl) hcell hobj ⟨k0', hk0'⟩ ⟨kt', hkt'⟩, if_pos (by rw [hW.alike.assignable]; exact hfit _ _ hX hcT), hh]
        · obtain ⟨vm', hW2, hq⟩ := ih t (S.setVm (S.vm.noted f.method.cls x.catchType (.cls cT))) ht hW' hcell hrest
          refine ⟨vm', hW2, fun Q E d acts => ?_⟩
          rw [tq_go hc1 h0 (hW.classLinks hl) hcell hobj ⟨k0', hk0'⟩ ⟨kt', hkt'⟩, if_neg (by rw [hW.alike.assignable, hno _ _ hX hcT]; decide)]
          exact hq Q E d acts
      · rw [if_neg hcov] at hsel
        obtain ⟨vm', hW2, hq⟩ := ih t S ht hW hcell hsel
        refine ⟨vm', hW2, fun Q E d acts => ?_⟩
        have hc0 : covers x f.pc = false := by
          simp only [covers, Bool.and_eq_false_iff, decide_eq_false_iff_not]
          rcases Nat.lt_or_ge f.pc x.startPc with h1 | h1
          · exact Or.inl (by omega)
          · exact Or.inr (fun h2 => hcov ⟨h1, h2⟩)
        rw [W.findHandler_go_skip hc0]
        exact hq Q E d acts
section TC
variable {p : Program} {l : Launch} {e : Env} {R : Room} {s : State} {m : MethodId} {args : Array Value} {below : List Frame} {meth : Method} {c : Code} {H : Heap} {locs : List Loc} {cells slots : Nat} {Q : State → Prop}
/-- the exception: an object of the class X -/
def tq_Ob (X : String) (x : Addr) (t : State) : Prop := ∃ ce : Cell, t.heap[x]? = some ce ∧ ce.vm.isStatics = false ∧ t.vm.findClass X = some ce.cls
/-- how a refusal ends: an object of class X is thrown, no cell that was there has changed -/
def tq_Q (X : String) : Array Value → State → Addr → State → Prop := fun _ st x t => tq_Ob X x t ∧ st.heap.size ≤ t.heap.size ∧ ∀ q : Nat, q < st.heap.size → t.heap[q]? = st.heap[q]?
/-- a call whose callee throws an X, caught here -/
theorem tq_catch {X : String} {a : Array Value} {mc ms pc hp : Nat} {ls : Array Slot} {st0 rest : List Value} {free : Addr → Prop} {A0 : Nat → Prop} {H0 : Heap} (hr : tq_Run p l e R s m args below meth c H locs cells slots mc ms (F0 m pc ls st0) rest (tq_Q X a) free)
    {own : String} (hown : s.vm.findClass own = some m.cls) {hs : List (Nat × Nat × Nat × Nat)} (htab : c.exceptionTable.toList.map (fun h => (h.startPc, h.endPc, h.handlerPc, h.catchType)) = hs) (hsel : tq_Sel args s own pc X hp hs)
    (hS : va_S A0 H0 H locs) (hf : ∀ q, free q → A0 q)
    (kk : ∀ (x : Addr) (H1 : Heap) (locs1 : List Loc), H.size ≤ H1.size → (∀ q : Nat, q < H.size → H1[q]? = H[q]?) → va_S A0 H0 H1 locs1 → W p l e R s m args below meth c H1 locs1 (cells + mc) (slots + ms) Q (F0 m hp ls [.ref x])) :
    W p l e R s m args below meth c H locs cells slots Q (F0 m pc ls st0) := by
  intro T hT X0
  obtain ⟨x, st₀, t, T', L, h0, X', hL, e1, e2, ⟨⟨ce, hce, hst, hcl⟩, hz, hk⟩, st⟩ := hr T hT X0
  rw [h0] at hz hk
  have hpl : e.platform.magicAccessors = ({} : Platform).magicAccessors := by rw [X'.admits.platform]
  have hal := X'.warmed.alike
  have hXs : s.vm.findClass X = some ce.cls := by rw [← hcl, ← e2, hal.findClass]
  obtain ⟨vm', hW', hq⟩ := tq_through (e := e) (s := s) (args := args) (f := F0 m pc ls rest) (a := x) (cell := ce) hpl hown hXs (VmData.ne_statics_of hst) hs c.exceptionTable.toList ((T'.setTop (F0 m pc ls rest)).pushFrame (.throwing x)) htab X'.warmed (by rw [Stand.throwing_heap, e1]; exact hce) hsel
  have hF : tq_F e ((T'.setTop (F0 m pc ls rest)).pushFrame (.throwing x)) (F0 m pc ls rest) x (.found hp) vm' := fun Q E d acts => by
    rw [W.findHandler_eq (meth := meth) (code := c) X'.method' X'.code]
    exact hq Q E d acts
  obtain ⟨t2, a1, b1⟩ := kk x T'.heap (locs ++ L) (by rw [e1]; exact hz) (fun q h1 => by rw [e1]; exact hk q h1)
    ⟨Nat.le_trans hS.1 (by rw [e1]; exact hz), fun q h1 h2 => by rw [e1, hk q (Nat.lt_of_lt_of_le h1 hS.1)]; exact hS.2.1 q h1 h2, fun q hq => by
      rcases List.mem_append.mp hq with h | h
      · exact hS.2.2 q h
      · exact hf _ (hL q h)⟩ (T'.setVm vm') rfl (X'.noted hW')
  exact ⟨t2, st t2 (tq_caught (g := F0 m pc ls rest) X'.here hF a1), b1⟩
/-- 'throw new X(text)', the text's string resolved; no handler here -/
theorem tq_throw {cc : ByteArray} {pc ik ix ic q : Nat} {ls : Array Slot} {own X tx : String} {fr : Addr → Prop} (hexec : p.tables.exec = Jvm.exec) (hb : c.code = cc) (htr : e.platform.stackTraces = false) (hown : s.vm.findClass own = some m.cls)
    (hclink : (Cond.classLink own ik X).before args s = true) (hinit : (Cond.initialized X).before args s = true) (hZ : vk_R own ix tx q s) (hX : Bundle.fit X = true)
    (hat : ∀ a ∈ Bundle.ownAtoms own ic X ["java/lang/RuntimeException", "java/lang/Exception"], a.before args s = true)
    (hsz : ls.size = c.maxLocals) (htab : c.exceptionTable.toList = []) (hlocks : meth.locks = false)
    (d0 : decode cc pc = .ok (.new ik, 3)) (d3 : decode cc (pc + 3) = .ok (.dup, 1)) (d4 : decode cc (pc + 4) = .ok (.ldc ix, 2)) (d6 : decode cc (pc + 6) = .ok (.invokespecial ic, 3)) (d9 : decode cc (pc + 9) = .ok (.athrow, 1))
    (hfr : 6 ≤ R.frames) (hlo : 90 ≤ R.locals) (hce : cells + 1 ≤ R.cells) (hsl : slots + 6 ≤ R.slots) (hH : s.heap.size ≤ H.size) (hold : ∀ q : Nat, q < s.heap.size → H[q]? = s.heap[q]?) :
    W p l e R s m args below meth c H [] cells slots (tq_MQ below (tq_Q X) args s (cells + 1) (slots + 6) fr) (F0 m pc ls []) := by
  refine W.newc (g := F0 m pc ls []) hexec hb hown hclink (hat (.instantiable X 6) (by simp [Bundle.ownAtoms])) hinit rfl d0 hce hsl (fun cC kC h1 h2 h3 h4 => ?_)
  refine lv_dup hexec hb d3 rfl ?_
  refine va_ldcS hexec hb hown hZ d4 ?_
  intro T hT X0
  have hcell : T.heap[H.size]? = some (freshCell cC kC) := by
    rw [hT]
    simp [freshCell]
  obtain ⟨U, a1, a2, a3, a4, a5, ce, g1, g2⟩ := X0.ctorThrowS (own := own) (cls := X) (names := ["java/lang/RuntimeException", "java/lang/Exception"]) (ic := ic) hexec htr hown hX (by decide) hat (fun x hx => by cases hx) h1 h2 hcell hH (msg := .ref q) rfl
    (g := F0 m (pc + 6) ls [.ref q, .ref H.size, .ref H.size]) rfl hsz rfl rfl (rest := []) rfl (by rw [hb]; exact d6) (by rw [hb]; exact d9) (by rw [htab]; intro y hy; cases hy) (by show 2 + 3 < R.frames; omega) (by show 2 * 0 + (1 + 0) + (13 * (2 + 1) + 42) ≤ R.locals; omega) hlocks
  have hal := a4.alike
  refine ⟨U, a1, H.size, a2, a3, ⟨⟨ce, g1, by rw [g2.vm]; rfl, ?_⟩, a5.2.1, fun q hq => ?_⟩, [], ⟨a4, a5⟩, fun q h => by cases h⟩
  · rw [hal.findClass]; exact g2.cls
  · have hcq : ∃ cq, s.heap[q]? = some cq := ⟨_, Array.getElem?_eq_getElem hq⟩
    obtain ⟨cq, hcq⟩ := hcq
    rw [hcq]
    exact a5.old_cell hcq
end TC
/-! WORDS OF THE START, carried to a later state: the tables are warmer, the cells of the start are as they were -/
def tq_ok : Cond → Bool
  | .isRef (.static _ _ _) => true
  | .laysStatic _ _ _ => true
  | w => w.onTables && w.keepsFace
def tq_B (T0 : List Cond) (a0 : Array Value) (s0 U : State) : Prop := (∀ w ∈ T0, w.before a0 s0 = true) ∧ s0.WarmedH U.vm ∧ s0.heap.size ≤ U.heap.size ∧ ∀ q : Nat, q < s0.heap.size → U.heap[q]? = s0.heap[q]?
theorem tq_isRef {a0 a' : Array Value} {s0 U : State} {C n d : String} (hW : s0.WarmedH U.vm) (hold : ∀ q : Nat, q < s0.heap.size → U.heap[q]? = s0.heap[q]?) (h : (Cond.isRef (.static C n d)).before a0 s0 = true) : (Cond.isRef (.static C n d)).before a' U = true := by
  cases hv : (Term.static C n d).eval a0 s0 none [] s0 with
  | none =>
    simp only [Cond.before, Cond.holds, Cond.value] at h
    rw [hv] at h
    simp at h
  | some v =>
    have hU : (Term.static C n d).eval a' U none [] U = some v := by
      cases hi : s0.fieldFound? C n d with
      | none => simp [Term.eval, State.fieldNamed?, hi] at hv
      | some w =>
        obtain ⟨c, k, i, f⟩ := w
        obtain ⟨hst, a, cell, ha, hcell, -, hslot⟩ := Term.static_spec hi hv
        have hs : cell.vm.isStatics = true := by
          simp only [Term.eval, State.fieldNamed?, hi, Option.bind_eq_bind, Option.bind_some, hst, beq_self_eq_true, if_true, Option.pure_def, ha, hcell] at hv
          by_cases h' : cell.vm.isStatics = true
          · exact h'
          · simp [h'] at hv
        obtain ⟨k', hi', hek⟩ := State.fieldFound?_setVm (s := s0) hW.alike hi
        have hi2 : U.fieldFound? C n d = some (c, k', i, f) := by simpa only [State.fieldFound?, State.vm_setVm] using hi'
        have hlt : a < s0.heap.size := (Array.getElem?_eq_some_iff.mp hcell).1
        exact Term.static_eval hi2 hst (by rw [hek]; exact ha) (by rw [hold a hlt]; exact hcell) hs hslot
    simp only [Cond.before, Cond.holds, Cond.value] at h ⊢
    rw [hv] at h
    rw [hU]
    exact h
theorem tq_laysStatic {a0 a' : Array Value} {s0 U : State} {C n d : String} (hW : s0.WarmedH U.vm) (hold : ∀ q : Nat, q < s0.heap.size → U.heap[q]? = s0.heap[q]?) (h : (Cond.laysStatic C n d).before a0 s0 = true) : (Cond.laysStatic C n d).before a' U = true := by
  have h1 := Cond.before_shiftedFace (State.Shifted.of_warmed hW) (Cond.laysStatic C n d) rfl h
  obtain ⟨c, k, i, f, a, cell, g1, g2, g3, g4, g5, g6, g7, g8, g9⟩ := Cond.laysStatic_spec h1
  have e1 : U.vm.findClass C = some c := g1
  have e2 : U.fieldFound? C n d = some (c, k, i, f) := g2
  have hlt : a < s0.heap.size := (Array.getElem?_eq_some_iff.mp g5).1
  have e5 : U.heap[a]? = some cell := by rw [hold a hlt]; exact g5
  simp only [Cond.before, Cond.holds, Cond.value] at h1 ⊢
  rw [g1, g2] at h1
  rw [e1, e2]
  simp only [g4, Option.bind_some, g5, e5] at h1 ⊢
  exact h1
theorem tq_B.word {T0 : List Cond} {a0 a' : Array Value} {s0 U : State} (h : tq_B T0 a0 s0 U) {w : Cond} (hm : w ∈ T0) (hg : tq_ok w = true) : w.before a' U = true := by
  have hw := h.1 w hm
  have tab : ∀ c : Cond, c.onTables = true → c.keepsFace = true → c.before a0 s0 = true → c.before a' U = true := fun c h1 h2 h3 => by
    have e1 := Cond.before_shiftedFace (State.Shifted.of_warmed h.2.1) c h2 h3
    have e2 := Cond.onTables_vm (A := a') (A' := a0) (U := U) (U' := s0) U.vm c h1
    rw [State.setVm_self] at e2
    rw [e2]; exact e1
  cases w with
  | isRef t =>
    cases t with
    | static C n d => exact tq_isRef h.2.1 h.2.2.2 hw
    | _ => simp [tq_ok, Cond.onTables] at hg
  | laysStatic C n d => exact tq_laysStatic h.2.1 h.2.2.2 hw
  | _ =>
    simp only [tq_ok, Bool.and_eq_true] at hg
    exact tab _ hg.1 hg.2 hw
theorem tq_B.words {T0 ws : List Cond} {a0 a' : Array Value} {s0 U : State} (h : tq_B T0 a0 s0 U) (hs : ws.all (fun w => decide (w ∈ T0) && tq_ok w) = true) : ∀ w ∈ ws, w.before a' U = true := fun w hw => by
  have h1 := List.all_eq_true.mp hs w hw
  simp only [Bool.and_eq_true, decide_eq_true_eq] at h1
  exact h.word h1.1 h1.2
/-- a string constant that the start has resolved -/
theorem tq_B.str {T0 : List Cond} {a0 : Array Value} {s0 U : State} (h : tq_B T0 a0 s0 U) {own tx : String} {k : Nat} (hm : Cond.stringRef own k tx ∈ T0) : ∃ a : Nat, vk_R own k tx a U := by
  have hw := h.1 _ hm
  have hcur : ∃ cur, s0.vm.findClass own = some cur := by
    simp only [Cond.before, Cond.holds, Cond.value] at hw
    cases hc : s0.vm.findClass own with
    | none => simp [hc] at hw
    | some cur => exact ⟨cur, rfl⟩
  obtain ⟨cur, hcur⟩ := hcur
  obtain ⟨-, -, -, a, -, -, -, -, -, hev⟩ := Cond.stringRef_spec hcur hw
  exact ⟨a, vk_R.warm h.2.1 (vk_R.of hw hev)⟩
theorem tq_B.on {T0 : List Cond} {a0 : Array Value} {s0 U V : State} (h : tq_B T0 a0 s0 U) (hW : U.WarmedH V.vm) (hz : U.heap.size ≤ V.heap.size) (hold : ∀ q : Nat, q < U.heap.size → V.heap[q]? = U.heap[q]?) : tq_B T0 a0 s0 V :=
  ⟨h.1, State.WarmedH.trans h.2.1 hW, Nat.le_trans h.2.2.1 hz, fun q hq => by rw [hold q (Nat.lt_of_lt_of_le hq h.2.2.1)]; exact h.2.2.2 q hq⟩
/-! METHODS WITH HANDLERS -/
theorem tq_ofWith {l : Launch} {y : MethodName} {ws ws' : List Cond} {rm : Room} {Pc : Array Value → State → Prop} {Qc : Array Value → State → Outcome → State → Prop} {mc ms : Nat} {free : Addr → Prop} {cc : ByteArray} {maxL : Nat} {ret : Option FieldType} {hs : List (Nat × Nat × Nat × Nat)}
    (hy : plainName y.cls = true) (hw : ws = Cond.codeWith y cc maxL ret hs :: ws')
    (body : ∀ p e s m args below meth c s₁, BodyLoose p l y (headSpec ws rm) cc maxL ret e s m args below meth c s₁ → c.maxLocals = maxL → c.exceptionTable.toList.map (fun h => (h.startPc, h.endPc, h.handlerPc, h.catchType)) = hs → Pc args s →
      W p l e (headSpec ws rm).room s m args below meth c s.heap [] 0 0 (MQ below Qc args s mc ms free) (entryFrame m args maxL)) : Met l y ws rm Pc Qc mc ms free := by
  refine MetFree.of_bodyS (code := cc) (maxLocals := maxL) (ret := ret) hy ?_ ?_
  · intro args s m h hn
    obtain ⟨m', meth, c, hn', h1, h2, h3, h4, -, h5, h6, -⟩ := Cond.codeWith_spec (atoms_spec (ws := ws) h (Cond.codeWith y cc maxL ret hs) (by rw [hw]; exact List.mem_cons_self))
    cases hn.symm.trans hn'
    exact ⟨meth, c, h1, h2, h3, h4, h5, h6⟩
  · intro p e s m args below meth c s₁ B hml hP _
    have hh0 : s₁.heap = s.heap := by rw [B.state]; rfl
    have X₀ := Stand.of_body B
    obtain ⟨m', meth', c', hn', hm', hc', -, -, htab, -, -, -⟩ := Cond.codeWith_spec (atoms_spec (ws := ws) B.pre (Cond.codeWith y cc maxL ret hs) (by rw [hw]; exact List.mem_cons_self))
    cases B.named.symm.trans hn'
    have e1 : meth' = meth := Option.some.inj (hm'.symm.trans X₀.method)
    subst e1
    have e2 : c' = c := Option.some.inj (hc'.symm.trans X₀.code)
    subst e2
    obtain ⟨t, a1, o, b1, b2, b3⟩ := body p e s m args below meth' c' s₁ B hml htab hP s₁ hh0 X₀
    exact ⟨t, o, a1, b1, b2, ⟨b3.1, b3.2⟩⟩
section TW
variable {p : Program} {l : Launch} {e : Env} {R : Room} {s : State} {m : MethodId} {args : Array Value} {below : List Frame} {meth : Method} {c : Code} {H : Heap} {locs : List Loc} {cells slots : Nat}
variable {y : MethodName} {bytes cc : ByteArray} {maxL nL mc ms n index : Nat} {ret : Option FieldType} {ws ws' : List Cond} {rm : Room} {Pc : Array Value → State → Prop} {Qc : Array Value → State → Outcome → State → Prop} {free : Addr → Prop} {Ts : List Cond} {own : String} {As rest : List Value} {g : JFrame} {hs : List (Nat × Nat × Nat × Nat)}
/-- invokestatic of a method with handlers -/
theorem tq_runSW (S : CallFix p m c cc nL s args Ts own) (hM : Met l y ws rm Pc Qc mc ms free) (hG : GoodIn Ts ws) (hw : ws = Cond.codeWith y bytes maxL ret hs :: ws') (hrc : rm.cells = mc) (hrs : rm.slots = ms) (hR : rm.frames + 1 ≤ R.frames ∧ 8 + (maxL + 11) + rm.locals ≤ R.locals)
    (hst : (Cond.static y).before args s = true) (hini : (Cond.initialized y.cls).before args s = true) (hlink : (Cond.methodLink own index y).before args s = true)
    (hd : y.cls ≠ "java/lang/invoke/MethodHandle" ∧ y.cls ≠ "java/lang/invoke/VarHandle" ∧ (parseMethodDescriptor y.desc).map (fun d => d.parameters.length) = some n) (hp : PreS s H Pc As)
    (hg : g.method = m) (hn : As.length = n) (hsize : g.locals.size = nL) (hstack : g.stack = As.reverse ++ rest) (hW : 2 * g.monitorRoom + (rest.map fun v => v.category).sum ≤ 8) (hdg : decode cc g.pc = .ok (.invokestatic index, 3)) (hf : cells + mc ≤ R.cells ∧ slots + ms ≤ R.slots) :
    va_Run p l e R s m args below meth c H locs cells slots mc ms g rest (Qc As.toArray) (free) := by
  obtain ⟨hexec, hb, hml, hown, hts⟩ := S
  have hcw : Cond.codeWith y bytes maxL ret hs ∈ ws := by rw [hw]; exact List.mem_cons_self
  have hws := pay_in hts hG
  have hini' : ∀ (a' : Array Value) (U : State), s.WarmedH U.vm → (Cond.initialized y.cls).before a' U = true := fun a' U hU => word_at hU (Or.inl (by first | rfl | simp [Cond.onTables, Cond.keeps, Cond.steady])) hini
  have hK : Back l R p e below s args y 3 8 (PreOf R mc ms Pc) (PostOf Qc mc ms free) := by
    refine Back.of_freeWith (handlers := hs) (S := headSpec ws rm) (P := Pc) (K := fun _ _ _ _ _ => True) (Q := fun a st o t => Qc a st o t ∧ ∃ L, FrameEnd st o t L mc ms ∧ ∀ q ∈ L, free q.base) (bytes := bytes) (maxL := maxL) (ret := ret)
      (E := fun a st o t L k n => k = mc ∧ n = ms ∧ ∀ q ∈ L, free q.base) hM hR.1 hR.2 ?_ ?_ (fun _ _ _ _ _ _ _ _ _ => trivial) ?_ ?_
    · intro m meth c A a X hp
      exact ⟨atoms_intro fun w hw => hws w hw _ _ X.warmed, hws _ hcw _ _ X.warmed, hini' _ _ X.warmed, by rw [show (headSpec ws rm).room.cells = mc from hrc]; exact hp.1, by rw [show (headSpec ws rm).room.slots = ms from hrs]; exact hp.2.1⟩
    · intro m meth c A a g mk X hp'
      exact hp.1 _ _ _ _ hp'.2.2
    · intro a st o t ⟨hq, L, hF, hL⟩
      exact ⟨L, mc, ms, hF, rfl, rfl, hL⟩
    · intro m meth c A a g mk v t L k n X hp hq hF ⟨e1, e2, hL⟩
      subst e1; subst e2
      exact ⟨g, mk, t, L, rfl, rfl, hq.1, rfl, hL, rfl, rfl⟩
  have hcode := hts _ (hG _ hcw).1
  subst hb
  intro T hT X
  obtain ⟨mk, methM, cM, hnamed, hmethM, -, -, -, -, -, -, hsigM⟩ := Cond.codeWith_spec hcode
  have hstatic : methM.isStatic = true := Cond.static_spec hnamed hmethM hst
  obtain ⟨kP, hkP, -⟩ := className_of_methodNamed hnamed
  have hinitP : kP.init = .initialized := Cond.initialized_spec (findClass_of_methodNamed hnamed) hkP hini
  have hlen : n = methM.sig.parameters.length := by
    have h2 := hd.2.2
    rw [hsigM] at h2
    exact (Option.some.inj h2).symm
  obtain ⟨vm₁, X₁, hstep₁⟩ := X.invokestatic hexec hown hlink hnamed hmethM hstatic hkP hinitP ⟨hd.1, hd.2.1⟩ (g := g) hg (argsL := As) (rest := rest) (hn.trans hlen) hstack hdg
  obtain ⟨v, ⟨U', l2, c2, s2⟩, X', ⟨g', mk', t, L, e1, e2, hq, h1, hL, h2, h3⟩, hsteps⟩ := hK m meth c ⟨T.setVm vm₁, locs, cells, slots⟩ { g with stack := rest } (.invokestatic index) mk As.toArray X₁ hg (hsize.trans hml.symm) hdg hW (X₁.named hnamed) ⟨hf.1, hf.2, hp.2 (T.setVm vm₁) hT X₁.warmed⟩
  dsimp only [Pt.U, Pt.locs, Pt.cells, Pt.slots] at X' e1 e2 h1 h2 h3 hsteps
  subst h1; subst h2; subst h3
  exact ⟨v, (T.setVm vm₁).calling g' mk' As.toArray, t, U', L, hT, X', hL, e1, e2, hq, fun target h => hstep₁ _ fun acts => by rw [doInvoke_state]; exact hsteps.trans h⟩
end TW
