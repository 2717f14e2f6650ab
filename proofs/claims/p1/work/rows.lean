section
/-! CALLS THAT THROW: a contract for a method that ends by throwing, the row of 'throw new X(text)', a call whose callee throws, with and without a handler. -/
/-- the frame of a method that threw: as FrameEnd, but for the outcome -/
def tq_End (st t : State) (L : List Loc) (k n : Nat) : Prop := st.WarmedH t.vm ∧ st.sameButNew ({ t with vm := st.vm } : State) L k n
/-- y's contract where it throws -/
def tq_Met (l : Launch) (y : MethodName) (ws : List Cond) (rm : Room) (Pc : Array Value → State → Prop) (Qc : Array Value → State → Addr → State → Prop) (mc ms : Nat) (free : Addr → Prop) : Prop :=
  MetFree l y (headSpec ws rm) Pc (fun _ _ _ _ _ => True) (fun a st o t => ∃ x : Addr, o = .threw x ∧ Qc a st x t ∧ ∃ L, tq_End st t L mc ms ∧ ∀ q ∈ L, free q.base)
def tq_MQ (below : List Frame) (Qc : Array Value → State → Addr → State → Prop) (a : Array Value) (s : State) (mc ms : Nat) (free : Addr → Prop) : State → Prop := fun t =>
  ∃ x : Addr, t.status = .running ∧ Ended t below (.threw x) ∧ Qc a s x t ∧ ∃ L, tq_End s t L mc ms ∧ ∀ q ∈ L, free q.base
theorem tq_ofW {l : Launch} {y : MethodName} {ws ws' : List Cond} {rm : Room} {Pc : Array Value → State → Prop} {Qc : Array Value → State → Addr → State → Prop} {mc ms : Nat} {free : Addr → Prop} {cc : ByteArray} {maxL : Nat} {ret : Option FieldType}
    (hy : plainName y.cls = true) (hw : ws = Cond.code y cc maxL ret :: ws')
    (body : ∀ p e s m args below meth c s₁, BodyLoose p l y (headSpec ws rm) cc maxL ret e s m args below meth c s₁ → c.maxLocals = maxL → c.exceptionTable.toList = [] → Pc args s →
      W p l e (headSpec ws rm).room s m args below meth c s.heap [] 0 0 (tq_MQ below Qc args s mc ms free) (entryFrame m args maxL)) : tq_Met l y ws rm Pc Qc mc ms free := by
  refine MetFree.of_bodyS (code := cc) (maxLocals := maxL) (ret := ret) hy ?_ ?_
  · intro args s m h hn
    obtain ⟨meth, c, h1, h2, h3, h4, h5, h6, -, -⟩ := Cond.code_spec hn (atoms_spec (ws := ws) h _ (by rw [hw]; exact List.mem_cons_self))
    exact ⟨meth, c, h1, h2, h3, h4, h5, h6⟩
  · intro p e s m args below meth c s₁ B hml hP _
    have hh0 : s₁.heap = s.heap := by rw [B.state]; rfl
    have X₀ := Stand.of_body B
    obtain ⟨meth', c', hm', hc', -, -, -, -, hempty, -⟩ := Cond.code_spec B.named (atoms_spec (ws := ws) B.pre _ (by rw [hw]; exact List.mem_cons_self))
    have e1 : meth' = meth := Option.some.inj (hm'.symm.trans X₀.method)
    subst e1
    have e2 : c' = c := Option.some.inj (hc'.symm.trans X₀.code)
    subst e2
    have h0 : c'.exceptionTable.size = 0 := by simpa [Array.isEmpty] using hempty
    have htab : c'.exceptionTable.toList = [] := List.eq_nil_of_length_eq_zero (by simpa using h0)
    obtain ⟨t, a1, x, b1, b2, b3⟩ := body p e s m args below meth' c' s₁ B hml htab hP s₁ hh0 X₀
    exact ⟨t, .threw x, a1, b1, b2, x, rfl, b3.1, b3.2⟩
section TQ
variable {p : Program} {l : Launch} {e : Env} {R : Room} {s : State} {m : MethodId} {args : Array Value} {below : List Frame} {meth : Method} {c : Code} {H : Heap} {locs : List Loc} {cells slots : Nat} {Q : State → Prop}
/-- a call whose callee throws: where it comes to -/
def tq_Run (p : Program) (l : Launch) (e : Env) (R : Room) (s : State) (m : MethodId) (args : Array Value) (below : List Frame) (meth : Method) (c : Code) (H : Heap) (locs : List Loc) (cells slots mc ms : Nat) (g : JFrame) (rest : List Value) (Qa : State → Addr → State → Prop) (free : Addr → Prop) : Prop :=
  ∀ T : State, T.heap = H → Stand p l e R s m args below meth c T locs cells slots → ∃ (x : Addr) (st₀ t T' : State) (L : List Loc), st₀.heap = H ∧ Stand p l e R s m args below meth c T' (locs ++ L) (cells + mc) (slots + ms) ∧ (∀ q ∈ L, free q.base) ∧ T'.heap = t.heap ∧ T'.vm = t.vm ∧ Qa st₀ x t ∧
    ∀ target, Steps p.tables e below ((T'.setTop { g with stack := rest }).pushFrame (.throwing x)) target → Steps p.tables e below (T.setTop g) target
theorem tq_back {T : State} (X : Stand p l e R s m args below meth c T locs cells slots) {y : MethodName} {ws : List Cond} {rm : Room} {Pc : Array Value → State → Prop} {Qc : Array Value → State → Addr → State → Prop} {mc ms : Nat} {free : Addr → Prop} {bytes : ByteArray} {maxL : Nat} {ret : Option FieldType}
    (hM : tq_Met l y ws rm Pc Qc mc ms free) (hblind : FrameBlind Pc) (hrc : rm.cells = mc) (hrs : rm.slots = ms) {K : Nat}
    (hframes : rm.frames + 1 ≤ R.frames) (hlocals : K + (maxL + 11) + rm.locals ≤ R.locals)
    (hws : ∀ w ∈ ws, ∀ (a' : Array Value) (U : State), s.WarmedH U.vm → w.before a' U = true) (hcode : Cond.code y bytes maxL ret ∈ ws) (hinit : ∀ (a' : Array Value) (U : State), s.WarmedH U.vm → (Cond.initialized y.cls).before a' U = true)
    {g : JFrame} (hg : g.method = m) (hsize : g.locals.size = c.maxLocals) {ig : Instr} {len : Nat} (hdg : decode c.code g.pc = .ok (ig, len)) (hK : 2 * g.monitorRoom + (g.stack.map fun v => v.category).sum ≤ K)
    {mk : MethodId} (hn : T.methodNamed? y = some mk) {a : Array Value} (hcells : cells + mc ≤ R.cells) (hslots : slots + ms ≤ R.slots) (hPc : Pc a T) :
    ∃ (x : Addr) (t T' : State) (L : List Loc), Stand p l e R s m args below meth c T' (locs ++ L) (cells + mc) (slots + ms) ∧ (∀ q ∈ L, free q.base) ∧ T'.heap = t.heap ∧ T'.vm = t.vm ∧ Qc a (T.calling g mk a) x t ∧
      Steps p.tables e below (doInvoke e (T.setTop g) [] mk a).1 ((T'.setTop g).pushFrame (.throwing x)) := by
  have hW := X.warmed
  have h2 := hws _ hcode a T hW
  obtain ⟨methY, cY, hmY, hcY, -, hlY, -, -, -, -⟩ := Cond.code_spec hn h2
  obtain ⟨kY, hkY, -⟩ := className_of_methodNamed hn
  have hinitY : kY.init = .initialized := Cond.initialized_spec (findClass_of_methodNamed hn) hkY (hinit a T hW)
  have h : At T g.method c below := by rw [hg]; exact X.here
  have happ : (headSpec ws rm).appliesLoose y e.platform (T.calling g mk a) = true :=
    Spec.appliesLoose_calling (g := g) h hdg hn hkY hinitY
      (X.room_calling (g := g) (R' := (headSpec ws rm).room) hsize hmY hcY hframes (by rw [hlY]; show _ + (maxL + 11) + rm.locals ≤ R.locals; omega) (by show cells + rm.cells ≤ R.cells; omega) (by show slots + rm.slots ≤ R.slots; omega)) (atoms_intro fun w hw => hws w hw _ _ hW)
  obtain ⟨mid, hmid⟩ := h.above
  have hfr : (T.setTop g).frames = (.java g :: mid) ++ below := by rw [State.frames_setTop' g h.top, hmid]; rfl
  obtain ⟨o, s₂, hsteps, -, hend, hq⟩ := Steps.callFree hM p X.admits X.cas X.clock (acts := []) hfr happ (hblind _ _ _ _ hPc) trivial
  obtain ⟨x, rfl, hQ, L, ⟨hW₂, hsame⟩, hL⟩ : ∃ x : Addr, o = .threw x ∧ Qc a (T.calling g mk a) x s₂ ∧ ∃ L, tq_End (T.calling g mk a) s₂ L mc ms ∧ ∀ q ∈ L, free q.base := hq
  rw [State.frames_setTop' g h.top, X.tail] at hend
  obtain ⟨T', X', -, -, ht⟩ := X.outOfThrown hg hend hW₂ hsame
  refine ⟨x, s₂, T', L, X', hL, ?_, ?_, hQ, ?_⟩
  · rw [ht]; exact (Stand.throwing_heap T' g x).symm
  · rw [ht]; exact (Stand.throwing_vm T' g x).symm
  · rw [← ht]; exact hsteps
variable {y : MethodName} {bytes cc : ByteArray} {maxL nL mc ms n index : Nat} {ret : Option FieldType} {ws : List Cond} {rm : Room} {Pc : Array Value → State → Prop} {Qc : Array Value → State → Addr → State → Prop} {free : Addr → Prop} {Ts : List Cond} {own C : String} {b : Addr} {As rest : List Value} {g : JFrame}
/-- invokevirtual of a method that throws -/
theorem tq_runV (S : CallFix p m c cc nL s args Ts own) (hM : tq_Met l y ws rm Pc Qc mc ms free) (cw : CallW R s args own C index y bytes maxL ret ws rm mc ms n) (hp : PreV s H C b Pc As)
    (hg : g.method = m) (hn : As.length = n) (hsize : g.locals.size = nL) (hstack : g.stack = As.reverse ++ .ref b :: rest) (hW : 2 * g.monitorRoom + (rest.map fun v => v.category).sum ≤ 8) (hdg : decode cc g.pc = .ok (.invokevirtual index, 3)) (hf : cells + mc ≤ R.cells ∧ slots + ms ≤ R.slots) :
    tq_Run p l e R s m args below meth c H locs cells slots mc ms g rest (Qc (Value.ref b :: As).toArray) (free) := by
  obtain ⟨⟨hrc, hrs, hfr, hlo, hws, hcw, hcode, hini, hy, hlen, hlink⟩, hinst, hsel⟩ := cw
  obtain ⟨hexec, hb, hml, hown, -⟩ := S
  obtain ⟨hblind, ⟨cellB, hcB, hobj, hcls⟩, hPc⟩ := hp
  subst hb
  intro T hT X
  obtain ⟨mk, methM, hnamed, hmethM, hstM, habM⟩ := Cond.instanceMethod_spec hinst
  obtain ⟨methM', cM, hmethM', -, -, -, -, -, -, hsigM⟩ := Cond.code_spec hnamed hcode
  cases hmethM.symm.trans hmethM'
  obtain ⟨c2, r2, m2, q1, q2, q3, q4, kP, hkP, hkPi⟩ := Cond.selects_spec hsel
  cases hcls.symm.trans q1
  cases (State.methodFound?_of_named hnamed hy).symm.trans q2
  cases hnamed.symm.trans q3
  have hselP : selectMethod e.platform s.vm cellB.cls mk = .method mk := by rw [Launch.admits_selectMethod X.admits]; exact q4
  obtain ⟨vm₁, X₁, hstep₁⟩ := X.invokevirtual hexec hown hlink hnamed hmethM hstM hkP hkPi hy (a := b) (cell := cellB) (by rw [hT]; exact hcB)
    (fun z h => by rw [h] at hobj; cases hobj) hselP hmethM habM hkP hkPi (g := g) hg (argsL := As) (rest := rest) (hn.trans (hlen _ hsigM)) hstack hdg
  obtain ⟨x, t, T', L, X', hL, e1, e2, hQ, hsteps⟩ := tq_back X₁ (bytes := bytes) (maxL := maxL) (ret := ret) hM hblind hrc hrs hfr hlo hws hcw (fun a' U hU => word_at hU (Or.inl (by first | rfl | simp [Cond.onTables, Cond.keeps, Cond.steady])) hini)
    (g := { g with stack := rest }) hg (hsize.trans hml.symm) hdg hW (X₁.named hnamed) (a := (Value.ref b :: As).toArray) hf.1 hf.2 (hPc _ hT X₁.warmed)
  exact ⟨x, (T.setVm vm₁).calling { g with stack := rest } mk (Value.ref b :: As).toArray, t, T', L, hT, X', hL, e1, e2, hQ, fun target h => hstep₁ _ fun acts => by rw [doInvoke_state]; exact hsteps.trans h⟩
/-- no handler here: the method throws on -/
theorem tq_pass {Qa : State → Addr → State → Prop} {Qd : Array Value → State → Addr → State → Prop} {fr : Addr → Prop} {k0 n0 : Nat} (hr : tq_Run p l e R s m args below meth c H locs cells slots mc ms g rest Qa free)
    (hg : g.method = m) (hlk : g.locked = none) (hen : g.entered = []) (htab : c.exceptionTable.toList = []) (hlocks : meth.locks = false) (hk : cells + mc ≤ k0) (hn : slots + ms ≤ n0)
    (hq : ∀ (x : Addr) (st₀ t u : State), st₀.heap = H → Qa st₀ x t → s.vm.Alike t.vm → u.heap = t.heap → u.vm = t.vm → Qd args s x u) (hf : ∀ q ∈ locs, fr q.base) (hf2 : ∀ q, free q → fr q) :
    W p l e R s m args below meth c H locs cells slots (tq_MQ below Qd args s k0 n0 fr) g := by
  intro T hT X
  obtain ⟨x, st₀, t, T', L, h0, X', hL, e1, e2, hQ, st⟩ := hr T hT X
  obtain ⟨a1, a2, a3, a4, a5⟩ := X'.leaveThrown x (g := { g with stack := rest }) hg hlk hen (by rw [htab]; intro y hy; cases hy) hlocks
  refine ⟨_, st _ a1, x, a2, a3, hq x st₀ t _ h0 hQ (by rw [← e2]; exact X'.warmed.alike) e1 e2, locs ++ L, ⟨a4, a5.mono hk hn⟩, fun q hq => ?_⟩
  rcases List.mem_append.mp hq with h | h
  · exact hf q h
  · exact hf2 _ (hL q h)
end TQ
/-- what the search for a handler gives in the state s, and the tables that it leaves -/
def tq_F (e : Env) (s : State) (f : JFrame) (a : Addr) (h : Handler) (vm' : Vm) : Prop :=
  ∀ (Q : Handler → Pre) (E : CtlPost) (d : Bool) (acts : List Action), wp (findHandler f a) Q E e d acts s ↔ Q h d acts (s.setVm vm')
section TF
variable {e : Env} {s : State} {f : JFrame} {a : Addr} {cell : Cell}
/-- one entry whose class links: taken if the object's class can be assigned, else passed; its record is made -/
theorem tq_go {Q : Handler → Pre} {E : CtlPost} {d : Bool} {acts : List Action} {x : ExceptionTableEntry} {t : List ExceptionTableEntry} {c : ClassId} (hx : covers x f.pc = true) (h0 : x.catchType ≠ 0)
    (hl : s.vm.ClassLinks e.platform f.method.cls x.catchType c) (hcell : s.heap[a]? = some cell) (hobj : ∀ k, cell.vm ≠ .statics k)
    (hk : ∃ k, s.vm.classes[cell.cls]? = some k) (hc : ∃ k, s.vm.classes[c]? = some k) :
    wp (findHandler.go f a (x :: t)) Q E e d acts s ↔
      if s.vm.assignable cell.cls c = true then Q (.found x.handlerPc) d acts (s.setVm (s.vm.noted f.method.cls x.catchType (.cls c))) else wp (findHandler.go f a t) Q E e d acts (s.setVm (s.vm.noted f.method.cls x.catchType (.cls c))) := by
  simp only [covers] at hx
  obtain ⟨ha, ht⟩ := (resolveClass_links e.toSetting hl).op (op := VmOp.resolveClass f.method.cls x.catchType) rfl
  have hal : s.vm.Alike (s.vm.noted f.method.cls x.catchType (.cls c)) := (Vm.Alike.refl s.vm).noted _ _ _
  obtain ⟨k1, hk1⟩ := hk
  obtain ⟨k2, hk2⟩ := hc
  obtain ⟨k1', hk1', -⟩ := hal.2.2 _ _ hk1
  obtain ⟨k2', hk2', -⟩ := hal.2.2 _ _ hk2
  have hass : (s.vm.noted f.method.cls x.catchType (.cls c)).assignable cell.cls c = s.vm.assignable cell.cls c := by rw [hal.assignable]
  cases hfit : s.vm.assignable cell.cls c with
  | true =>
    rw [hfit] at hass
    simp [findHandler.go, hx, h0, ha, ht, hcell, hobj, hk1', hk2', hass, VmOp.dirties, VmOp.acts]
  | false =>
    rw [hfit] at hass
    simp [findHandler.go, hx, h0, ha, ht, hcell, hobj, hk1', hk2', hass, VmOp.dirties, VmOp.acts]
end TF
theorem tq_step {e : Env} {s : State} {a : Addr} {f : JFrame} {r : List Frame} {pc : Nat} {vm' : Vm} (hfind : tq_F e s f a (.found pc) vm') :
    (stepThrowing e s a (.java f :: r)).Is ((s.setVm vm').setFrames (.java { f with pc := pc, stack := [.ref a] } :: r)) [] := by
  simp only [stepThrowing, searchFrame, vmDo]
  generalize hr : Sem.go _ e false [] s = res
  obtain ⟨as, rfl, ha⟩ := Sem.eq_ok_of hr (a := Handler.found pc) (s' := s.setVm vm') (acts' := []) (by simp [hfind _ _ _ _])
  exact ⟨rfl, ha⟩
theorem tq_caught {tb : Tables} {e : Env} {s target : State} {g : JFrame} {c : Code} {below : List Frame} {a : Addr} (h : At s g.method c below) {pc : Nat} {vm' : Vm}
    (hfind : tq_F e ((s.setTop g).pushFrame (.throwing a)) g a (.found pc) vm') (hrest : Steps tb e below ((s.setVm vm').setTop { g with pc := pc, stack := [.ref a] }) target) :
    Steps tb e below ((s.setTop g).pushFrame (.throwing a)) target := by
  obtain ⟨hgo, hw⟩ := h.throwing a
  refine Steps.head hgo hw ?_
  rw [stepThread_throwing (frames_entered h.top _), (tq_step (s := (s.setTop g).pushFrame (.throwing a)) hfind).1]
  obtain ⟨g₀, hg⟩ := Option.isSome_iff_exists.mp h.top
  obtain ⟨r, hr⟩ := State.topJava?_eq_some.mp hg
  have hr' : (s.setVm vm').frames = .java g₀ :: r := hr
  have sw : ∀ (u : State) (F G : List Frame), ((u.setFrames F).setVm vm').setFrames G = (u.setVm vm').setFrames G := fun u F G => by
    rw [show (u.setFrames F).setVm vm' = (u.setVm vm').setFrames F from rfl, State.setFrames_setFrames]
  rw [State.setTop_of_frames _ hr'] at hrest
  rw [hr, List.tail_cons, State.pushFrame, sw, State.setTop_of_frames _ hr, sw]
  exact hrest
/-- which of a method's handlers takes an object of class X that comes up at pc: the entries in their order, each linked; hp: the handler's pc -/
def tq_Sel (args : Array Value) (s : State) (own : String) (pc : Nat) (X : String) (hp : Nat) : List (Nat × Nat × Nat × Nat) → Prop
  | [] => False
  | h :: hs => if h.1 ≤ pc ∧ pc < h.2.1 then h.2.2.2 ≠ 0 ∧ ∃ nm : String, (Cond.classLink own h.2.2.2 nm).before args s = true ∧
      (((∀ cX cT, s.vm.findClass X = some cX → s.vm.findClass nm = some cT → s.vm.assignable cX cT = true) ∧ hp = h.2.2.1) ∨
       ((∀ cX cT, s.vm.findClass X = some cX → s.vm.findClass nm = some cT → s.vm.assignable cX cT = false) ∧ tq_Sel args s own pc X hp hs))
    else tq_Sel args s own pc X hp hs
theorem tq_through {e : Env} {s : State} {args : Array Value} {f : JFrame} {a : Addr} {cell : Cell} {own X : String} {hp : Nat} (hpl : e.platform.magicAccessors = ({} : Platform).magicAccessors) (hown : s.vm.findClass own = some f.method.cls)
    (hX : s.vm.findClass X = some cell.cls) (hobj : ∀ k, cell.vm ≠ .statics k) :
    ∀ (hs : List (Nat × Nat × Nat × Nat)) (es : List ExceptionTableEntry) (S : State), es.map (fun h => (h.startPc, h.endPc, h.handlerPc, h.catchType)) = hs → s.WarmedH S.vm → S.heap[a]? = some cell → tq_Sel args s own f.pc X hp hs →
      ∃ vm', s.WarmedH vm' ∧ ∀ (Q : Handler → Pre) (E : CtlPost) (d : Bool) (acts : List Action), wp (findHandler.go f a es) Q E e d acts S ↔ Q (.found hp) d acts (S.setVm vm') := by
  obtain ⟨k0, hk0⟩ := Vm.classAt_of_findClass hX
  intro hs
  induction hs with
  | nil => intro es S _ _ _ h; exact absurd h id
  | cons h hs ih =>
    intro es S hes hW hcell hsel
    cases es with
    | nil => simp at hes
    | cons x t =>
      obtain ⟨hx0, ht⟩ := List.cons.inj hes
      subst hx0
      simp only [tq_Sel] at hsel
      by_cases hcov : x.startPc ≤ f.pc ∧ f.pc < x.endPc
      · rw [if_pos hcov] at hsel
        obtain ⟨h0, nm, hlink, hfit⟩ := hsel
        have hc1 : covers x f.pc = true := by simp [covers, hcov.1, hcov.2]
        obtain ⟨cT, hcT, hl⟩ := Cond.classLink_spec hown hlink e.platform hpl
        obtain ⟨dk, _, _, kt, hd, _, _, _, _, hkt, _, hopen⟩ := hl.here
        obtain ⟨k0', hk0', -⟩ := hW.alike.2.2 _ _ hk0
        obtain ⟨kt', hkt', -⟩ := hW.alike.2.2 _ _ hkt
        have hW' := hW.noted hd hopen (State.rightAt_cls hl)
        rcases hfit with ⟨hfit, hh⟩ | ⟨hno, hrest⟩
        · refine ⟨_, hW', fun Q E d acts => ?_⟩
          rw [tq_go hc1 h0 (hW.classLinks hl) hcell hobj ⟨k0', hk0'⟩ ⟨kt', hkt'⟩, if_pos (by rw [hW.alike.assignable]; exact hfit _ _ hX hcT), hh]
        · obtain ⟨vm', hW2, hq⟩ := ih t (S.setVm (S.vm.noted f.method.cls x.catchType (.cls cT))) ht hW' hcell hrest
          refine ⟨vm', hW2, fun Q E d acts => ?_⟩
          rw [tq_go hc1 h0 (hW.classLinks hl) hcell hobj ⟨k0', hk0'⟩ ⟨kt', hkt'⟩, if_neg (by rw [hW.alike.assignable, hno _ _ hX hcT]; decide)]
          exact hq Q E d acts
      · rw [if_neg hcov] at hsel
        obtain ⟨vm', hW2, hq⟩ := ih t S ht hW hcell hsel
        refine ⟨vm', hW2, fun Q E d acts => ?_⟩
        have hc0 : covers x f.pc = false := by
          simp only [covers, Bool.and_eq_false_iff, decide_eq_false_iff_not]
          rcases Nat.lt_or_ge f.pc x.startPc with h1 | h1
          · exact Or.inl (by omega)
          · exact Or.inr (fun h2 => hcov ⟨h1, h2⟩)
        rw [W.findHandler_go_skip hc0]
        exact hq Q E d acts
section TC
variable {p : Program} {l : Launch} {e : Env} {R : Room} {s : State} {m : MethodId} {args : Array Value} {below : List Frame} {meth : Method} {c : Code} {H : Heap} {locs : List Loc} {cells slots : Nat} {Q : State → Prop}
/-- the exception: an object of the class X -/
def tq_Ob (X : String) (x : Addr) (t : State) : Prop := ∃ ce : Cell, t.heap[x]? = some ce ∧ ce.vm.isStatics = false ∧ t.vm.findClass X = some ce.cls
/-- how a refusal ends: an object of class X is thrown, no cell that was there has changed -/
def tq_Q (X : String) : Array Value → State → Addr → State → Prop := fun _ st x t => tq_Ob X x t ∧ st.heap.size ≤ t.heap.size ∧ ∀ q : Nat, q < st.heap.size → t.heap[q]? = st.heap[q]?
/-- a call whose callee throws an X, caught here -/
theorem tq_catch {X : String} {a : Array Value} {mc ms pc hp : Nat} {ls : Array Slot} {st0 rest : List Value} {free : Addr → Prop} {A0 : Nat → Prop} {H0 : Heap} (hr : tq_Run p l e R s m args below meth c H locs cells slots mc ms (F0 m pc ls st0) rest (tq_Q X a) free)
    {own : String} (hown : s.vm.findClass own = some m.cls) {hs : List (Nat × Nat × Nat × Nat)} (htab : c.exceptionTable.toList.map (fun h => (h.startPc, h.endPc, h.handlerPc, h.catchType)) = hs) (hsel : tq_Sel args s own pc X hp hs)
    (hS : va_S A0 H0 H locs) (hf : ∀ q, free q → A0 q)
    (kk : ∀ (x : Addr) (H1 : Heap) (locs1 : List Loc), H.size ≤ H1.size → (∀ q : Nat, q < H.size → H1[q]? = H[q]?) → va_S A0 H0 H1 locs1 → W p l e R s m args below meth c H1 locs1 (cells + mc) (slots + ms) Q (F0 m hp ls [.ref x])) :
    W p l e R s m args below meth c H locs cells slots Q (F0 m pc ls st0) := by
  intro T hT X0
  obtain ⟨x, st₀, t, T', L, h0, X', hL, e1, e2, ⟨⟨ce, hce, hst, hcl⟩, hz, hk⟩, st⟩ := hr T hT X0
  rw [h0] at hz hk
  have hpl : e.platform.magicAccessors = ({} : Platform).magicAccessors := by rw [X'.admits.platform]
  have hal := X'.warmed.alike
  have hXs : s.vm.findClass X = some ce.cls := by rw [← hcl, ← e2, hal.findClass]
  obtain ⟨vm', hW', hq⟩ := tq_through (e := e) (s := s) (args := args) (f := F0 m pc ls rest) (a := x) (cell := ce) hpl hown hXs (VmData.ne_statics_of hst) hs c.exceptionTable.toList ((T'.setTop (F0 m pc ls rest)).pushFrame (.throwing x)) htab X'.warmed (by rw [Stand.throwing_heap, e1]; exact hce) hsel
  have hF : tq_F e ((T'.setTop (F0 m pc ls rest)).pushFrame (.throwing x)) (F0 m pc ls rest) x (.found hp) vm' := fun Q E d acts => by
    rw [W.findHandler_eq (meth := meth) (code := c) X'.method' X'.code]
    exact hq Q E d acts
  obtain ⟨t2, a1, b1⟩ := kk x T'.heap (locs ++ L) (by rw [e1]; exact hz) (fun q h1 => by rw [e1]; exact hk q h1)
    ⟨Nat.le_trans hS.1 (by rw [e1]; exact hz), fun q h1 h2 => by rw [e1, hk q (Nat.lt_of_lt_of_le h1 hS.1)]; exact hS.2.1 q h1 h2, fun q hq => by
      rcases List.mem_append.mp hq with h | h
      · exact hS.2.2 q h
      · exact hf _ (hL q h)⟩ (T'.setVm vm') rfl (X'.noted hW')
  exact ⟨t2, st t2 (tq_caught (g := F0 m pc ls rest) X'.here hF a1), b1⟩
/-- 'throw new X(text)', the text's string resolved; no handler here -/
theorem tq_throw {cc : ByteArray} {pc ik ix ic q : Nat} {ls : Array Slot} {own X tx : String} {fr : Addr → Prop} (hexec : p.tables.exec = Jvm.exec) (hb : c.code = cc) (htr : e.platform.stackTraces = false) (hown : s.vm.findClass own = some m.cls)
    (hclink : (Cond.classLink own ik X).before args s = true) (hinit : (Cond.initialized X).before args s = true) (hZ : vk_R own ix tx q s) (hX : Bundle.fit X = true)
    (hat : ∀ a ∈ Bundle.ownAtoms own ic X ["java/lang/RuntimeException", "java/lang/Exception"], a.before args s = true)
    (hsz : ls.size = c.maxLocals) (htab : c.exceptionTable.toList = []) (hlocks : meth.locks = false)
    (d0 : decode cc pc = .ok (.new ik, 3)) (d3 : decode cc (pc + 3) = .ok (.dup, 1)) (d4 : decode cc (pc + 4) = .ok (.ldc ix, 2)) (d6 : decode cc (pc + 6) = .ok (.invokespecial ic, 3)) (d9 : decode cc (pc + 9) = .ok (.athrow, 1))
    (hfr : 6 ≤ R.frames) (hlo : 90 ≤ R.locals) (hce : cells + 1 ≤ R.cells) (hsl : slots + 6 ≤ R.slots) (hH : s.heap.size ≤ H.size) (hold : ∀ q : Nat, q < s.heap.size → H[q]? = s.heap[q]?) :
    W p l e R s m args below meth c H [] cells slots (tq_MQ below (tq_Q X) args s (cells + 1) (slots + 6) fr) (F0 m pc ls []) := by
  refine W.newc (g := F0 m pc ls []) hexec hb hown hclink (hat (.instantiable X 6) (by simp [Bundle.ownAtoms])) hinit rfl d0 hce hsl (fun cC kC h1 h2 h3 h4 => ?_)
  refine lv_dup hexec hb d3 rfl ?_
  refine va_ldcS hexec hb hown hZ d4 ?_
  intro T hT X0
  have hcell : T.heap[H.size]? = some (freshCell cC kC) := by
    rw [hT]
    simp [freshCell]
  obtain ⟨U, a1, a2, a3, a4, a5, ce, g1, g2⟩ := X0.ctorThrowS (own := own) (cls := X) (names := ["java/lang/RuntimeException", "java/lang/Exception"]) (ic := ic) hexec htr hown hX (by decide) hat (fun x hx => by cases hx) h1 h2 hcell hH (msg := .ref q) rfl
    (g := F0 m (pc + 6) ls [.ref q, .ref H.size, .ref H.size]) rfl hsz rfl rfl (rest := []) rfl (by rw [hb]; exact d6) (by rw [hb]; exact d9) (by rw [htab]; intro y hy; cases hy) (by show 2 + 3 < R.frames; omega) (by show 2 * 0 + (1 + 0) + (13 * (2 + 1) + 42) ≤ R.locals; omega) hlocks
  have hal := a4.alike
  refine ⟨U, a1, H.size, a2, a3, ⟨⟨ce, g1, by rw [g2.vm]; rfl, ?_⟩, a5.2.1, fun q hq => ?_⟩, [], ⟨a4, a5⟩, fun q h => by cases h⟩
  · rw [hal.findClass]; exact g2.cls
  · have hcq : ∃ cq, s.heap[q]? = some cq := ⟨_, Array.getElem?_eq_getElem hq⟩
    obtain ⟨cq, hcq⟩ := hcq
    rw [hcq]
    exact a5.old_cell hcq
end TC
/-! WORDS OF THE START, carried to a later state: the tables are warmer, the cells of the start are as they were -/
def tq_ok : Cond → Bool
  | .isRef (.static _ _ _) => true
  | .laysStatic _ _ _ => true
  | w => w.onTables && w.keepsFace
def tq_B (T0 : List Cond) (a0 : Array Value) (s0 U : State) : Prop := (∀ w ∈ T0, w.before a0 s0 = true) ∧ s0.WarmedH U.vm ∧ s0.heap.size ≤ U.heap.size ∧ ∀ q : Nat, q < s0.heap.size → U.heap[q]? = s0.heap[q]?
theorem tq_isRef {a0 a' : Array Value} {s0 U : State} {C n d : String} (hW : s0.WarmedH U.vm) (hold : ∀ q : Nat, q < s0.heap.size → U.heap[q]? = s0.heap[q]?) (h : (Cond.isRef (.static C n d)).before a0 s0 = true) : (Cond.isRef (.static C n d)).before a' U = true := by
  cases hv : (Term.static C n d).eval a0 s0 none [] s0 with
  | none =>
    simp only [Cond.before, Cond.holds, Cond.value] at h
    rw [hv] at h
    simp at h
  | some v =>
    have hU : (Term.static C n d).eval a' U none [] U = some v := by
      cases hi : s0.fieldFound? C n d with
      | none => simp [Term.eval, State.fieldNamed?, hi] at hv
      | some w =>
        obtain ⟨c, k, i, f⟩ := w
        obtain ⟨hst, a, cell, ha, hcell, -, hslot⟩ := Term.static_spec hi hv
        have hs : cell.vm.isStatics = true := by
          simp only [Term.eval, State.fieldNamed?, hi, Option.bind_eq_bind, Option.bind_some, hst, beq_self_eq_true, if_true, Option.pure_def, ha, hcell] at hv
          by_cases h' : cell.vm.isStatics = true
          · exact h'
          · simp [h'] at hv
        obtain ⟨k', hi', hek⟩ := State.fieldFound?_setVm (s := s0) hW.alike hi
        have hi2 : U.fieldFound? C n d = some (c, k', i, f) := by simpa only [State.fieldFound?, State.vm_setVm] using hi'
        have hlt : a < s0.heap.size := (Array.getElem?_eq_some_iff.mp hcell).1
        exact Term.static_eval hi2 hst (by rw [hek]; exact ha) (by rw [hold a hlt]; exact hcell) hs hslot
    simp only [Cond.before, Cond.holds, Cond.value] at h ⊢
    rw [hv] at h
    rw [hU]
    exact h
theorem tq_laysStatic {a0 a' : Array Value} {s0 U : State} {C n d : String} (hW : s0.WarmedH U.vm) (hold : ∀ q : Nat, q < s0.heap.size → U.heap[q]? = s0.heap[q]?) (h : (Cond.laysStatic C n d).before a0 s0 = true) : (Cond.laysStatic C n d).before a' U = true := by
  have h1 := Cond.before_shiftedFace (State.Shifted.of_warmed hW) (Cond.laysStatic C n d) rfl h
  obtain ⟨c, k, i, f, a, cell, g1, g2, g3, g4, g5, g6, g7, g8, g9⟩ := Cond.laysStatic_spec h1
  have e1 : U.vm.findClass C = some c := g1
  have e2 : U.fieldFound? C n d = some (c, k, i, f) := g2
  have hlt : a < s0.heap.size := (Array.getElem?_eq_some_iff.mp g5).1
  have e5 : U.heap[a]? = some cell := by rw [hold a hlt]; exact g5
  simp only [Cond.before, Cond.holds, Cond.value] at h1 ⊢
  rw [g1, g2] at h1
  rw [e1, e2]
  simp only [g4, Option.bind_some, g5, e5] at h1 ⊢
  exact h1
theorem tq_B.word {T0 : List Cond} {a0 a' : Array Value} {s0 U : State} (h : tq_B T0 a0 s0 U) {w : Cond} (hm : w ∈ T0) (hg : tq_ok w = true) : w.before a' U = true := by
  have hw := h.1 w hm
  have tab : ∀ c : Cond, c.onTables = true → c.keepsFace = true → c.before a0 s0 = true → c.before a' U = true := fun c h1 h2 h3 => by
    have e1 := Cond.before_shiftedFace (State.Shifted.of_warmed h.2.1) c h2 h3
    have e2 := Cond.onTables_vm (A := a') (A' := a0) (U := U) (U' := s0) U.vm c h1
    rw [State.setVm_self] at e2
    rw [e2]; exact e1
  cases w with
  | isRef t =>
    cases t with
    | static C n d => exact tq_isRef h.2.1 h.2.2.2 hw
    | _ => simp [tq_ok, Cond.onTables] at hg
  | laysStatic C n d => exact tq_laysStatic h.2.1 h.2.2.2 hw
  | _ =>
    simp only [tq_ok, Bool.and_eq_true] at hg
    exact tab _ hg.1 hg.2 hw
theorem tq_B.words {T0 ws : List Cond} {a0 a' : Array Value} {s0 U : State} (h : tq_B T0 a0 s0 U) (hs : ws.all (fun w => decide (w ∈ T0) && tq_ok w) = true) : ∀ w ∈ ws, w.before a' U = true := fun w hw => by
  have h1 := List.all_eq_true.mp hs w hw
  simp only [Bool.and_eq_true, decide_eq_true_eq] at h1
  exact h.word h1.1 h1.2
/-- a string constant that the start has resolved -/
theorem tq_B.str {T0 : List Cond} {a0 : Array Value} {s0 U : State} (h : tq_B T0 a0 s0 U) {own tx : String} {k : Nat} (hm : Cond.stringRef own k tx ∈ T0) : ∃ a : Nat, vk_R own k tx a U := by
  have hw := h.1 _ hm
  have hcur : ∃ cur, s0.vm.findClass own = some cur := by
    simp only [Cond.before, Cond.holds, Cond.value] at hw
    cases hc : s0.vm.findClass own with
    | none => simp [hc] at hw
    | some cur => exact ⟨cur, rfl⟩
  obtain ⟨cur, hcur⟩ := hcur
  obtain ⟨-, -, -, a, -, -, -, -, -, hev⟩ := Cond.stringRef_spec hcur hw
  exact ⟨a, vk_R.warm h.2.1 (vk_R.of hw hev)⟩
theorem tq_B.on {T0 : List Cond} {a0 : Array Value} {s0 U V : State} (h : tq_B T0 a0 s0 U) (hW : U.WarmedH V.vm) (hz : U.heap.size ≤ V.heap.size) (hold : ∀ q : Nat, q < U.heap.size → V.heap[q]? = U.heap[q]?) : tq_B T0 a0 s0 V :=
  ⟨h.1, State.WarmedH.trans h.2.1 hW, Nat.le_trans h.2.2.1 hz, fun q hq => by rw [hold q (Nat.lt_of_lt_of_le hq h.2.2.1)]; exact h.2.2.2 q hq⟩
/-! METHODS WITH HANDLERS -/
theorem tq_ofWith {l : Launch} {y : MethodName} {ws ws' : List Cond} {rm : Room} {Pc : Array Value → State → Prop} {Qc : Array Value → State → Outcome → State → Prop} {mc ms : Nat} {free : Addr → Prop} {cc : ByteArray} {maxL : Nat} {ret : Option FieldType} {hs : List (Nat × Nat × Nat × Nat)}
    (hy : plainName y.cls = true) (hw : ws = Cond.codeWith y cc maxL ret hs :: ws')
    (body : ∀ p e s m args below meth c s₁, BodyLoose p l y (headSpec ws rm) cc maxL ret e s m args below meth c s₁ → c.maxLocals = maxL → c.exceptionTable.toList.map (fun h => (h.startPc, h.endPc, h.handlerPc, h.catchType)) = hs → Pc args s →
      W p l e (headSpec ws rm).room s m args below meth c s.heap [] 0 0 (MQ below Qc args s mc ms free) (entryFrame m args maxL)) : Met l y ws rm Pc Qc mc ms free := by
  refine MetFree.of_bodyS (code := cc) (maxLocals := maxL) (ret := ret) hy ?_ ?_
  · intro args s m h hn
    obtain ⟨m', meth, c, hn', h1, h2, h3, h4, -, h5, h6, -⟩ := Cond.codeWith_spec (atoms_spec (ws := ws) h (Cond.codeWith y cc maxL ret hs) (by rw [hw]; exact List.mem_cons_self))
    cases hn.symm.trans hn'
    exact ⟨meth, c, h1, h2, h3, h4, h5, h6⟩
  · intro p e s m args below meth c s₁ B hml hP _
    have hh0 : s₁.heap = s.heap := by rw [B.state]; rfl
    have X₀ := Stand.of_body B
    obtain ⟨m', meth', c', hn', hm', hc', -, -, htab, -, -, -⟩ := Cond.codeWith_spec (atoms_spec (ws := ws) B.pre (Cond.codeWith y cc maxL ret hs) (by rw [hw]; exact List.mem_cons_self))
    cases B.named.symm.trans hn'
    have e1 : meth' = meth := Option.some.inj (hm'.symm.trans X₀.method)
    subst e1
    have e2 : c' = c := Option.some.inj (hc'.symm.trans X₀.code)
    subst e2
    obtain ⟨t, a1, o, b1, b2, b3⟩ := body p e s m args below meth' c' s₁ B hml htab hP s₁ hh0 X₀
    exact ⟨t, o, a1, b1, b2, ⟨b3.1, b3.2⟩⟩
section TW
variable {p : Program} {l : Launch} {e : Env} {R : Room} {s : State} {m : MethodId} {args : Array Value} {below : List Frame} {meth : Method} {c : Code} {H : Heap} {locs : List Loc} {cells slots : Nat}
variable {y : MethodName} {bytes cc : ByteArray} {maxL nL mc ms n index : Nat} {ret : Option FieldType} {ws ws' : List Cond} {rm : Room} {Pc : Array Value → State → Prop} {Qc : Array Value → State → Outcome → State → Prop} {free : Addr → Prop} {Ts : List Cond} {own : String} {As rest : List Value} {g : JFrame} {hs : List (Nat × Nat × Nat × Nat)}
/-- invokestatic of a method with handlers -/
theorem tq_runSW (S : CallFix p m c cc nL s args Ts own) (hM : Met l y ws rm Pc Qc mc ms free) (hG : GoodIn Ts ws) (hw : ws = Cond.codeWith y bytes maxL ret hs :: ws') (hrc : rm.cells = mc) (hrs : rm.slots = ms) (hR : rm.frames + 1 ≤ R.frames ∧ 8 + (maxL + 11) + rm.locals ≤ R.locals)
    (hst : (Cond.static y).before args s = true) (hini : (Cond.initialized y.cls).before args s = true) (hlink : (Cond.methodLink own index y).before args s = true)
    (hd : y.cls ≠ "java/lang/invoke/MethodHandle" ∧ y.cls ≠ "java/lang/invoke/VarHandle" ∧ (parseMethodDescriptor y.desc).map (fun d => d.parameters.length) = some n) (hp : PreS s H Pc As)
    (hg : g.method = m) (hn : As.length = n) (hsize : g.locals.size = nL) (hstack : g.stack = As.reverse ++ rest) (hW : 2 * g.monitorRoom + (rest.map fun v => v.category).sum ≤ 8) (hdg : decode cc g.pc = .ok (.invokestatic index, 3)) (hf : cells + mc ≤ R.cells ∧ slots + ms ≤ R.slots) :
    va_Run p l e R s m args below meth c H locs cells slots mc ms g rest (Qc As.toArray) (free) := by
  obtain ⟨hexec, hb, hml, hown, hts⟩ := S
  have hcw : Cond.codeWith y bytes maxL ret hs ∈ ws := by rw [hw]; exact List.mem_cons_self
  have hws := pay_in hts hG
  have hini' : ∀ (a' : Array Value) (U : State), s.WarmedH U.vm → (Cond.initialized y.cls).before a' U = true := fun a' U hU => word_at hU (Or.inl (by first | rfl | simp [Cond.onTables, Cond.keeps, Cond.steady])) hini
  have hK : Back l R p e below s args y 3 8 (PreOf R mc ms Pc) (PostOf Qc mc ms free) := by
    refine Back.of_freeWith (handlers := hs) (S := headSpec ws rm) (P := Pc) (K := fun _ _ _ _ _ => True) (Q := fun a st o t => Qc a st o t ∧ ∃ L, FrameEnd st o t L mc ms ∧ ∀ q ∈ L, free q.base) (bytes := bytes) (maxL := maxL) (ret := ret)
      (E := fun a st o t L k n => k = mc ∧ n = ms ∧ ∀ q ∈ L, free q.base) hM hR.1 hR.2 ?_ ?_ (fun _ _ _ _ _ _ _ _ _ => trivial) ?_ ?_
    · intro m meth c A a X hp
      exact ⟨atoms_intro fun w hw => hws w hw _ _ X.warmed, hws _ hcw _ _ X.warmed, hini' _ _ X.warmed, by rw [show (headSpec ws rm).room.cells = mc from hrc]; exact hp.1, by rw [show (headSpec ws rm).room.slots = ms from hrs]; exact hp.2.1⟩
    · intro m meth c A a g mk X hp'
      exact hp.1 _ _ _ _ hp'.2.2
    · intro a st o t ⟨hq, L, hF, hL⟩
      exact ⟨L, mc, ms, hF, rfl, rfl, hL⟩
    · intro m meth c A a g mk v t L k n X hp hq hF ⟨e1, e2, hL⟩
      subst e1; subst e2
      exact ⟨g, mk, t, L, rfl, rfl, hq.1, rfl, hL, rfl, rfl⟩
  have hcode := hts _ (hG _ hcw).1
  subst hb
  intro T hT X
  obtain ⟨mk, methM, cM, hnamed, hmethM, -, -, -, -, -, -, hsigM⟩ := Cond.codeWith_spec hcode
  have hstatic : methM.isStatic = true := Cond.static_spec hnamed hmethM hst
  obtain ⟨kP, hkP, -⟩ := className_of_methodNamed hnamed
  have hinitP : kP.init = .initialized := Cond.initialized_spec (findClass_of_methodNamed hnamed) hkP hini
  have hlen : n = methM.sig.parameters.length := by
    have h2 := hd.2.2
    rw [hsigM] at h2
    exact (Option.some.inj h2).symm
  obtain ⟨vm₁, X₁, hstep₁⟩ := X.invokestatic hexec hown hlink hnamed hmethM hstatic hkP hinitP ⟨hd.1, hd.2.1⟩ (g := g) hg (argsL := As) (rest := rest) (hn.trans hlen) hstack hdg
  obtain ⟨v, ⟨U', l2, c2, s2⟩, X', ⟨g', mk', t, L, e1, e2, hq, h1, hL, h2, h3⟩, hsteps⟩ := hK m meth c ⟨T.setVm vm₁, locs, cells, slots⟩ { g with stack := rest } (.invokestatic index) mk As.toArray X₁ hg (hsize.trans hml.symm) hdg hW (X₁.named hnamed) ⟨hf.1, hf.2, hp.2 (T.setVm vm₁) hT X₁.warmed⟩
  dsimp only [Pt.U, Pt.locs, Pt.cells, Pt.slots] at X' e1 e2 h1 h2 h3 hsteps
  subst h1; subst h2; subst h3
  exact ⟨v, (T.setVm vm₁).calling g' mk' As.toArray, t, U', L, hT, X', hL, e1, e2, hq, fun target h => hstep₁ _ fun acts => by rw [doInvoke_state]; exact hsteps.trans h⟩
end TW
end
section
/-! SHORT WORDS for contracts: arrays of ints, booleans and longs have one class each -/
abbrev zTY (cI cZ cJ : ClassId) : List (ClassId × FieldType) := [(cI, .int), (cZ, .boolean), (cJ, .long)]
/-- nothing that was there changes -/
abbrev zN (sz : Nat) : Nat → Prop := fun q => sz ≤ q
/-- the words that contracts rest on: the tables', and three of the start's own -/
def zX : List Cond := [.isRef (.static "java/lang/Throwable" "UNASSIGNED_STACK" "[Ljava/lang/StackTraceElement;"), .isRef (.static "java/lang/Throwable" "SUPPRESSED_SENTINEL" "Ljava/util/List;"), .not (.castable "java/lang/IllegalStateException" "java/lang/IllegalArgumentException")]
def zT : List Cond := tables_1 ++ zX
theorem zm1 {i : Nat} {w : Cond} (h : tables_1_1[i]? = some w) : w ∈ zT := List.mem_append_left _ (List.mem_append_left _ (List.mem_of_getElem? h))
theorem zm2 {i : Nat} {w : Cond} (h : tables_1_2[i]? = some w) : w ∈ zT := List.mem_append_left _ (List.mem_append_right _ (List.mem_append_left _ (List.mem_of_getElem? h)))
theorem zm3 {i : Nat} {w : Cond} (h : tables_1_3[i]? = some w) : w ∈ zT := List.mem_append_left _ (List.mem_append_right _ (List.mem_append_right _ (List.mem_append_left _ (List.mem_of_getElem? h))))
theorem zm4 {i : Nat} {w : Cond} (h : tables_1_4[i]? = some w) : w ∈ zT := List.mem_append_left _ (List.mem_append_right _ (List.mem_append_right _ (List.mem_append_right _ (List.mem_append_left _ (List.mem_of_getElem? h)))))
theorem zm5 {i : Nat} {w : Cond} (h : tables_1_5[i]? = some w) : w ∈ zT := List.mem_append_left _ (List.mem_append_right _ (List.mem_append_right _ (List.mem_append_right _ (List.mem_append_right _ (List.mem_append_left _ (List.mem_of_getElem? h))))))
theorem zm6 {i : Nat} {w : Cond} (h : tables_1_6[i]? = some w) : w ∈ zT := List.mem_append_left _ (List.mem_append_right _ (List.mem_append_right _ (List.mem_append_right _ (List.mem_append_right _ (List.mem_append_right _ (List.mem_of_getElem? h))))))
/-- the start of a contract: the cells ws; a0, s0: the law's own start, whose words are carried along -/
def zP (cl : List vw_C) (dC : Nat → ClassId) (dI : Nat → Nat → Nat) (ty : List (ClassId × FieldType)) (a0 : Array Value) (s0 : State) (av : List Value) (sz : Nat) (ws : va_W) : Array Value → State → Prop :=
  va_Pc av (fun U => U.heap.size = sz ∧ va_P (dC, dI) cl ws U.heap ∧ va_K (dC, dI) cl ty U ∧ va_D (zN s0.heap.size) ws ∧ tq_B zT a0 s0 U)
theorem zP_blind {cl : List vw_C} {dC : Nat → ClassId} {dI : Nat → Nat → Nat} {ty : List (ClassId × FieldType)} {a0 : Array Value} {s0 : State} {av : List Value} {sz : Nat} {ws : va_W} : FrameBlind (zP cl dC dI ty a0 s0 av sz ws) := fun a U g mk q => by
  obtain ⟨q0, q1, qP, qK, qD, qZ⟩ := q
  exact ⟨q0, q1, qP, va_K.moved (u := U) (U := U.calling g mk a) (Vm.Alike.refl U.vm) qK, qD, qZ⟩
theorem zB_on {a0 : Array Value} {s0 s : State} {A : Nat → Prop} {H : Heap} {locs : List Loc} (hB : tq_B zT a0 s0 s) (hA0 : ∀ q, A q → s0.heap.size ≤ q) (hS : va_S A s.heap H locs) : ∀ U : State, U.heap = H → s.WarmedH U.vm → tq_B zT a0 s0 U := fun U hU hW =>
  ⟨hB.1, State.WarmedH.trans hB.2.1 hW, by rw [hU]; exact Nat.le_trans hB.2.2.1 hS.1, fun q hq => by
    rw [hU, hS.2.1 q (Nat.lt_of_lt_of_le hq hB.2.2.1) (fun h => absurd (hA0 q h) (Nat.not_le.mpr hq))]
    exact hB.2.2.2 q hq⟩
theorem zP_pre {cl : List vw_C} {dC : Nat → ClassId} {dI : Nat → Nat → Nat} {ty : List (ClassId × FieldType)} {a0 : Array Value} {s0 : State} {av : List Value} {ws : va_W} {s : State} {H : Heap} {A' : Nat → Prop} (hP : va_P (dC, dI) cl ws H) (hK : va_K (dC, dI) cl ty s) (hD : va_D A' ws) (hA' : ∀ q, A' q → s0.heap.size ≤ q) (hZ : ∀ U : State, U.heap = H → s.WarmedH U.vm → tq_B zT a0 s0 U) :
    ∀ U : State, U.heap = H → s.WarmedH U.vm → zP cl dC dI ty a0 s0 av H.size ws av.toArray U := fun U hU hW =>
  ⟨rfl, by rw [hU], by rw [hU]; exact hP, va_K.moved hW.alike hK, hD.weaken (fun _ _ _ h => hA' _ h), hZ U hU hW⟩
/-- a method's own cells, and those that it makes, lie behind the law's start -/
theorem zA0 {a0 : Array Value} {s0 s : State} {ws : va_W} (hD : va_D (zN s0.heap.size) ws) (hB : tq_B zT a0 s0 s) : ∀ q, va_A ws s.heap.size q → s0.heap.size ≤ q := fun q h => by
  rcases h with ⟨k, e, h⟩ | h
  · exact hD.2 k (q, e) h
  · exact Nat.le_trans hB.2.2.1 h
theorem zA1 {a0 : Array Value} {s0 s : State} (hB : tq_B zT a0 s0 s) : ∀ q, zN s.heap.size q → s0.heap.size ≤ q := fun q h => Nat.le_trans hB.2.2.1 h
/-- a world stays where nothing old changed -/
theorem zKeep {cl : List vw_C} {D : va_G} {ws : va_W} {H H1 : Heap} (hP : va_P D cl ws H) (hk : ∀ q : Nat, q < H.size → H1[q]? = H[q]?) : va_P D cl ws H1 := hP.kept (fun k x hx => hk x.1 ((hP k x hx).lt))
/-- ends: an int, and the world; an int alone; the world alone -/
def zQi (cl : List vw_C) (dC : Nat → ClassId) (dI : Nat → Nat → Nat) (post : Int32 → Prop) (wo : va_W) (A : Nat → Prop) : Array Value → State → Outcome → State → Prop := va_Qi (fun (r : Int32) (_ : Unit) => post r) (fun _ t => va_P (dC, dI) cl wo t.heap ∧ va_D A wo) A
def zQv (cl : List vw_C) (dC : Nat → ClassId) (dI : Nat → Nat → Nat) (wo : va_W) (A : Nat → Prop) : Array Value → State → Outcome → State → Prop := va_Qv (fun (_ : Unit) => True) (fun _ t => va_P (dC, dI) cl wo t.heap ∧ va_D A wo) A
def zQp (post : Int32 → Prop) (sz : Nat) : Array Value → State → Outcome → State → Prop := va_Qi (fun (r : Int32) (_ : Unit) => post r) (fun _ _ => True) (zN sz)
def zQo (sz : Nat) : Array Value → State → Outcome → State → Prop := va_Qv (fun (_ : Unit) => True) (fun _ _ => True) (zN sz)
section ZC
variable {p : Program} {l : Launch} {e : Env} {R : Room} {s : State} {m : MethodId} {args : Array Value} {below : List Frame} {meth : Method} {c : Code} {H : Heap} {locs : List Loc} {cells slots : Nat} {Q : State → Prop}
variable {pc : Nat} {ls : Array Slot} {rest st0 : List Value} {a : Array Value} {A0 : Nat → Prop} {H0 : Heap} {mc ms : Nat} {cl : List vw_C} {dC : Nat → ClassId} {dI : Nat → Nat → Nat}
/-- behind a call that changed nothing old and answers an int -/
theorem zcallp {post : Int32 → Prop} (hr : va_Run p l e R s m args below meth c H locs cells slots mc ms (F0 m pc ls st0) rest (zQp post H.size a) (zN H.size)) (hS : va_S A0 H0 H locs) (hA : ∀ q, H0.size ≤ q → A0 q)
    (kk : ∀ (r : Int32) (H1 : Heap) (locs1 : List Loc), post r → H.size ≤ H1.size → (∀ q : Nat, q < H.size → H1[q]? = H[q]?) → va_S A0 H0 H1 locs1 → W p l e R s m args below meth c H1 locs1 (cells + mc) (slots + ms) Q (F0 m (pc + 3) ls (.int r :: rest))) : W p l e R s m args below meth c H locs cells slots Q (F0 m pc ls st0) := by
  refine va_calli hr hS (fun q h1 h2 => absurd h2 (Nat.not_le.mpr h1)) (fun q h => hA q (Nat.le_trans hS.1 h)) (fun r u t H1 locs1 _ _ hw _ hz hk hS1 => ?_)
  exact kk r H1 locs1 hw hz (fun q hq => hk q hq (Nat.not_le.mpr hq)) hS1
/-- .. and answers nothing -/
theorem zcallo (hr : va_Run p l e R s m args below meth c H locs cells slots mc ms (F0 m pc ls st0) rest (zQo H.size a) (zN H.size)) (hS : va_S A0 H0 H locs) (hA : ∀ q, H0.size ≤ q → A0 q)
    (kk : ∀ (H1 : Heap) (locs1 : List Loc), H.size ≤ H1.size → (∀ q : Nat, q < H.size → H1[q]? = H[q]?) → va_S A0 H0 H1 locs1 → W p l e R s m args below meth c H1 locs1 (cells + mc) (slots + ms) Q (F0 m (pc + 3) ls rest)) : W p l e R s m args below meth c H locs cells slots Q (F0 m pc ls st0) := by
  refine va_callv hr hS (fun q h1 h2 => absurd h2 (Nat.not_le.mpr h1)) (fun q h => hA q (Nat.le_trans hS.1 h)) (fun u t H1 locs1 _ _ _ _ hz hk hS1 => ?_)
  exact kk H1 locs1 hz (fun q hq => hk q hq (Nat.not_le.mpr hq)) hS1
/-- behind a call that has the cells wc and leaves wo: the others stay -/
theorem zcalli {post : Int32 → Prop} {ws wc wr wo : va_W} (hr : va_Run p l e R s m args below meth c H locs cells slots mc ms (F0 m pc ls st0) rest (zQi cl dC dI post wo (va_A wc H.size) a) (va_A wc H.size)) (hP : va_P (dC, dI) cl ws H) (hD : va_D A0 ws) (hS : va_S A0 H0 H locs) (hA : ∀ q, H0.size ≤ q → A0 q)
    (isC isR : List Nat) (hC : isC.map (fun i => ws[i]?) = wc.map some) (hR : isR.map (fun i => ws[i]?) = wr.map some) (hn : va_nd isR = true) (hdis : ∀ i ∈ isR, i ∉ isC)
    (kk : ∀ (r : Int32) (H1 : Heap) (locs1 : List Loc), post r → va_P (dC, dI) cl (wr ++ wo) H1 → va_D A0 (wr ++ wo) → va_S A0 H0 H1 locs1 → W p l e R s m args below meth c H1 locs1 (cells + mc) (slots + ms) Q (F0 m (pc + 3) ls (.int r :: rest))) : W p l e R s m args below meth c H locs cells slots Q (F0 m pc ls st0) := by
  have hF := va_free hD hS hA isC hC
  refine va_calli hr hS (fun q _ h => hF q h) hF (fun r u t H1 locs1 ht _ hw hB hz hk hS1 => ?_)
  obtain ⟨hP1, hD1⟩ := hB
  rw [ht] at hP1
  obtain ⟨hP2, hD2⟩ := va_join hP hD isC isR hC hR hn hdis hk hF hP1 hD1
  exact kk r H1 locs1 hw hP2 hD2 hS1
theorem zcallv {ws wc wr wo : va_W} (hr : va_Run p l e R s m args below meth c H locs cells slots mc ms (F0 m pc ls st0) rest (zQv cl dC dI wo (va_A wc H.size) a) (va_A wc H.size)) (hP : va_P (dC, dI) cl ws H) (hD : va_D A0 ws) (hS : va_S A0 H0 H locs) (hA : ∀ q, H0.size ≤ q → A0 q)
    (isC isR : List Nat) (hC : isC.map (fun i => ws[i]?) = wc.map some) (hR : isR.map (fun i => ws[i]?) = wr.map some) (hn : va_nd isR = true) (hdis : ∀ i ∈ isR, i ∉ isC)
    (kk : ∀ (H1 : Heap) (locs1 : List Loc), va_P (dC, dI) cl (wr ++ wo) H1 → va_D A0 (wr ++ wo) → va_S A0 H0 H1 locs1 → W p l e R s m args below meth c H1 locs1 (cells + mc) (slots + ms) Q (F0 m (pc + 3) ls rest)) : W p l e R s m args below meth c H locs cells slots Q (F0 m pc ls st0) := by
  have hF := va_free hD hS hA isC hC
  refine va_callv hr hS (fun q _ h => hF q h) hF (fun u t H1 locs1 ht _ hw hB hz hk hS1 => ?_)
  obtain ⟨hP1, hD1⟩ := hB
  rw [ht] at hP1
  obtain ⟨hP2, hD2⟩ := va_join hP hD isC isR hC hR hn hdis hk hF hP1 hD1
  exact kk H1 locs1 hP2 hD2 hS1
/-- a new array of ints (booleans, longs) whose class is the known one -/
theorem znew {cc : ByteArray} {A : Nat → Prop} {tys : List (ClassId × FieldType)} {ws : va_W} (hexec : p.tables.exec = Jvm.exec) (hb : c.code = cc) {atype : ArrayType} (harr : (Cond.arrayClass (newarray.typeOf atype)).before args s = true) {ty : FieldType} (hty : newarray.typeOf atype = ty) (hob : ∀ C, ty ≠ .object C) (hK : va_K (dC, dI) cl tys s) (t0 : Nat) {cA : ClassId} (ht : tys[t0]? = some (cA, ty)) (hP : va_P (dC, dI) cl ws H) (hD : va_D A ws) (hS : va_S A H0 H locs) (hA : ∀ q, H0.size ≤ q → A q)
    {n : Int32} {N' : Nat} {a0 : vp_A} (ha : ∀ cA : ClassId, vp_cell cA a0 = arrV cA N' (fun _ => defaultValue ty)) (hn : ¬ n < 0) (hN : n.toNatClampNeg = N') (hbytes : N' * componentBytes ty ≤ 536870912) (hcells : cells + 1 ≤ R.cells) (hslots : slots + N' ≤ R.slots) (hdg : decode cc pc = .ok (.newarray atype, 2))
    (kk : ∀ (q : Nat) (H1 : Heap), va_P (dC, dI) cl (ws ++ [(q, .inl (cA, a0))]) H1 → va_D A (ws ++ [(q, .inl (cA, a0))]) → va_S A H0 H1 locs →
      W p l e R s m args below meth c H1 locs (cells + 1) (slots + N') Q (F0 m (pc + 2) ls (.ref q :: rest))) : W p l e R s m args below meth c H locs cells slots Q (F0 m pc ls (.int n :: rest)) := by
  refine va_newa hexec hb harr hty hK hP hD hS hA ha hn hN hbytes hcells hslots hdg (fun q cB H1 hK1 hP1 hD1 hS1 => ?_)
  have h1 := (hK1.2 tys.length (cB, ty) (by rw [List.getElem?_append_right (Nat.le_refl _), Nat.sub_self]; rfl)).2
  have h2 := (hK.2 t0 _ ht).2
  have e : cB = cA := by
    cases ty with
    | object C => exact absurd rfl (hob C)
    | _ => exact Option.some.inj (h1.symm.trans h2)
  subst e
  exact kk q H1 hP1 hD1 hS1
end ZC
section ZW
variable {R : Room} {s : State} {args : Array Value} {own C : String} {index maxL mc ms : Nat} {y : MethodName} {bytes : ByteArray} {ret : Option FieldType} {rm : Room}
theorem zcb (n : Nat) (hcode : (Cond.code y bytes maxL ret).before args s = true) (hini : (Cond.initialized y.cls).before args s = true) (hl : (Cond.methodLink own index y).before args s = true) (hrc : rm.cells = mc) (hrs : rm.slots = ms)
    (hd : y.cls ≠ "java/lang/invoke/MethodHandle" ∧ y.cls ≠ "java/lang/invoke/VarHandle" ∧ (parseMethodDescriptor y.desc).map (fun d => d.parameters.length) = some n) (hR : rm.frames + 1 ≤ R.frames ∧ 8 + (maxL + 11) + rm.locals ≤ R.locals) : CallB R s args own index y bytes maxL ret [Cond.code y bytes maxL ret] rm mc ms n := by
  refine ⟨hrc, hrs, hR.1, hR.2, fun w hw a' U hW => ?_, List.mem_cons_self, hcode, hini, ⟨hd.1, hd.2.1⟩, fun sig h => ?_, hl⟩
  · rw [List.mem_singleton.mp hw]
    exact word_at hW (Or.inl rfl) hcode
  · have h2 := hd.2.2
    rw [h] at h2
    exact (Option.some.inj h2).symm
theorem zcw (n : Nat) (hcode : (Cond.code y bytes maxL ret).before args s = true) (hini : (Cond.initialized y.cls).before args s = true) (hl : (Cond.methodLink own index y).before args s = true) (hin : (Cond.instanceMethod y).before args s = true) (hse : (Cond.selects C y y).before args s = true) (hrc : rm.cells = mc) (hrs : rm.slots = ms)
    (hd : y.cls ≠ "java/lang/invoke/MethodHandle" ∧ y.cls ≠ "java/lang/invoke/VarHandle" ∧ (parseMethodDescriptor y.desc).map (fun d => d.parameters.length) = some n) (hR : rm.frames + 1 ≤ R.frames ∧ 8 + (maxL + 11) + rm.locals ≤ R.locals) : CallW R s args own C index y bytes maxL ret [Cond.code y bytes maxL ret] rm mc ms n := ⟨zcb n hcode hini hl hrc hrs hd hR, hin, hse⟩
theorem zno {s : State} {args : Array Value} : ∀ w ∈ ([] : List Cond), w.before args s = true := fun _ h => by cases h
theorem zid {ws : List Cond} : ∀ w ∈ ws, w ∈ ws := fun _ h => h
end ZW
end
section
/-! int[n][m]: one instruction makes the outer array and its n rows -/
abbrev mz_row (ci : ClassId) (M : Nat) : Cell := arrV ci M (fun _ => .int 0)
/-- the outer array with its first i rows in place; h: its address -/
abbrev mz_out (c : ClassId) (N h i : Nat) : Cell := arrV c N (fun j => if j < i then .ref (h + 1 + j) else .null)
theorem mz_out_next (c : ClassId) (N h i : Nat) : (mz_out c N h i).setSlot i (.ref (h + 1 + i)) = mz_out c N h (i + 1) := by
  rw [arrV_store]
  congr 1
  funext j
  simp only [updV]
  by_cases e : j = i
  · subst e; simp
  · rw [if_neg e]
    by_cases hj : j < i
    · rw [if_pos hj, if_pos (by omega)]
    · rw [if_neg hj, if_neg (by omega)]
def mz_st (s : State) (c ci : ClassId) (N M : Nat) : Nat → State
  | 0 => s.pushCell (mz_out c N s.heap.size 0)
  | i + 1 => ((mz_st s c ci N M i).pushCell (mz_row ci M)).setCell s.heap.size (mz_out c N s.heap.size (i + 1))
theorem mz_st_facts (s : State) (c ci : ClassId) (N M : Nat) : ∀ i, (mz_st s c ci N M i).heap.size = s.heap.size + 1 + i ∧ (mz_st s c ci N M i).heap[s.heap.size]? = some (mz_out c N s.heap.size i) ∧
    (mz_st s c ci N M i).vm = s.vm ∧ (mz_st s c ci N M i).slotsUsed = s.slotsUsed + N + i * M
  | 0 => ⟨by simp [mz_st], by simp [mz_st], rfl, by simp [mz_st, arrV_size]⟩
  | i + 1 => by
    obtain ⟨a, b, d, u⟩ := mz_st_facts s c ci N M i
    have hlt : s.heap.size < (mz_st s c ci N M i).heap.size := by omega
    have hb' : ((mz_st s c ci N M i).pushCell (mz_row ci M)).heap[s.heap.size]? = some (mz_out c N s.heap.size i) := by rw [State.heap_pushCell_of_lt (h := hlt)]; exact b
    refine ⟨?_, State.heap_setCell_self hb', by simp [mz_st, d], ?_⟩
    · simp [mz_st, State.setCell, a]; omega
    · simp [mz_st, u, arrV_size, Nat.succ_mul]; omega
theorem mz_st_setTop (s : State) (f : JFrame) (c ci : ClassId) (N M : Nat) : ∀ i, mz_st (s.setTop f) c ci N M i = (mz_st s c ci N M i).setTop f
  | 0 => rfl
  | i + 1 => by simp only [mz_st, mz_st_setTop s f c ci N M i, State.heap_setTop, State.pushCell_setTop, State.setCell_setTop]
theorem mz_st_old (s : State) (c ci : ClassId) (N M : Nat) {a : Addr} (ha : a < s.heap.size) : ∀ i, (mz_st s c ci N M i).heap[a]? = s.heap[a]?
  | 0 => State.heap_pushCell_of_lt _ _ ha
  | i + 1 => by
    have f1 := (mz_st_facts s c ci N M i).1
    have hlt : a < (mz_st s c ci N M i).heap.size := Nat.lt_of_lt_of_le ha (by rw [f1]; omega)
    show (((mz_st s c ci N M i).pushCell (mz_row ci M)).setCell s.heap.size _).heap[a]? = _
    rw [State.heap_setCell_other (Nat.ne_of_gt ha), State.heap_pushCell_of_lt (h := hlt)]
    exact mz_st_old s c ci N M ha i
theorem mz_st_row (s : State) (c ci : ClassId) (N M : Nat) : ∀ i j, j < i → (mz_st s c ci N M i).heap[s.heap.size + 1 + j]? = some (mz_row ci M)
  | 0, _, h => absurd h (Nat.not_lt_zero _)
  | i + 1, j, h => by
    have f1 := (mz_st_facts s c ci N M i).1
    show (((mz_st s c ci N M i).pushCell (mz_row ci M)).setCell s.heap.size _).heap[s.heap.size + 1 + j]? = _
    rw [State.heap_setCell_other (show s.heap.size ≠ s.heap.size + 1 + j by omega)]
    rcases Nat.lt_or_ge j i with hj | hj
    · have hlt : s.heap.size + 1 + j < (mz_st s c ci N M i).heap.size := by rw [f1]; omega
      rw [State.heap_pushCell_of_lt (h := hlt)]
      exact mz_st_row s c ci N M i j hj
    · have e : j = i := by omega
      subst e
      rw [← f1]
      exact State.heap_pushCell_size _ _
section MZ
variable {E : CtlPost} {e : Env} {d : Bool} {acts : List Action} {s : State}
theorem mz_newArray {c comp : ClassId} {k : Class} {type : FieldType} {len : Nat} {init : Value} (hk : s.vm.classes[c]? = some k) (hkind : k.kind = .array comp type)
    (hlimit : ¬ len > e.platform.arrayLengthLimit) (hheap : ¬ len * componentBytes type > e.platform.maxHeapBytes) (hfit : fits type init = true) (hdef : init.isDefault = true) {Q : Addr → Pre}
    (h1 : s.heap.size < e.platform.maxCells) (h2 : s.slotsUsed + len ≤ e.platform.maxSlots)
    (hq : Q s.heap.size d acts (s.pushCell (arrV c len (fun _ => init)))) :
    wp (Jvm.newArray c len init) Q E e d acts s := by
  have hfits : ∀ i v, (Array.replicate len init)[i]? = some v → s.fitsSlot c .none i v = true := by
    intro i v hv
    simp only [Array.getElem?_replicate] at hv
    split at hv
    · cases hv; simp [State.fitsSlot, State.slotType?, hk, hkind, hfit]
    · cases hv
  have hda : allocActs (Array.replicate len init) s.heap.size acts = acts := by
    have hall : ((Array.replicate len init).all (·.isDefault)) = true := by
      rw [Array.all_replicate]; split <;> simp [hdef]
    unfold allocActs; rw [if_pos hall]
  simp only [Jvm.newArray, Jvm.arrayFits, wp_bind', W.ask, W.ite, hlimit, if_false, wp_pure', W.theClass, hk, hkind, hheap, W.alloc, W.stop, Option.some.injEq, exists_eq_left', Array.size_replicate, hda]
  rw [if_neg (by omega)]
  rw [← arrV_new] at hq
  exact ⟨h1, h2, hfits, hq⟩
theorem mz_make1 {ci cc : ClassId} {kc : Class} {m : Int32} (hkc : s.vm.classes[ci]? = some kc) (hkindc : kc.kind = .array cc .int) (hm : ¬ m < 0)
    (hl2 : ¬ m.toNatClampNeg > e.platform.arrayLengthLimit) (hh2 : ¬ m.toNatClampNeg * componentBytes .int > e.platform.maxHeapBytes)
    (h1 : s.heap.size < e.platform.maxCells) (h2 : s.slotsUsed + m.toNatClampNeg ≤ e.platform.maxSlots)
    {Q : Addr → Pre} (hq : Q s.heap.size d acts (s.pushCell (mz_row ci m.toNatClampNeg))) :
    wp (Op.multianewarray.make ci [m]) Q E e d acts s := by
  rw [Op.multianewarray.make]
  simp only [wp_bind', W.ite, hm, if_false, wp_pure', W.theClass, hkc, hkindc, Option.some.injEq, exists_eq_left']
  exact mz_newArray hkc hkindc hl2 hh2 rfl rfl h1 h2 hq
theorem mz_make2 {c ci cc : ClassId} {k kc : Class} {n m : Int32} (hk : s.vm.classes[c]? = some k) (hkind : k.kind = .array ci (.array .int))
    (hkc : s.vm.classes[ci]? = some kc) (hkindc : kc.kind = .array cc .int) (hn : ¬ n < 0) (hm : ¬ m < 0)
    (hl1 : ¬ n.toNatClampNeg > e.platform.arrayLengthLimit) (hh1 : ¬ n.toNatClampNeg * componentBytes (.array .int) > e.platform.maxHeapBytes)
    (hl2 : ¬ m.toNatClampNeg > e.platform.arrayLengthLimit) (hh2 : ¬ m.toNatClampNeg * componentBytes .int > e.platform.maxHeapBytes)
    (hc : s.heap.size + 1 + n.toNatClampNeg ≤ e.platform.maxCells) (hs : s.slotsUsed + n.toNatClampNeg + n.toNatClampNeg * m.toNatClampNeg ≤ e.platform.maxSlots)
    {Q : Addr → Pre} (hq : ∀ d' acts', Q s.heap.size d' acts' (mz_st s c ci n.toNatClampNeg m.toNatClampNeg n.toNatClampNeg)) :
    wp (Op.multianewarray.make c [n, m]) Q E e d acts s := by
  have hfind : ([m].find? (· < 0)) = none := by simp [hm]
  rw [Op.multianewarray.make]
  simp only [wp_bind', W.ite, hn, if_false, wp_pure', W.theClass, hk, hkind, Option.some.injEq, exists_eq_left']
  refine mz_newArray hk hkind hl1 hh1 rfl rfl (by omega) (by have := Nat.zero_le (n.toNatClampNeg * m.toNatClampNeg); omega) ?_
  simp only [hfind]
  rw [ite_self, wp_bind', Std.Legacy.Range.forIn_eq_forIn_range']
  have hsz : ([:n.toNatClampNeg] : Std.Legacy.Range).size = n.toNatClampNeg := by simp [Std.Legacy.Range.size]
  rw [hsz]
  show wp (forIn (List.range' 0 n.toNatClampNeg 1) PUnit.unit _) _ E e d acts _
  refine wp_forIn_inv (fun rest s' => ∃ i, i ≤ n.toNatClampNeg ∧ rest = List.range' i (n.toNatClampNeg - i) ∧ s' = mz_st s c ci n.toNatClampNeg m.toNatClampNeg i) _ _ ⟨0, Nat.zero_le _, rfl, rfl⟩ ?_ ?_
  · rintro x rest s' d' acts' Q' ⟨i, hi, hl, rfl⟩ hnext
    have hlt : i < n.toNatClampNeg := by
      rcases Nat.lt_or_ge i n.toNatClampNeg with h | h
      · exact h
      · rw [show n.toNatClampNeg - i = 0 from by omega] at hl; simp at hl
    obtain ⟨rfl, hrest⟩ : x = i ∧ rest = List.range' (i + 1) (n.toNatClampNeg - (i + 1)) := by
      rw [show n.toNatClampNeg - i = (n.toNatClampNeg - (i + 1)) + 1 from by omega, List.range'_succ] at hl
      exact ⟨(List.cons.inj hl).1, (List.cons.inj hl).2⟩
    obtain ⟨f1, f2, f3, f4⟩ := mz_st_facts s c ci n.toNatClampNeg m.toNatClampNeg x
    have o3 : (mz_out c n.toNatClampNeg s.heap.size x).slots.size = n.toNatClampNeg := arrV_size _ _ _
    have hmul : x * m.toNatClampNeg + m.toNatClampNeg ≤ n.toNatClampNeg * m.toNatClampNeg := by
      have := Nat.mul_le_mul_right m.toNatClampNeg (show x + 1 ≤ n.toNatClampNeg from hlt)
      rw [Nat.succ_mul] at this; exact this
    simp only [wp_bind']
    refine mz_make1 (by rw [f3]; exact hkc) hkindc hm hl2 hh2 (by rw [f1]; omega) (by rw [f4]; omega) ?_
    have hlt0 : s.heap.size < (mz_st s c ci n.toNatClampNeg m.toNatClampNeg x).heap.size := by rw [f1]; omega
    simp only [wp_bind', W.writeLoc, wp_pure']
    refine ⟨mz_out c n.toNatClampNeg s.heap.size x, by rw [State.heap_pushCell_of_lt (h := hlt0)]; exact f2, (fun q => by cases q), (by rw [o3]; exact hlt), ?_, hnext _ _ _ ⟨x + 1, hlt, hrest, ?_⟩⟩
    · show State.fitsSlot _ c .none _ _ = true
      simp [State.fitsSlot, State.slotType?, f3, hk, hkind, fits]
    · rw [f1, mz_out_next]; rfl
  · rintro s' d' acts' ⟨i, hi, hl, rfl⟩
    have hiN : i = n.toNatClampNeg := by
      rcases Nat.lt_or_ge i n.toNatClampNeg with h | h
      · rw [show n.toNatClampNeg - i = (n.toNatClampNeg - (i + 1)) + 1 from by omega, List.range'_succ] at hl; cases hl
      · omega
    subst hiN
    simp only [wp_pure']
    exact hq _ _
end MZ
theorem mz_over {args : Array Value} {s : State} (h : (Cond.arrayOver (.array .int)).before args s = true) :
    ∃ ci c k, s.vm.findClass (FieldType.array .int).toString = some ci ∧ s.vm.classes[c]? = some k ∧ k.kind = .array ci (.array .int) ∧ s.vm.findClass ("[" ++ (FieldType.array .int).toString) = some c := by
  simp only [Cond.before, Cond.holds, Cond.value, beq_iff_eq] at h
  cases hc : s.vm.findClass (FieldType.array .int).toString with
  | none => simp [hc] at h
  | some comp =>
    simp only [hc, Option.bind_some, Option.bind_eq_some_iff, Option.map_eq_some_iff] at h
    obtain ⟨c, hi, k, hk, hb⟩ := h
    obtain ⟨hlt, hp, -⟩ := Array.findIdx?_eq_some_iff_getElem.mp hi
    have hkk : s.vm.classes[c] = k := (Array.getElem?_eq_some_iff.mp hk).2
    rw [hkk] at hp
    cases hkind : k.kind with
    | array component ty =>
      rw [hkind] at hb hp
      simp at hb hp
      exact ⟨comp, c, k, rfl, hk, by rw [hkind, hp, hb.1], hb.2⟩
    | _ => rw [hkind] at hb; simp at hb
section MZS
variable {p : Program} {l : Launch} {e : Env} {R : Room} {s : State} {m : MethodId} {args : Array Value} {below : List Frame} {meth : Method} {c : Code} {T : State} {H : Heap} {locs : List Loc} {cells slots : Nat} {Q : State → Prop}
theorem mz_stand (X : Stand p l e R s m args below meth c T locs cells slots) (cA ci : ClassId) (N M : Nat) :
    ∀ i, Stand p l e R s m args below meth c (mz_st T cA ci N M i) (locs ++ (List.range i).map fun j => (⟨T.heap.size, j⟩ : Loc)) (cells + 1 + i) (slots + N + i * M)
  | 0 => by
    have h := X.pushed (mz_out cA N T.heap.size 0)
    rw [arrV_size] at h
    simpa [mz_st] using h
  | i + 1 => by
    have Xi := mz_stand X cA ci N M i
    obtain ⟨f1, f2, f3, f4⟩ := mz_st_facts T cA ci N M i
    have hlt0 : T.heap.size < (mz_st T cA ci N M i).heap.size := by rw [f1]; omega
    have hcell : ((mz_st T cA ci N M i).pushCell (mz_row ci M)).heap[T.heap.size]? = some (mz_out cA N T.heap.size i) := by rw [State.heap_pushCell_of_lt (h := hlt0)]; exact f2
    have h := (Xi.pushed (mz_row ci M)).stored hcell i (.ref (T.heap.size + 1 + i))
    rw [mz_out_next, arrV_size] at h
    have e2 : (locs ++ (List.range (i + 1)).map fun j => (⟨T.heap.size, j⟩ : Loc)) = (locs ++ (List.range i).map fun j => (⟨T.heap.size, j⟩ : Loc)) ++ [⟨T.heap.size, i⟩] := by simp [List.range_succ, List.append_assoc]
    have e3 : slots + N + (i + 1) * M = slots + N + i * M + M := by rw [Nat.succ_mul]; omega
    rw [e2, e3]
    exact h
theorem mz_new {cc : ByteArray} {pc index N M : Nat} {ls : Array Slot} {rest : List Value} {own : String} {n k : Int32} (hexec : p.tables.exec = Jvm.exec) (hb : c.code = cc) (hown : s.vm.findClass own = some m.cls)
    (hclink : (Cond.classLink own index ("[" ++ (FieldType.array .int).toString)).before args s = true) (hover : ∃ ci c k, s.vm.findClass (FieldType.array .int).toString = some ci ∧ s.vm.classes[c]? = some k ∧ k.kind = .array ci (.array .int) ∧ s.vm.findClass ("[" ++ (FieldType.array .int).toString) = some c) (harr : (Cond.arrayClass .int).before args s = true)
    (hn : ¬ n < 0) (hk : ¬ k < 0) (hN : n.toNatClampNeg = N) (hM : k.toNatClampNeg = M) (hb1 : N * 4 ≤ 536870912) (hb2 : M * 4 ≤ 536870912)
    (hcells : cells + (1 + N) ≤ R.cells) (hslots : slots + (N + N * M) ≤ R.slots) (hdg : decode cc pc = .ok (.multianewarray index 2, 4))
    (kk : ∀ (H1 : Heap) (cA ci : ClassId), s.vm.findClass (FieldType.array .int).toString = some ci → ArrOfT s cA (.array .int) → ArrOfT s ci .int → H1.size = H.size + 1 + N → (∀ q : Nat, q < H.size → H1[q]? = H[q]?) →
      H1[H.size]? = some (arrV cA N (fun j => .ref (H.size + 1 + j))) → (∀ j : Nat, j < N → H1[H.size + 1 + j]? = some (arrV ci M (fun _ => .int 0))) →
      W p l e R s m args below meth c H1 (locs ++ (List.range N).map fun j => (⟨H.size, j⟩ : Loc)) (cells + 1 + N) (slots + N + N * M) Q (F0 m (pc + 4) ls (.ref H.size :: rest))) :
    W p l e R s m args below meth c H locs cells slots Q (F0 m pc ls (.int k :: .int n :: rest)) := by
  subst hN; subst hM
  intro T hT X
  subst hT
  subst hb
  have hpl : e.platform.magicAccessors = ({} : Platform).magicAccessors := by rw [X.admits.platform]
  obtain ⟨ci, cA, kA, hcomp, hkA, hkindA, hnameA⟩ := hover
  obtain ⟨ci', kC, cc0, hcomp', hkC, hkindC⟩ := Cond.arrayClass_spec harr
  have ecomp : ci' = ci := Option.some.inj (hcomp'.symm.trans hcomp)
  subst ecomp
  obtain ⟨c0, hfc0, hcl⟩ := Cond.classLink_spec hown hclink e.platform hpl
  cases hnameA.symm.trans hfc0
  obtain ⟨hg₁, hwarm₁, hready₁⟩ := State.classEntry (e := e) X.warmed hcl
  generalize T.vm.noted m.cls index (.cls cA) = vm₁ at hg₁ hwarm₁ hready₁
  have hal : s.vm.Alike vm₁ := hwarm₁.alike
  obtain ⟨kA₁, hkA₁, heA⟩ := hal.2.2 _ _ hkA
  obtain ⟨kC₁, hkC₁, heC⟩ := hal.2.2 _ _ hkC
  have hkindA₁ : kA₁.kind = .array ci' (.array .int) := by rw [heA]; exact hkindA
  have hkindC₁ : kC₁.kind = .array cc0 .int := by rw [heC]; exact hkindC
  have X₁ := X.noted hwarm₁
  obtain ⟨hr1, hr2⟩ := X.roomAbove hcells hslots
  have XF := mz_stand X₁ cA ci' n.toNatClampNeg k.toNatClampNeg n.toNatClampNeg
  obtain ⟨f1, f2, f3, f4⟩ := mz_st_facts (T.setVm vm₁) cA ci' n.toNatClampNeg k.toNatClampNeg n.toNatClampNeg
  have eout : mz_out cA n.toNatClampNeg T.heap.size n.toNatClampNeg = arrV cA n.toNatClampNeg (fun j => .ref (T.heap.size + 1 + j)) := by
    unfold mz_out arrV
    congr 1
    apply Array.ext
    · simp
    · intro j h1 h2
      have : j < n.toNatClampNeg := by simpa using h1
      simp [this]
  obtain ⟨t, a1, b1⟩ := kk (mz_st (T.setVm vm₁) cA ci' n.toNatClampNeg k.toNatClampNeg n.toNatClampNeg).heap cA ci' hcomp (fun n z => ⟨fun k h => (by cases h), kA, hkA, ci', hkindA⟩) (fun n z => ⟨fun k h => (by cases h), kC, hkC, cc0, hkindC⟩)
    f1 (fun q hq => mz_st_old (T.setVm vm₁) cA ci' _ _ hq _) (by rw [← eout]; exact f2) (fun j hj => mz_st_row (T.setVm vm₁) cA ci' _ _ _ j hj) _ rfl XF
  refine ⟨t, ?_, b1⟩
  have hl1 : ¬ n.toNatClampNeg > e.platform.arrayLengthLimit := by rw [Launch.admits_arrayLengthLimit X.admits]; omega
  have hh1 : ¬ n.toNatClampNeg * componentBytes (.array .int) > e.platform.maxHeapBytes := by
    rw [Launch.admits_maxHeapBytes X.admits]; show ¬ n.toNatClampNeg * 4 > 536870912; omega
  have hl2 : ¬ k.toNatClampNeg > e.platform.arrayLengthLimit := by rw [Launch.admits_arrayLengthLimit X.admits]; omega
  have hh2 : ¬ k.toNatClampNeg * componentBytes .int > e.platform.maxHeapBytes := by
    rw [Launch.admits_maxHeapBytes X.admits]; show ¬ k.toNatClampNeg * 4 > 536870912; omega
  jvm_step X.here [hexec, hdg]
  simp only [Op.multianewarray.sem, wp_bind', W.resolveClassAt_links (State.method?_setTop (F0 m pc ls (.int k :: .int n :: rest)) X.here.top) hg₁]
  rw [W.popN, if_neg (by decide)]
  refine ⟨F0 m pc ls (.int k :: .int n :: rest), State.topJava?_setTop' (s := T.setVm vm₁) (F0 m pc ls (.int k :: .int n :: rest)) X.here.top, [.int n, .int k], rest, rfl, rfl, ?_⟩
  simp only [List.mapM_cons, List.mapM_nil, wp_bind', wp_pure']
  refine mz_make2 (k := kA₁) (kc := kC₁) (ci := ci') (cc := cc0) hkA₁ hkindA₁ hkC₁ hkindC₁ hn hk hl1 hh1 hl2 hh2 (by show T.heap.size + 1 + _ ≤ _; omega) (by show T.slotsUsed + _ + _ ≤ _; omega) (fun d' acts' => ?_)
  have eS : ((T.setTop (F0 m pc ls (.int k :: .int n :: rest))).setVm vm₁).setTop { (F0 m pc ls (.int k :: .int n :: rest)) with stack := rest } = (T.setVm vm₁).setTop { (F0 m pc ls (.int k :: .int n :: rest)) with stack := rest } := by
    show ((T.setVm vm₁).setTop (F0 m pc ls (.int k :: .int n :: rest))).setTop _ = _
    rw [State.setTop_setTop]
  rw [eS, mz_st_setTop]
  simp only [wp_bind', W.mark, W.pushRef, State.topJava?_setTop' _ XF.here.top, Option.some.injEq, exists_eq_left', State.setTop_setTop, State.heap_setTop]
  intro acts
  simp [jvm, XF.here.top]
  exact a1
end MZS
end
section
/-! rows that the walks use: words that are no words on tables alone; a thrown call passed on or caught; worlds that a callee makes -/
theorem zac {a0 args : Array Value} {s0 s : State} (hB : tq_B zT a0 s0 s) {ty : FieldType} (hm : Cond.arrayClass ty ∈ zT) : (Cond.arrayClass ty).before args s = true := word_at hB.2.1 (Or.inr ⟨_, rfl⟩) (hB.1 _ hm)
theorem znest {a0 : Array Value} {s0 s : State} (hB : tq_B zT a0 s0 s) {own host : String} {index : Nat} {y : MethodName} (hm : Cond.methodLinkNest own index y host ∈ zT) : va_Nw (.methodLinkNest own index y host) s := va_Nw.warmM hB.2.1 (va_Nw.of rfl (hB.1 _ hm))
theorem zover {a0 : Array Value} {s0 s : State} (hB : tq_B zT a0 s0 s) (hm : Cond.arrayOver (.array .int) ∈ zT) : ∃ ci c k, s.vm.findClass (FieldType.array .int).toString = some ci ∧ s.vm.classes[c]? = some k ∧ k.kind = .array ci (.array .int) ∧ s.vm.findClass ("[" ++ (FieldType.array .int).toString) = some c := by
  obtain ⟨ci, c, k, h1, h2, h3, h4⟩ := mz_over (hB.1 _ hm)
  have hal := hB.2.1.alike
  obtain ⟨k', hk', he⟩ := hal.2.2 _ _ h2
  exact ⟨ci, c, k', by rw [hal.findClass]; exact h1, hk', by rw [he]; exact h3, by rw [hal.findClass]; exact h4⟩
theorem zfit {args : Array Value} {s : State} {X Y : String} (h : (Cond.castable X Y).before args s = true) : ∀ cX cT, s.vm.findClass X = some cX → s.vm.findClass Y = some cT → s.vm.assignable cX cT = true := fun cX cT h1 h2 => by
  simp only [Cond.before, Cond.holds, Cond.value, h1, h2] at h
  simpa using h
theorem znofit {a0 : Array Value} {s0 s : State} {X Y : String} (hB : tq_B zT a0 s0 s) (hm : Cond.not (.castable X Y) ∈ zT) : ∀ cX cT, s.vm.findClass X = some cX → s.vm.findClass Y = some cT → s.vm.assignable cX cT = false := fun cX cT h1 h2 => by
  have hal := hB.2.1.alike
  rw [hal.findClass] at h1 h2
  have h := hB.1 _ hm
  have hv := Cond.holds_not_iff.mp h
  simp only [Cond.value, h1, h2] at hv
  rw [hal.assignable]
  exact Option.some.inj hv
theorem zsel1 {args : Array Value} {s : State} {own X nm : String} {pc hp a b t : Nat} {hs : List (Nat × Nat × Nat × Nat)} (h : a ≤ pc ∧ pc < b) (h0 : t ≠ 0) (hl : (Cond.classLink own t nm).before args s = true) (hfit : ∀ cX cT, s.vm.findClass X = some cX → s.vm.findClass nm = some cT → s.vm.assignable cX cT = true) : tq_Sel args s own pc X hp ((a, b, hp, t) :: hs) := by
  simp only [tq_Sel]
  rw [if_pos h]
  exact ⟨h0, nm, hl, Or.inl ⟨hfit, by trivial⟩⟩
theorem zsel2 {args : Array Value} {s : State} {own X nm : String} {pc hp a b c t : Nat} {hs : List (Nat × Nat × Nat × Nat)} (h : a ≤ pc ∧ pc < b) (h0 : t ≠ 0) (hl : (Cond.classLink own t nm).before args s = true) (hno : ∀ cX cT, s.vm.findClass X = some cX → s.vm.findClass nm = some cT → s.vm.assignable cX cT = false) (hr : tq_Sel args s own pc X hp hs) : tq_Sel args s own pc X hp ((a, b, c, t) :: hs) := by
  simp only [tq_Sel]
  rw [if_pos h]
  exact ⟨h0, nm, hl, Or.inr ⟨hno, hr⟩⟩
/-- an end with a world that the method chose -/
def zQw (cl : List vw_C) (dC : Nat → ClassId) (dI : Nat → Nat → Nat) (Bw : va_W → Prop) (A : Nat → Prop) : Array Value → State → Outcome → State → Prop := va_Qv Bw (fun wo t => va_P (dC, dI) cl wo t.heap ∧ va_D A wo) A
section ZR
variable {p : Program} {l : Launch} {e : Env} {R : Room} {s : State} {m : MethodId} {args : Array Value} {below : List Frame} {meth : Method} {c : Code} {H : Heap} {locs : List Loc} {cells slots : Nat} {Q : State → Prop}
variable {pc : Nat} {ls : Array Slot} {rest st0 : List Value} {a : Array Value} {A0 : Nat → Prop} {H0 : Heap} {mc ms : Nat} {cl : List vw_C} {dC : Nat → ClassId} {dI : Nat → Nat → Nat}
theorem zcallw {Bw : va_W → Prop} {ws wc wr : va_W} (hr : va_Run p l e R s m args below meth c H locs cells slots mc ms (F0 m pc ls st0) rest (zQw cl dC dI Bw (va_A wc H.size) a) (va_A wc H.size)) (hP : va_P (dC, dI) cl ws H) (hD : va_D A0 ws) (hS : va_S A0 H0 H locs) (hA : ∀ q, H0.size ≤ q → A0 q)
    (isC isR : List Nat) (hC : isC.map (fun i => ws[i]?) = wc.map some) (hR : isR.map (fun i => ws[i]?) = wr.map some) (hn : va_nd isR = true) (hdis : ∀ i ∈ isR, i ∉ isC)
    (kk : ∀ (wo : va_W) (H1 : Heap) (locs1 : List Loc), Bw wo → va_P (dC, dI) cl (wr ++ wo) H1 → va_D A0 (wr ++ wo) → va_S A0 H0 H1 locs1 → W p l e R s m args below meth c H1 locs1 (cells + mc) (slots + ms) Q (F0 m (pc + 3) ls rest)) : W p l e R s m args below meth c H locs cells slots Q (F0 m pc ls st0) := by
  have hF := va_free hD hS hA isC hC
  refine va_callv hr hS (fun q _ h => hF q h) hF (fun wo t H1 locs1 ht _ hw hB hz hk hS1 => ?_)
  obtain ⟨hP1, hD1⟩ := hB
  rw [ht] at hP1
  obtain ⟨hP2, hD2⟩ := va_join hP hD isC isR hC hR hn hdis hk hF hP1 hD1
  exact kk wo H1 locs1 hw hP2 hD2 hS1
/-- the callee throws an X, and there is no handler here -/
theorem zpass {X : String} {k0 n0 : Nat} (hr : tq_Run p l e R s m args below meth c H locs cells slots mc ms (F0 m pc ls st0) rest (tq_Q X a) (zN H.size)) (htab : c.exceptionTable.toList = []) (hlocks : meth.locks = false) (hS : va_S (zN s.heap.size) s.heap H locs) (hk : cells + mc ≤ k0) (hn : slots + ms ≤ n0) :
    W p l e R s m args below meth c H locs cells slots (tq_MQ below (tq_Q X) args s k0 n0 (zN s.heap.size)) (F0 m pc ls st0) := by
  refine tq_pass hr rfl rfl rfl htab hlocks hk hn (fun x st₀ t u h0 hQ _ e1 e2 => ?_) (fun q hq => hS.2.2 q hq) (fun q hq => Nat.le_trans hS.1 hq)
  obtain ⟨⟨ce, g1, g2, g3⟩, hz, hk⟩ := hQ
  rw [h0] at hz hk
  refine ⟨⟨ce, by rw [e1]; exact g1, g2, by rw [e2]; exact g3⟩, by rw [e1]; exact Nat.le_trans hS.1 hz, fun q hq => ?_⟩
  rw [e1, hk q (Nat.lt_of_lt_of_le hq hS.1)]
  exact hS.2.1 q hq (Nat.not_le.mpr hq)
/-- 'throw new X(text)' where nothing old has changed; the contract's numbers -/
theorem zthrow {cc : ByteArray} {ik ix ic q : Nat} {own X tx : String} {k0 n0 : Nat} (hfl : l.flags = Jvm.pinnedFlags ++ [Jvm.noTraceFlag]) (hexec : p.tables.exec = Jvm.exec) (hb : c.code = cc) (hown : s.vm.findClass own = some m.cls)
    (hclink : (Cond.classLink own ik X).before args s = true) (hinit : (Cond.initialized X).before args s = true) (hZ : vk_R own ix tx q s) (hX : Bundle.fit X = true)
    (hat : ∀ a ∈ Bundle.ownAtoms own ic X ["java/lang/RuntimeException", "java/lang/Exception"], a.before args s = true)
    (hsz : ls.size = c.maxLocals) (htab : c.exceptionTable.toList = []) (hlocks : meth.locks = false)
    (d0 : decode cc pc = .ok (.new ik, 3)) (d3 : decode cc (pc + 3) = .ok (.dup, 1)) (d4 : decode cc (pc + 4) = .ok (.ldc ix, 2)) (d6 : decode cc (pc + 6) = .ok (.invokespecial ic, 3)) (d9 : decode cc (pc + 9) = .ok (.athrow, 1))
    (hfr : 6 ≤ R.frames) (hlo : 90 ≤ R.locals) (hce : cells + 1 ≤ R.cells) (hsl : slots + 6 ≤ R.slots) (hS : va_S (zN s.heap.size) s.heap H locs) (hk : cells + 1 = k0) (hn : slots + 6 = n0) :
    W p l e R s m args below meth c H locs cells slots (tq_MQ below (tq_Q X) args s k0 n0 (zN s.heap.size)) (F0 m pc ls []) := by
  subst hk; subst hn
  refine va_forget (fun q hq => hS.2.2 q hq) ?_
  intro T hT X0
  exact tq_throw hexec hb (Launch.traces_off hfl X0.admits) hown hclink hinit hZ hX hat hsz htab hlocks d0 d3 d4 d6 d9 hfr hlo hce hsl hS.1 (fun q hq => hS.2.1 q hq (Nat.not_le.mpr hq)) T hT X0
end ZR
end
section
def T_RG : u_T := fun k => match k with
  | 0 => ("RingGuard", "plan", "LRingGuard$Plan;", true)
  | 1 => ("RingGuard", "wires", "LRingGuard$Wires;", true)
  | 2 => ("RingGuard", "tables", "LRingGuard$Tables;", true)
  | 3 => ("RingGuard", "protocol", "LRingGuard$Protocol;", true)
  | 4 => ("RingGuard", "frames", "LRingGuard$Frames;", true)
  | 5 => ("RingGuard", "groups", "LRingGuard$Groups;", true)
  | 6 => ("RingGuard", "started", "Z", false)
  | 7 => ("RingGuard", "ticksInAll", "I", false)
  | 8 => ("RingGuard", "calmTicks", "I", false)
  | 9 => ("RingGuard", "stirsSeen", "I", false)
  | 10 => ("RingGuard", "circleNow", "Z", false)
  | 11 => ("RingGuard", "circleCount", "I", false)
  | _ => ("RingGuard", "apartCount", "I", false)
def ty_RG : Nat → FieldType := fun k => match k with
  | 0 => .object "RingGuard$Plan"
  | 1 => .object "RingGuard$Wires"
  | 2 => .object "RingGuard$Tables"
  | 3 => .object "RingGuard$Protocol"
  | 4 => .object "RingGuard$Frames"
  | 5 => .object "RingGuard$Groups"
  | 6 => .boolean
  | 7 => .int
  | 8 => .int
  | 9 => .int
  | 10 => .boolean
  | 11 => .int
  | _ => .int
theorem nm_RG : ∀ a, a < 13 → ∀ b, b < 13 → a ≠ b → (T_RG a).2.1 ≠ (T_RG b).2.1 := by decide +kernel
theorem ok_RG : ∀ k, k < 13 → parseFieldDescriptor (T_RG k).2.2.1 = some (ty_RG k) := by decide +kernel
theorem zd_RG : ∀ j, j < 13 → defaultValue (ty_RG j) = vp_V [.null, .null, .null, .null, .null, .null, .int 0, .int 0, .int 0, .int 0, .int 0, .int 0, .int 0] j := by decide +kernel
theorem zU_RG : (u_ws "RingGuard" T_RG 13).all (fun w => decide (w ∈ zT) && tq_ok w) = true := by decide +kernel
def T_PL : u_T := fun k => match k with
  | 0 => ("RingGuard$Plan", "bridgeCount", "I", false)
  | 1 => ("RingGuard$Plan", "linkCount", "I", false)
  | 2 => ("RingGuard$Plan", "firstOf", "[I", true)
  | 3 => ("RingGuard$Plan", "secondOf", "[I", true)
  | 4 => ("RingGuard$Plan", "ringOf", "[I", true)
  | 5 => ("RingGuard$Plan", "ownerBridge", "[I", true)
  | 6 => ("RingGuard$Plan", "ownerLink", "[I", true)
  | 7 => ("RingGuard$Plan", "placeOf", "[I", true)
  | 8 => ("RingGuard$Plan", "ownerPort", "[I", true)
  | 9 => ("RingGuard$Plan", "portsAt", "[I", true)
  | _ => ("RingGuard$Plan", "closedRing", "[Z", true)
def ty_PL : Nat → FieldType := fun k => match k with
  | 0 => .int
  | 1 => .int
  | 2 => .array .int
  | 3 => .array .int
  | 4 => .array .int
  | 5 => .array .int
  | 6 => .array .int
  | 7 => .array .int
  | 8 => .array .int
  | 9 => .array .int
  | _ => .array .boolean
theorem nm_PL : ∀ a, a < 11 → ∀ b, b < 11 → a ≠ b → (T_PL a).2.1 ≠ (T_PL b).2.1 := by decide +kernel
theorem ok_PL : ∀ k, k < 11 → parseFieldDescriptor (T_PL k).2.2.1 = some (ty_PL k) := by decide +kernel
theorem zd_PL : ∀ j, j < 11 → defaultValue (ty_PL j) = vp_V [.int 0, .int 0, .null, .null, .null, .null, .null, .null, .null, .null, .null] j := by decide +kernel
theorem zU_PL : (u_ws "RingGuard$Plan" T_PL 11).all (fun w => decide (w ∈ zT) && tq_ok w) = true := by decide +kernel
def T_WI : u_T := fun k => match k with
  | 0 => ("RingGuard$Wires", "arriving", "[I", false)
  | 1 => ("RingGuard$Wires", "arrivingCount", "[I", false)
  | 2 => ("RingGuard$Wires", "leaving", "[I", false)
  | 3 => ("RingGuard$Wires", "leavingCount", "[I", false)
  | 4 => ("RingGuard$Wires", "toLose", "[I", true)
  | _ => ("RingGuard$Wires", "lostCount", "I", false)
def ty_WI : Nat → FieldType := fun k => match k with
  | 0 => .array .int
  | 1 => .array .int
  | 2 => .array .int
  | 3 => .array .int
  | 4 => .array .int
  | _ => .int
theorem nm_WI : ∀ a, a < 6 → ∀ b, b < 6 → a ≠ b → (T_WI a).2.1 ≠ (T_WI b).2.1 := by decide +kernel
theorem ok_WI : ∀ k, k < 6 → parseFieldDescriptor (T_WI k).2.2.1 = some (ty_WI k) := by decide +kernel
theorem zd_WI : ∀ j, j < 6 → defaultValue (ty_WI j) = vp_V [.null, .null, .null, .null, .null, .int 0] j := by decide +kernel
theorem zU_WI : (u_ws "RingGuard$Wires" T_WI 6).all (fun w => decide (w ∈ zT) && tq_ok w) = true := by decide +kernel
def T_TA : u_T := fun k => match k with
  | _ => ("RingGuard$Tables", "entries", "[[I", true)
def ty_TA : Nat → FieldType := fun k => match k with
  | _ => .array (.array .int)
theorem nm_TA : ∀ a, a < 1 → ∀ b, b < 1 → a ≠ b → (T_TA a).2.1 ≠ (T_TA b).2.1 := by decide +kernel
theorem ok_TA : ∀ k, k < 1 → parseFieldDescriptor (T_TA k).2.2.1 = some (ty_TA k) := by decide +kernel
theorem zd_TA : ∀ j, j < 1 → defaultValue (ty_TA j) = vp_V [.null] j := by decide +kernel
theorem zU_TA : (u_ws "RingGuard$Tables" T_TA 1).all (fun w => decide (w ∈ zT) && tq_ok w) = true := by decide +kernel
def T_PR : u_T := fun k => match k with
  | 0 => ("RingGuard$Protocol", "plan", "LRingGuard$Plan;", true)
  | 1 => ("RingGuard$Protocol", "wires", "LRingGuard$Wires;", true)
  | 2 => ("RingGuard$Protocol", "tables", "LRingGuard$Tables;", true)
  | 3 => ("RingGuard$Protocol", "holdsOf", "[I", true)
  | 4 => ("RingGuard$Protocol", "guard", "[I", true)
  | 5 => ("RingGuard$Protocol", "phase", "[I", true)
  | 6 => ("RingGuard$Protocol", "clock", "[I", true)
  | 7 => ("RingGuard$Protocol", "timesTaken", "[I", true)
  | 8 => ("RingGuard$Protocol", "timesFailed", "[I", true)
  | 9 => ("RingGuard$Protocol", "timesCommanded", "[I", true)
  | 10 => ("RingGuard$Protocol", "greatestTold", "[I", true)
  | 11 => ("RingGuard$Protocol", "flushCount", "[I", true)
  | 12 => ("RingGuard$Protocol", "stirs", "I", false)
  | _ => ("RingGuard$Protocol", "holdsChanged", "Z", false)
def ty_PR : Nat → FieldType := fun k => match k with
  | 0 => .object "RingGuard$Plan"
  | 1 => .object "RingGuard$Wires"
  | 2 => .object "RingGuard$Tables"
  | 3 => .array .int
  | 4 => .array .int
  | 5 => .array .int
  | 6 => .array .int
  | 7 => .array .int
  | 8 => .array .int
  | 9 => .array .int
  | 10 => .array .int
  | 11 => .array .int
  | 12 => .int
  | _ => .boolean
theorem nm_PR : ∀ a, a < 14 → ∀ b, b < 14 → a ≠ b → (T_PR a).2.1 ≠ (T_PR b).2.1 := by decide +kernel
theorem ok_PR : ∀ k, k < 14 → parseFieldDescriptor (T_PR k).2.2.1 = some (ty_PR k) := by decide +kernel
theorem zd_PR : ∀ j, j < 14 → defaultValue (ty_PR j) = vp_V [.null, .null, .null, .null, .null, .null, .null, .null, .null, .null, .null, .null, .int 0, .int 0] j := by decide +kernel
theorem zU_PR : (u_ws "RingGuard$Protocol" T_PR 14).all (fun w => decide (w ∈ zT) && tq_ok w) = true := by decide +kernel
def T_FR : u_T := fun k => match k with
  | 0 => ("RingGuard$Frames", "plan", "LRingGuard$Plan;", true)
  | 1 => ("RingGuard$Frames", "protocol", "LRingGuard$Protocol;", true)
  | 2 => ("RingGuard$Frames", "tables", "LRingGuard$Tables;", true)
  | 3 => ("RingGuard$Frames", "bridgeOfHost", "[I", true)
  | 4 => ("RingGuard$Frames", "stepBridge", "[I", true)
  | 5 => ("RingGuard$Frames", "stepLink", "[I", true)
  | 6 => ("RingGuard$Frames", "stepCount", "I", false)
  | 7 => ("RingGuard$Frames", "passes", "[I", true)
  | _ => ("RingGuard$Frames", "mostPasses", "I", false)
def ty_FR : Nat → FieldType := fun k => match k with
  | 0 => .object "RingGuard$Plan"
  | 1 => .object "RingGuard$Protocol"
  | 2 => .object "RingGuard$Tables"
  | 3 => .array .int
  | 4 => .array .int
  | 5 => .array .int
  | 6 => .int
  | 7 => .array .int
  | _ => .int
theorem nm_FR : ∀ a, a < 9 → ∀ b, b < 9 → a ≠ b → (T_FR a).2.1 ≠ (T_FR b).2.1 := by decide +kernel
theorem ok_FR : ∀ k, k < 9 → parseFieldDescriptor (T_FR k).2.2.1 = some (ty_FR k) := by decide +kernel
theorem zd_FR : ∀ j, j < 9 → defaultValue (ty_FR j) = vp_V [.null, .null, .null, .null, .null, .null, .int 0, .null, .int 0] j := by decide +kernel
theorem zU_FR : (u_ws "RingGuard$Frames" T_FR 9).all (fun w => decide (w ∈ zT) && tq_ok w) = true := by decide +kernel
def T_GR : u_T := fun k => match k with
  | 0 => ("RingGuard$Groups", "group", "[I", true)
  | 1 => ("RingGuard$Groups", "groupCount", "I", false)
  | _ => ("RingGuard$Groups", "size", "I", false)
def ty_GR : Nat → FieldType := fun k => match k with
  | 0 => .array .int
  | 1 => .int
  | _ => .int
theorem nm_GR : ∀ a, a < 3 → ∀ b, b < 3 → a ≠ b → (T_GR a).2.1 ≠ (T_GR b).2.1 := by decide +kernel
theorem ok_GR : ∀ k, k < 3 → parseFieldDescriptor (T_GR k).2.2.1 = some (ty_GR k) := by decide +kernel
theorem zd_GR : ∀ j, j < 3 → defaultValue (ty_GR j) = vp_V [.null, .int 0, .int 0] j := by decide +kernel
theorem zU_GR : (u_ws "RingGuard$Groups" T_GR 3).all (fun w => decide (w ∈ zT) && tq_ok w) = true := by decide +kernel
def T_MO : u_T := fun k => match k with
  | 0 => ("RingGuardModel", "code", "I", false)
  | 1 => ("RingGuardModel", "started", "Z", false)
  | 2 => ("RingGuardModel", "bridges", "I", false)
  | 3 => ("RingGuardModel", "links", "I", false)
  | 4 => ("RingGuardModel", "first", "[I", true)
  | 5 => ("RingGuardModel", "second", "[I", true)
  | 6 => ("RingGuardModel", "ringOf", "[I", true)
  | 7 => ("RingGuardModel", "failed", "[Z", true)
  | 8 => ("RingGuardModel", "failures", "[I", true)
  | 9 => ("RingGuardModel", "toLose", "[I", true)
  | 10 => ("RingGuardModel", "hold", "[I", true)
  | 11 => ("RingGuardModel", "owner", "[I", true)
  | 12 => ("RingGuardModel", "protection", "[I", true)
  | 13 => ("RingGuardModel", "isClosed", "[Z", true)
  | 14 => ("RingGuardModel", "clock", "[I", true)
  | 15 => ("RingGuardModel", "taken", "[I", true)
  | 16 => ("RingGuardModel", "portLink", "[I", true)
  | 17 => ("RingGuardModel", "guard", "[I", true)
  | 18 => ("RingGuardModel", "phase", "[I", true)
  | 19 => ("RingGuardModel", "command", "[I", true)
  | 20 => ("RingGuardModel", "commandLink", "[I", true)
  | 21 => ("RingGuardModel", "commands", "[I", true)
  | 22 => ("RingGuardModel", "flushes", "[I", true)
  | 23 => ("RingGuardModel", "told", "[I", true)
  | 24 => ("RingGuardModel", "over", "[I", true)
  | 25 => ("RingGuardModel", "when", "[I", true)
  | 26 => ("RingGuardModel", "places", "[I", true)
  | 27 => ("RingGuardModel", "count", "[I", true)
  | 28 => ("RingGuardModel", "kinds", "[I", true)
  | 29 => ("RingGuardModel", "sources", "[I", true)
  | 30 => ("RingGuardModel", "names", "[I", true)
  | 31 => ("RingGuardModel", "numbers", "[I", true)
  | 32 => ("RingGuardModel", "comingCount", "[I", true)
  | 33 => ("RingGuardModel", "comingKinds", "[I", true)
  | 34 => ("RingGuardModel", "comingSources", "[I", true)
  | 35 => ("RingGuardModel", "comingNames", "[I", true)
  | 36 => ("RingGuardModel", "comingNumbers", "[I", true)
  | 37 => ("RingGuardModel", "now", "I", false)
  | 38 => ("RingGuardModel", "lost", "I", false)
  | 39 => ("RingGuardModel", "visits", "I", false)
  | 40 => ("RingGuardModel", "quiet", "I", false)
  | 41 => ("RingGuardModel", "stirred", "Z", false)
  | 42 => ("RingGuardModel", "circles", "I", false)
  | 43 => ("RingGuardModel", "apart", "I", false)
  | 44 => ("RingGuardModel", "group", "[I", true)
  | 45 => ("RingGuardModel", "degree", "[I", true)
  | 46 => ("RingGuardModel", "wayBridge", "[I", true)
  | 47 => ("RingGuardModel", "wayLink", "[I", true)
  | 48 => ("RingGuardModel", "saidKind", "I", false)
  | 49 => ("RingGuardModel", "saidSource", "I", false)
  | 50 => ("RingGuardModel", "saidName", "I", false)
  | 51 => ("RingGuardModel", "saidNumber", "I", false)
  | _ => ("RingGuardModel", "crossed", "[I", true)
def ty_MO : Nat → FieldType := fun k => match k with
  | 0 => .int
  | 1 => .boolean
  | 2 => .int
  | 3 => .int
  | 4 => .array .int
  | 5 => .array .int
  | 6 => .array .int
  | 7 => .array .boolean
  | 8 => .array .int
  | 9 => .array .int
  | 10 => .array .int
  | 11 => .array .int
  | 12 => .array .int
  | 13 => .array .boolean
  | 14 => .array .int
  | 15 => .array .int
  | 16 => .array .int
  | 17 => .array .int
  | 18 => .array .int
  | 19 => .array .int
  | 20 => .array .int
  | 21 => .array .int
  | 22 => .array .int
  | 23 => .array .int
  | 24 => .array .int
  | 25 => .array .int
  | 26 => .array .int
  | 27 => .array .int
  | 28 => .array .int
  | 29 => .array .int
  | 30 => .array .int
  | 31 => .array .int
  | 32 => .array .int
  | 33 => .array .int
  | 34 => .array .int
  | 35 => .array .int
  | 36 => .array .int
  | 37 => .int
  | 38 => .int
  | 39 => .int
  | 40 => .int
  | 41 => .boolean
  | 42 => .int
  | 43 => .int
  | 44 => .array .int
  | 45 => .array .int
  | 46 => .array .int
  | 47 => .array .int
  | 48 => .int
  | 49 => .int
  | 50 => .int
  | 51 => .int
  | _ => .array .int
theorem nm_MO : ∀ a, a < 53 → ∀ b, b < 53 → a ≠ b → (T_MO a).2.1 ≠ (T_MO b).2.1 := by decide +kernel
theorem ok_MO : ∀ k, k < 53 → parseFieldDescriptor (T_MO k).2.2.1 = some (ty_MO k) := by decide +kernel
theorem zd_MO : ∀ j, j < 53 → defaultValue (ty_MO j) = vp_V [.int 0, .int 0, .int 0, .int 0, .null, .null, .null, .null, .null, .null, .null, .null, .null, .null, .null, .null, .null, .null, .null, .null, .null, .null, .null, .null, .null, .null, .null, .null, .null, .null, .null, .null, .null, .null, .null, .null, .null, .int 0, .int 0, .int 0, .int 0, .int 0, .int 0, .int 0, .null, .null, .null, .null, .int 0, .int 0, .int 0, .int 0, .null] j := by decide +kernel
theorem zU_MO : (u_ws "RingGuardModel" T_MO 53).all (fun w => decide (w ∈ zT) && tq_ok w) = true := by decide +kernel
abbrev zCl : List vw_C := [("RingGuard", T_RG, 13), ("RingGuard$Plan", T_PL, 11), ("RingGuard$Wires", T_WI, 6), ("RingGuard$Tables", T_TA, 1), ("RingGuard$Protocol", T_PR, 14), ("RingGuard$Frames", T_FR, 9), ("RingGuard$Groups", T_GR, 3), ("RingGuardModel", T_MO, 53)]
theorem zO_66 : (Bundle.ownAtoms "RingGuard" 66 "java/lang/IllegalStateException" ["java/lang/RuntimeException", "java/lang/Exception"]).all (fun w => decide (w ∈ zT) && tq_ok w) = true := by decide +kernel
theorem zO_80 : (Bundle.ownAtoms "RingGuard" 80 "java/lang/IllegalArgumentException" ["java/lang/RuntimeException", "java/lang/Exception"]).all (fun w => decide (w ∈ zT) && tq_ok w) = true := by decide +kernel
theorem k1_1 : tables_1_1[1]? = some (Jvm.Cond.initialized "RingGuard") := by decide +kernel
theorem k1_2 : tables_1_1[2]? = some (Jvm.Cond.initialized "RingGuard$Plan") := by decide +kernel
theorem k1_3 : tables_1_1[3]? = some (Jvm.Cond.initialized "java/util/Arrays") := by decide +kernel
theorem k1_4 : tables_1_1[4]? = some (Jvm.Cond.initialized "RingGuard$Wires") := by decide +kernel
theorem k1_9 : tables_1_1[9]? = some (Jvm.Cond.initialized "RingGuardModel") := by decide +kernel
theorem k1_13 : tables_1_1[13]? = some (Jvm.Cond.initialized "java/lang/IllegalStateException") := by decide +kernel
theorem k1_14 : tables_1_1[14]? = some (Jvm.Cond.initialized "java/lang/IllegalArgumentException") := by decide +kernel
theorem k1_18 : tables_1_1[18]? = some (Jvm.Cond.instantiable "RingGuard" (13 : Nat)) := by decide +kernel
theorem k1_23 : tables_1_1[23]? = some (Jvm.Cond.instanceMethod ({ cls := "java/lang/Object", name := "<init>", desc := "()V" } : Jvm.MethodName)) := by decide +kernel
theorem k1_24 : tables_1_1[24]? = some (Jvm.Cond.code ({ cls := "java/lang/Object", name := "<init>", desc := "()V" } : Jvm.MethodName) object_method_1_code (1 : Nat) (Option.none : Option Jvm.ClassFile.FieldType)) := rfl
theorem k1_30 : tables_1_1[30]? = some (Jvm.Cond.methodLink "RingGuard$Plan" (3 : Nat) ({ cls := "java/lang/Object", name := "<init>", desc := "()V" } : Jvm.MethodName)) := by decide +kernel
theorem k1_31 : tables_1_1[31]? = some (Jvm.Cond.methodLink "RingGuard$Plan" (40 : Nat) ({ cls := "java/util/Arrays", name := "fill", desc := "([II)V" } : Jvm.MethodName)) := by decide +kernel
theorem k1_32 : tables_1_1[32]? = some (Jvm.Cond.static ({ cls := "java/util/Arrays", name := "fill", desc := "([II)V" } : Jvm.MethodName)) := by decide +kernel
theorem k1_33 : tables_1_1[33]? = some (Jvm.Cond.code ({ cls := "java/util/Arrays", name := "fill", desc := "([II)V" } : Jvm.MethodName) prog_18_method_103_code (4 : Nat) (Option.none : Option Jvm.ClassFile.FieldType)) := rfl
theorem k1_34 : tables_1_1[34]? = some (Jvm.Cond.fieldLink "RingGuard" (58 : Nat) "RingGuard$Plan" "bridgeCount" "I") := by decide +kernel
theorem k1_37 : tables_1_1[37]? = some (Jvm.Cond.fieldLink "RingGuard$Plan" (46 : Nat) "RingGuard$Plan" "linkCount" "I") := by decide +kernel
theorem k1_39 : tables_1_1[39]? = some (Jvm.Cond.fieldLink "RingGuard" (81 : Nat) "RingGuard$Plan" "linkCount" "I") := by decide +kernel
theorem k1_41 : tables_1_1[41]? = some (Jvm.Cond.fieldLink "RingGuard$Plan" (9 : Nat) "RingGuard$Plan" "firstOf" "[I") := by decide +kernel
theorem k1_43 : tables_1_1[43]? = some (Jvm.Cond.fieldLink "RingGuard$Plan" (15 : Nat) "RingGuard$Plan" "secondOf" "[I") := by decide +kernel
theorem k1_45 : tables_1_1[45]? = some (Jvm.Cond.fieldLink "RingGuard$Plan" (18 : Nat) "RingGuard$Plan" "ringOf" "[I") := by decide +kernel
theorem k1_47 : tables_1_1[47]? = some (Jvm.Cond.fieldLink "RingGuard$Plan" (21 : Nat) "RingGuard$Plan" "ownerBridge" "[I") := by decide +kernel
theorem k1_49 : tables_1_1[49]? = some (Jvm.Cond.fieldLink "RingGuard$Plan" (24 : Nat) "RingGuard$Plan" "ownerLink" "[I") := by decide +kernel
theorem k1_51 : tables_1_1[51]? = some (Jvm.Cond.fieldLink "RingGuard$Plan" (27 : Nat) "RingGuard$Plan" "placeOf" "[I") := by decide +kernel
theorem k1_54 : tables_1_1[54]? = some (Jvm.Cond.fieldLink "RingGuard$Plan" (30 : Nat) "RingGuard$Plan" "ownerPort" "[I") := by decide +kernel
theorem k1_56 : tables_1_1[56]? = some (Jvm.Cond.fieldLink "RingGuard$Plan" (33 : Nat) "RingGuard$Plan" "portsAt" "[I") := by decide +kernel
theorem k1_58 : tables_1_1[58]? = some (Jvm.Cond.fieldLink "RingGuard$Plan" (36 : Nat) "RingGuard$Plan" "closedRing" "[Z") := by decide +kernel
theorem k1_89 : tables_1_1[89]? = some (Jvm.Cond.methodLink "RingGuard$Wires" (3 : Nat) ({ cls := "java/lang/Object", name := "<init>", desc := "()V" } : Jvm.MethodName)) := by decide +kernel
theorem k1_90 : tables_1_1[90]? = some (Jvm.Cond.fieldLink "RingGuard$Wires" (11 : Nat) "RingGuard$Wires" "arriving" "[I") := by decide +kernel
theorem k1_91 : tables_1_1[91]? = some (Jvm.Cond.fieldLink "RingGuard$Wires" (15 : Nat) "RingGuard$Wires" "arrivingCount" "[I") := by decide +kernel
theorem k1_92 : tables_1_1[92]? = some (Jvm.Cond.fieldLink "RingGuard$Wires" (18 : Nat) "RingGuard$Wires" "leaving" "[I") := by decide +kernel
theorem k1_93 : tables_1_1[93]? = some (Jvm.Cond.fieldLink "RingGuard$Wires" (21 : Nat) "RingGuard$Wires" "leavingCount" "[I") := by decide +kernel
theorem k1_94 : tables_1_1[94]? = some (Jvm.Cond.fieldLink "RingGuard$Wires" (24 : Nat) "RingGuard$Wires" "toLose" "[I") := by decide +kernel
theorem k1_97 : tables_1_1[97]? = some (Jvm.Cond.fieldLink "RingGuard" (223 : Nat) "RingGuard$Wires" "lostCount" "I") := by decide +kernel
theorem k1_129 : tables_1_1[129]? = some (Jvm.Cond.methodLink "RingGuard$Protocol" (3 : Nat) ({ cls := "java/lang/Object", name := "<init>", desc := "()V" } : Jvm.MethodName)) := by decide +kernel
theorem k1_130 : tables_1_1[130]? = some (Jvm.Cond.fieldLink "RingGuard$Protocol" (45 : Nat) "RingGuard$Protocol" "plan" "LRingGuard$Plan;") := by decide +kernel
theorem k1_131 : tables_1_1[131]? = some (Jvm.Cond.fieldLink "RingGuard$Protocol" (49 : Nat) "RingGuard$Protocol" "wires" "LRingGuard$Wires;") := by decide +kernel
theorem k1_132 : tables_1_1[132]? = some (Jvm.Cond.fieldLink "RingGuard$Protocol" (53 : Nat) "RingGuard$Protocol" "tables" "LRingGuard$Tables;") := by decide +kernel
theorem k1_133 : tables_1_1[133]? = some (Jvm.Cond.fieldLink "RingGuard$Protocol" (9 : Nat) "RingGuard$Protocol" "holdsOf" "[I") := by decide +kernel
theorem k1_135 : tables_1_1[135]? = some (Jvm.Cond.fieldLink "RingGuard$Protocol" (15 : Nat) "RingGuard$Protocol" "guard" "[I") := by decide +kernel
theorem k1_137 : tables_1_1[137]? = some (Jvm.Cond.fieldLink "RingGuard$Protocol" (18 : Nat) "RingGuard$Protocol" "phase" "[I") := by decide +kernel
theorem k1_138 : tables_1_1[138]? = some (Jvm.Cond.fieldLink "RingGuard$Protocol" (21 : Nat) "RingGuard$Protocol" "clock" "[I") := by decide +kernel
theorem k1_140 : tables_1_1[140]? = some (Jvm.Cond.fieldLink "RingGuard$Protocol" (24 : Nat) "RingGuard$Protocol" "timesTaken" "[I") := by decide +kernel
theorem k1_141 : tables_1_1[141]? = some (Jvm.Cond.fieldLink "RingGuard$Protocol" (27 : Nat) "RingGuard$Protocol" "timesFailed" "[I") := by decide +kernel
theorem k1_142 : tables_1_1[142]? = some (Jvm.Cond.fieldLink "RingGuard$Protocol" (30 : Nat) "RingGuard$Protocol" "timesCommanded" "[I") := by decide +kernel
theorem k1_143 : tables_1_1[143]? = some (Jvm.Cond.fieldLink "RingGuard$Protocol" (35 : Nat) "RingGuard$Protocol" "greatestTold" "[I") := by decide +kernel
theorem k1_144 : tables_1_1[144]? = some (Jvm.Cond.fieldLink "RingGuard$Protocol" (38 : Nat) "RingGuard$Protocol" "flushCount" "[I") := by decide +kernel
theorem k1_148 : tables_1_1[148]? = some (Jvm.Cond.fieldLink "RingGuard$Protocol" (41 : Nat) "RingGuard$Protocol" "holdsChanged" "Z") := by decide +kernel
theorem k1_184 : tables_1_1[184]? = some (Jvm.Cond.methodLink "RingGuard$Frames" (3 : Nat) ({ cls := "java/lang/Object", name := "<init>", desc := "()V" } : Jvm.MethodName)) := by decide +kernel
theorem k1_185 : tables_1_1[185]? = some (Jvm.Cond.methodLink "RingGuard$Frames" (36 : Nat) ({ cls := "java/util/Arrays", name := "fill", desc := "([II)V" } : Jvm.MethodName)) := by decide +kernel
theorem k1_186 : tables_1_1[186]? = some (Jvm.Cond.fieldLink "RingGuard$Frames" (24 : Nat) "RingGuard$Frames" "plan" "LRingGuard$Plan;") := by decide +kernel
theorem k1_187 : tables_1_1[187]? = some (Jvm.Cond.fieldLink "RingGuard$Frames" (28 : Nat) "RingGuard$Frames" "protocol" "LRingGuard$Protocol;") := by decide +kernel
theorem k1_188 : tables_1_1[188]? = some (Jvm.Cond.fieldLink "RingGuard$Frames" (32 : Nat) "RingGuard$Frames" "tables" "LRingGuard$Tables;") := by decide +kernel
theorem k1_189 : tables_1_1[189]? = some (Jvm.Cond.fieldLink "RingGuard$Frames" (9 : Nat) "RingGuard$Frames" "bridgeOfHost" "[I") := by decide +kernel
theorem k1_190 : tables_1_1[190]? = some (Jvm.Cond.fieldLink "RingGuard" (179 : Nat) "RingGuard$Frames" "bridgeOfHost" "[I") := by decide +kernel
theorem k1_191 : tables_1_1[191]? = some (Jvm.Cond.fieldLink "RingGuard$Frames" (15 : Nat) "RingGuard$Frames" "stepBridge" "[I") := by decide +kernel
theorem k1_192 : tables_1_1[192]? = some (Jvm.Cond.fieldLink "RingGuard$Frames" (18 : Nat) "RingGuard$Frames" "stepLink" "[I") := by decide +kernel
theorem k1_194 : tables_1_1[194]? = some (Jvm.Cond.fieldLink "RingGuard$Frames" (21 : Nat) "RingGuard$Frames" "passes" "[I") := by decide +kernel
theorem k1_196 : tables_1_1[196]? = some (Jvm.Cond.fieldLink "RingGuard" (194 : Nat) "RingGuard$Frames" "mostPasses" "I") := by decide +kernel
theorem k1_221 : tables_1_1[221]? = some (Jvm.Cond.methodLink "RingGuard$Groups" (3 : Nat) ({ cls := "java/lang/Object", name := "<init>", desc := "()V" } : Jvm.MethodName)) := by decide +kernel
theorem k1_222 : tables_1_1[222]? = some (Jvm.Cond.fieldLink "RingGuard$Groups" (9 : Nat) "RingGuard$Groups" "group" "[I") := by decide +kernel
theorem k1_235 : tables_1_1[235]? = some (Jvm.Cond.fieldLink "RingGuard" (12 : Nat) "RingGuard" "plan" "LRingGuard$Plan;") := by decide +kernel
theorem k1_236 : tables_1_1[236]? = some (Jvm.Cond.fieldLink "RingGuard" (19 : Nat) "RingGuard" "wires" "LRingGuard$Wires;") := by decide +kernel
theorem k1_239 : tables_1_1[239]? = some (Jvm.Cond.fieldLink "RingGuard" (44 : Nat) "RingGuard" "frames" "LRingGuard$Frames;") := by decide +kernel
theorem k2_0 : tables_1_2[0]? = some (Jvm.Cond.fieldLink "RingGuard" (51 : Nat) "RingGuard" "groups" "LRingGuard$Groups;") := by decide +kernel
theorem k2_1 : tables_1_2[1]? = some (Jvm.Cond.fieldLink "RingGuard" (104 : Nat) "RingGuard" "started" "Z") := by decide +kernel
theorem k2_6 : tables_1_2[6]? = some (Jvm.Cond.fieldLink "RingGuard" (226 : Nat) "RingGuard" "circleCount" "I") := by decide +kernel
theorem k2_7 : tables_1_2[7]? = some (Jvm.Cond.fieldLink "RingGuard" (229 : Nat) "RingGuard" "apartCount" "I") := by decide +kernel
theorem k2_43 : tables_1_2[43]? = some (Jvm.Cond.methodLink "RingGuard" (220 : Nat) ({ cls := "RingGuard$Wires", name := "countOnLinks", desc := "()I" } : Jvm.MethodName)) := by decide +kernel
theorem k2_44 : tables_1_2[44]? = some (Jvm.Cond.instanceMethod ({ cls := "RingGuard$Wires", name := "countOnLinks", desc := "()I" } : Jvm.MethodName)) := by decide +kernel
theorem k2_45 : tables_1_2[45]? = some (Jvm.Cond.selects "RingGuard$Wires" ({ cls := "RingGuard$Wires", name := "countOnLinks", desc := "()I" } : Jvm.MethodName) ({ cls := "RingGuard$Wires", name := "countOnLinks", desc := "()I" } : Jvm.MethodName)) := by decide +kernel
theorem k2_46 : tables_1_2[46]? = some (Jvm.Cond.code ({ cls := "RingGuard$Wires", name := "countOnLinks", desc := "()I" } : Jvm.MethodName) prog_8_method_7_code (3 : Nat) (Option.some Jvm.ClassFile.FieldType.int)) := rfl
theorem k2_62 : tables_1_2[62]? = some (Jvm.Cond.classLink "RingGuardLaw" (13 : Nat) "java/lang/IllegalStateException") := by decide +kernel
theorem k2_63 : tables_1_2[63]? = some (Jvm.Cond.methodLink "RingGuardLaw" (7 : Nat) ({ cls := "RingGuard", name := "bridge", desc := "()I" } : Jvm.MethodName)) := by decide +kernel
theorem k2_64 : tables_1_2[64]? = some (Jvm.Cond.instanceMethod ({ cls := "RingGuard", name := "bridge", desc := "()I" } : Jvm.MethodName)) := by decide +kernel
theorem k2_65 : tables_1_2[65]? = some (Jvm.Cond.selects "RingGuard" ({ cls := "RingGuard", name := "bridge", desc := "()I" } : Jvm.MethodName) ({ cls := "RingGuard", name := "bridge", desc := "()I" } : Jvm.MethodName)) := by decide +kernel
theorem k2_66 : tables_1_2[66]? = some (Jvm.Cond.code ({ cls := "RingGuard", name := "bridge", desc := "()I" } : Jvm.MethodName) prog_1_method_2_code (2 : Nat) (Option.some Jvm.ClassFile.FieldType.int)) := rfl
theorem k2_67 : tables_1_2[67]? = some (Jvm.Cond.methodLink "RingGuard" (55 : Nat) ({ cls := "RingGuard", name := "requireNotStarted", desc := "()V" } : Jvm.MethodName)) := by decide +kernel
theorem k2_68 : tables_1_2[68]? = some (Jvm.Cond.privateMethod ({ cls := "RingGuard", name := "requireNotStarted", desc := "()V" } : Jvm.MethodName)) := by decide +kernel
theorem k2_69 : tables_1_2[69]? = some (Jvm.Cond.instanceMethod ({ cls := "RingGuard", name := "requireNotStarted", desc := "()V" } : Jvm.MethodName)) := by decide +kernel
theorem k2_70 : tables_1_2[70]? = some (Jvm.Cond.code ({ cls := "RingGuard", name := "requireNotStarted", desc := "()V" } : Jvm.MethodName) prog_1_method_23_code (1 : Nat) (Option.none : Option Jvm.ClassFile.FieldType)) := rfl
theorem k2_71 : tables_1_2[71]? = some (Jvm.Cond.classLink "RingGuard" (62 : Nat) "java/lang/IllegalStateException") := by decide +kernel
theorem k2_73 : tables_1_2[73]? = some (Jvm.Cond.castable "java/lang/IllegalStateException" "java/lang/IllegalStateException") := by decide +kernel
theorem k2_142 : tables_1_2[142]? = some (Jvm.Cond.classLink "RingGuardLaw" (19 : Nat) "java/lang/IllegalArgumentException") := by decide +kernel
theorem k2_143 : tables_1_2[143]? = some (Jvm.Cond.methodLink "RingGuardLaw" (15 : Nat) ({ cls := "RingGuard", name := "link", desc := "(III)I" } : Jvm.MethodName)) := by decide +kernel
theorem k2_144 : tables_1_2[144]? = some (Jvm.Cond.instanceMethod ({ cls := "RingGuard", name := "link", desc := "(III)I" } : Jvm.MethodName)) := by decide +kernel
theorem k2_145 : tables_1_2[145]? = some (Jvm.Cond.selects "RingGuard" ({ cls := "RingGuard", name := "link", desc := "(III)I" } : Jvm.MethodName) ({ cls := "RingGuard", name := "link", desc := "(III)I" } : Jvm.MethodName)) := by decide +kernel
theorem k2_146 : tables_1_2[146]? = some (Jvm.Cond.code ({ cls := "RingGuard", name := "link", desc := "(III)I" } : Jvm.MethodName) prog_1_method_3_code (4 : Nat) (Option.some Jvm.ClassFile.FieldType.int)) := rfl
theorem k2_147 : tables_1_2[147]? = some (Jvm.Cond.methodLink "RingGuard" (69 : Nat) ({ cls := "RingGuard", name := "requireBridge", desc := "(I)V" } : Jvm.MethodName)) := by decide +kernel
theorem k2_148 : tables_1_2[148]? = some (Jvm.Cond.privateMethod ({ cls := "RingGuard", name := "requireBridge", desc := "(I)V" } : Jvm.MethodName)) := by decide +kernel
theorem k2_149 : tables_1_2[149]? = some (Jvm.Cond.instanceMethod ({ cls := "RingGuard", name := "requireBridge", desc := "(I)V" } : Jvm.MethodName)) := by decide +kernel
theorem k2_150 : tables_1_2[150]? = some (Jvm.Cond.code ({ cls := "RingGuard", name := "requireBridge", desc := "(I)V" } : Jvm.MethodName) prog_1_method_25_code (2 : Nat) (Option.none : Option Jvm.ClassFile.FieldType)) := rfl
theorem k2_151 : tables_1_2[151]? = some (Jvm.Cond.classLink "RingGuard" (76 : Nat) "java/lang/IllegalArgumentException") := by decide +kernel
theorem k2_153 : tables_1_2[153]? = some (Jvm.Cond.castable "java/lang/IllegalArgumentException" "java/lang/IllegalArgumentException") := by decide +kernel
theorem k2_160 : tables_1_2[160]? = some (Jvm.Cond.stringRef "RingGuard" (236 : Nat) "no such bridge") := by decide +kernel
theorem k2_167 : tables_1_2[167]? = some (Jvm.Cond.methodLink "RingGuard" (73 : Nat) ({ cls := "RingGuard", name := "requireRing", desc := "(I)V" } : Jvm.MethodName)) := by decide +kernel
theorem k2_168 : tables_1_2[168]? = some (Jvm.Cond.privateMethod ({ cls := "RingGuard", name := "requireRing", desc := "(I)V" } : Jvm.MethodName)) := by decide +kernel
theorem k2_169 : tables_1_2[169]? = some (Jvm.Cond.instanceMethod ({ cls := "RingGuard", name := "requireRing", desc := "(I)V" } : Jvm.MethodName)) := by decide +kernel
theorem k2_170 : tables_1_2[170]? = some (Jvm.Cond.code ({ cls := "RingGuard", name := "requireRing", desc := "(I)V" } : Jvm.MethodName) prog_1_method_28_code (2 : Nat) (Option.none : Option Jvm.ClassFile.FieldType)) := rfl
theorem k2_171 : tables_1_2[171]? = some (Jvm.Cond.stringRef "RingGuard" (242 : Nat) "no such ring") := by decide +kernel
theorem k2_181 : tables_1_2[181]? = some (Jvm.Cond.methodLink "RingGuardLaw" (21 : Nat) ({ cls := "RingGuard", name := "owner", desc := "(III)V" } : Jvm.MethodName)) := by decide +kernel
theorem k2_182 : tables_1_2[182]? = some (Jvm.Cond.instanceMethod ({ cls := "RingGuard", name := "owner", desc := "(III)V" } : Jvm.MethodName)) := by decide +kernel
theorem k2_183 : tables_1_2[183]? = some (Jvm.Cond.selects "RingGuard" ({ cls := "RingGuard", name := "owner", desc := "(III)V" } : Jvm.MethodName) ({ cls := "RingGuard", name := "owner", desc := "(III)V" } : Jvm.MethodName)) := by decide +kernel
theorem k2_184 : tables_1_2[184]? = some (Jvm.Cond.code ({ cls := "RingGuard", name := "owner", desc := "(III)V" } : Jvm.MethodName) prog_1_method_4_code (4 : Nat) (Option.none : Option Jvm.ClassFile.FieldType)) := rfl
theorem k2_185 : tables_1_2[185]? = some (Jvm.Cond.methodLink "RingGuard" (90 : Nat) ({ cls := "RingGuard", name := "requireLink", desc := "(I)V" } : Jvm.MethodName)) := by decide +kernel
theorem k2_186 : tables_1_2[186]? = some (Jvm.Cond.privateMethod ({ cls := "RingGuard", name := "requireLink", desc := "(I)V" } : Jvm.MethodName)) := by decide +kernel
theorem k2_187 : tables_1_2[187]? = some (Jvm.Cond.instanceMethod ({ cls := "RingGuard", name := "requireLink", desc := "(I)V" } : Jvm.MethodName)) := by decide +kernel
theorem k2_188 : tables_1_2[188]? = some (Jvm.Cond.code ({ cls := "RingGuard", name := "requireLink", desc := "(I)V" } : Jvm.MethodName) prog_1_method_26_code (2 : Nat) (Option.none : Option Jvm.ClassFile.FieldType)) := rfl
theorem k2_189 : tables_1_2[189]? = some (Jvm.Cond.stringRef "RingGuard" (238 : Nat) "no such link") := by decide +kernel
theorem k2_193 : tables_1_2[193]? = some (Jvm.Cond.methodLink "RingGuardLaw" (25 : Nat) ({ cls := "RingGuard", name := "start", desc := "()I" } : Jvm.MethodName)) := by decide +kernel
theorem k2_194 : tables_1_2[194]? = some (Jvm.Cond.instanceMethod ({ cls := "RingGuard", name := "start", desc := "()I" } : Jvm.MethodName)) := by decide +kernel
theorem k2_195 : tables_1_2[195]? = some (Jvm.Cond.selects "RingGuard" ({ cls := "RingGuard", name := "start", desc := "()I" } : Jvm.MethodName) ({ cls := "RingGuard", name := "start", desc := "()I" } : Jvm.MethodName)) := by decide +kernel
theorem k2_196 : tables_1_2[196]? = some (Jvm.Cond.code ({ cls := "RingGuard", name := "start", desc := "()I" } : Jvm.MethodName) prog_1_method_5_code (2 : Nat) (Option.some Jvm.ClassFile.FieldType.int)) := rfl
theorem k2_197 : tables_1_2[197]? = some (Jvm.Cond.methodLink "RingGuard" (100 : Nat) ({ cls := "RingGuard$Plan", name := "firstFault", desc := "(LRingGuard$Groups;)I" } : Jvm.MethodName)) := by decide +kernel
theorem k2_198 : tables_1_2[198]? = some (Jvm.Cond.instanceMethod ({ cls := "RingGuard$Plan", name := "firstFault", desc := "(LRingGuard$Groups;)I" } : Jvm.MethodName)) := by decide +kernel
theorem k2_199 : tables_1_2[199]? = some (Jvm.Cond.selects "RingGuard$Plan" ({ cls := "RingGuard$Plan", name := "firstFault", desc := "(LRingGuard$Groups;)I" } : Jvm.MethodName) ({ cls := "RingGuard$Plan", name := "firstFault", desc := "(LRingGuard$Groups;)I" } : Jvm.MethodName)) := by decide +kernel
theorem k2_200 : tables_1_2[200]? = some (Jvm.Cond.code ({ cls := "RingGuard$Plan", name := "firstFault", desc := "(LRingGuard$Groups;)I" } : Jvm.MethodName) prog_5_method_7_code (4 : Nat) (Option.some Jvm.ClassFile.FieldType.int)) := rfl
theorem k3_51 : tables_1_3[51]? = some (Jvm.Cond.methodLink "RingGuardLaw" (28 : Nat) ({ cls := "RingGuard", name := "fail", desc := "(I)Z" } : Jvm.MethodName)) := by decide +kernel
theorem k3_52 : tables_1_3[52]? = some (Jvm.Cond.instanceMethod ({ cls := "RingGuard", name := "fail", desc := "(I)Z" } : Jvm.MethodName)) := by decide +kernel
theorem k3_53 : tables_1_3[53]? = some (Jvm.Cond.selects "RingGuard" ({ cls := "RingGuard", name := "fail", desc := "(I)Z" } : Jvm.MethodName) ({ cls := "RingGuard", name := "fail", desc := "(I)Z" } : Jvm.MethodName)) := by decide +kernel
theorem k3_54 : tables_1_3[54]? = some (Jvm.Cond.code ({ cls := "RingGuard", name := "fail", desc := "(I)Z" } : Jvm.MethodName) prog_1_method_6_code (3 : Nat) (Option.some Jvm.ClassFile.FieldType.boolean)) := rfl
theorem k3_55 : tables_1_3[55]? = some (Jvm.Cond.methodLink "RingGuard" (114 : Nat) ({ cls := "RingGuard", name := "requireStarted", desc := "()V" } : Jvm.MethodName)) := by decide +kernel
theorem k3_56 : tables_1_3[56]? = some (Jvm.Cond.privateMethod ({ cls := "RingGuard", name := "requireStarted", desc := "()V" } : Jvm.MethodName)) := by decide +kernel
theorem k3_57 : tables_1_3[57]? = some (Jvm.Cond.instanceMethod ({ cls := "RingGuard", name := "requireStarted", desc := "()V" } : Jvm.MethodName)) := by decide +kernel
theorem k3_58 : tables_1_3[58]? = some (Jvm.Cond.code ({ cls := "RingGuard", name := "requireStarted", desc := "()V" } : Jvm.MethodName) prog_1_method_24_code (1 : Nat) (Option.none : Option Jvm.ClassFile.FieldType)) := rfl
theorem k3_59 : tables_1_3[59]? = some (Jvm.Cond.stringRef "RingGuard" (234 : Nat) "not started yet") := by decide +kernel
theorem k3_97 : tables_1_3[97]? = some (Jvm.Cond.methodLink "RingGuardLaw" (32 : Nat) ({ cls := "RingGuard", name := "heal", desc := "(I)Z" } : Jvm.MethodName)) := by decide +kernel
theorem k3_98 : tables_1_3[98]? = some (Jvm.Cond.instanceMethod ({ cls := "RingGuard", name := "heal", desc := "(I)Z" } : Jvm.MethodName)) := by decide +kernel
theorem k3_99 : tables_1_3[99]? = some (Jvm.Cond.selects "RingGuard" ({ cls := "RingGuard", name := "heal", desc := "(I)Z" } : Jvm.MethodName) ({ cls := "RingGuard", name := "heal", desc := "(I)Z" } : Jvm.MethodName)) := by decide +kernel
theorem k3_100 : tables_1_3[100]? = some (Jvm.Cond.code ({ cls := "RingGuard", name := "heal", desc := "(I)Z" } : Jvm.MethodName) prog_1_method_7_code (3 : Nat) (Option.some Jvm.ClassFile.FieldType.boolean)) := rfl
theorem k3_112 : tables_1_3[112]? = some (Jvm.Cond.methodLink "RingGuardLaw" (35 : Nat) ({ cls := "RingGuard", name := "lose", desc := "(II)I" } : Jvm.MethodName)) := by decide +kernel
theorem k3_113 : tables_1_3[113]? = some (Jvm.Cond.instanceMethod ({ cls := "RingGuard", name := "lose", desc := "(II)I" } : Jvm.MethodName)) := by decide +kernel
theorem k3_114 : tables_1_3[114]? = some (Jvm.Cond.selects "RingGuard" ({ cls := "RingGuard", name := "lose", desc := "(II)I" } : Jvm.MethodName) ({ cls := "RingGuard", name := "lose", desc := "(II)I" } : Jvm.MethodName)) := by decide +kernel
theorem k3_115 : tables_1_3[115]? = some (Jvm.Cond.code ({ cls := "RingGuard", name := "lose", desc := "(II)I" } : Jvm.MethodName) prog_1_method_8_code (4 : Nat) (Option.some Jvm.ClassFile.FieldType.int)) := rfl
theorem k3_120 : tables_1_3[120]? = some (Jvm.Cond.methodLink "RingGuardLaw" (39 : Nat) ({ cls := "RingGuard", name := "order", desc := "(IIZ)Z" } : Jvm.MethodName)) := by decide +kernel
theorem k3_121 : tables_1_3[121]? = some (Jvm.Cond.instanceMethod ({ cls := "RingGuard", name := "order", desc := "(IIZ)Z" } : Jvm.MethodName)) := by decide +kernel
theorem k3_122 : tables_1_3[122]? = some (Jvm.Cond.selects "RingGuard" ({ cls := "RingGuard", name := "order", desc := "(IIZ)Z" } : Jvm.MethodName) ({ cls := "RingGuard", name := "order", desc := "(IIZ)Z" } : Jvm.MethodName)) := by decide +kernel
theorem k3_123 : tables_1_3[123]? = some (Jvm.Cond.code ({ cls := "RingGuard", name := "order", desc := "(IIZ)Z" } : Jvm.MethodName) prog_1_method_9_code (5 : Nat) (Option.some Jvm.ClassFile.FieldType.boolean)) := rfl
theorem k3_124 : tables_1_3[124]? = some (Jvm.Cond.methodLink "RingGuard" (135 : Nat) ({ cls := "RingGuard", name := "requirePort", desc := "(II)V" } : Jvm.MethodName)) := by decide +kernel
theorem k3_125 : tables_1_3[125]? = some (Jvm.Cond.privateMethod ({ cls := "RingGuard", name := "requirePort", desc := "(II)V" } : Jvm.MethodName)) := by decide +kernel
theorem k3_126 : tables_1_3[126]? = some (Jvm.Cond.instanceMethod ({ cls := "RingGuard", name := "requirePort", desc := "(II)V" } : Jvm.MethodName)) := by decide +kernel
theorem k3_127 : tables_1_3[127]? = some (Jvm.Cond.code ({ cls := "RingGuard", name := "requirePort", desc := "(II)V" } : Jvm.MethodName) prog_1_method_27_code (3 : Nat) (Option.none : Option Jvm.ClassFile.FieldType)) := rfl
theorem k3_145 : tables_1_3[145]? = some (Jvm.Cond.methodLink "RingGuardLaw" (43 : Nat) ({ cls := "RingGuard", name := "clear", desc := "(II)Z" } : Jvm.MethodName)) := by decide +kernel
theorem k3_146 : tables_1_3[146]? = some (Jvm.Cond.instanceMethod ({ cls := "RingGuard", name := "clear", desc := "(II)Z" } : Jvm.MethodName)) := by decide +kernel
theorem k3_147 : tables_1_3[147]? = some (Jvm.Cond.selects "RingGuard" ({ cls := "RingGuard", name := "clear", desc := "(II)Z" } : Jvm.MethodName) ({ cls := "RingGuard", name := "clear", desc := "(II)Z" } : Jvm.MethodName)) := by decide +kernel
theorem k3_148 : tables_1_3[148]? = some (Jvm.Cond.code ({ cls := "RingGuard", name := "clear", desc := "(II)Z" } : Jvm.MethodName) prog_1_method_10_code (4 : Nat) (Option.some Jvm.ClassFile.FieldType.boolean)) := rfl
theorem k3_153 : tables_1_3[153]? = some (Jvm.Cond.methodLink "RingGuardLaw" (47 : Nat) ({ cls := "RingGuard", name := "ticks", desc := "(I)I" } : Jvm.MethodName)) := by decide +kernel
theorem k3_154 : tables_1_3[154]? = some (Jvm.Cond.instanceMethod ({ cls := "RingGuard", name := "ticks", desc := "(I)I" } : Jvm.MethodName)) := by decide +kernel
theorem k3_155 : tables_1_3[155]? = some (Jvm.Cond.selects "RingGuard" ({ cls := "RingGuard", name := "ticks", desc := "(I)I" } : Jvm.MethodName) ({ cls := "RingGuard", name := "ticks", desc := "(I)I" } : Jvm.MethodName)) := by decide +kernel
theorem k3_156 : tables_1_3[156]? = some (Jvm.Cond.code ({ cls := "RingGuard", name := "ticks", desc := "(I)I" } : Jvm.MethodName) prog_1_method_11_code (4 : Nat) (Option.some Jvm.ClassFile.FieldType.int)) := rfl
theorem k3_157 : tables_1_3[157]? = some (Jvm.Cond.stringRef "RingGuard" (150 : Nat) "n is not 1 .. 200") := by decide +kernel
theorem k4_23 : tables_1_4[23]? = some (Jvm.Cond.methodLink "RingGuardLaw" (51 : Nat) ({ cls := "RingGuard", name := "host", desc := "(II)I" } : Jvm.MethodName)) := by decide +kernel
theorem k4_24 : tables_1_4[24]? = some (Jvm.Cond.instanceMethod ({ cls := "RingGuard", name := "host", desc := "(II)I" } : Jvm.MethodName)) := by decide +kernel
theorem k4_25 : tables_1_4[25]? = some (Jvm.Cond.selects "RingGuard" ({ cls := "RingGuard", name := "host", desc := "(II)I" } : Jvm.MethodName) ({ cls := "RingGuard", name := "host", desc := "(II)I" } : Jvm.MethodName)) := by decide +kernel
theorem k4_26 : tables_1_4[26]? = some (Jvm.Cond.code ({ cls := "RingGuard", name := "host", desc := "(II)I" } : Jvm.MethodName) prog_1_method_12_code (4 : Nat) (Option.some Jvm.ClassFile.FieldType.int)) := rfl
theorem k4_27 : tables_1_4[27]? = some (Jvm.Cond.methodLink "RingGuard" (176 : Nat) ({ cls := "RingGuard", name := "requireHost", desc := "(I)V" } : Jvm.MethodName)) := by decide +kernel
theorem k4_28 : tables_1_4[28]? = some (Jvm.Cond.privateMethod ({ cls := "RingGuard", name := "requireHost", desc := "(I)V" } : Jvm.MethodName)) := by decide +kernel
theorem k4_29 : tables_1_4[29]? = some (Jvm.Cond.instanceMethod ({ cls := "RingGuard", name := "requireHost", desc := "(I)V" } : Jvm.MethodName)) := by decide +kernel
theorem k4_30 : tables_1_4[30]? = some (Jvm.Cond.code ({ cls := "RingGuard", name := "requireHost", desc := "(I)V" } : Jvm.MethodName) prog_1_method_29_code (2 : Nat) (Option.none : Option Jvm.ClassFile.FieldType)) := rfl
theorem k4_31 : tables_1_4[31]? = some (Jvm.Cond.stringRef "RingGuard" (244 : Nat) "no such host") := by decide +kernel
theorem k4_39 : tables_1_4[39]? = some (Jvm.Cond.methodLink "RingGuardLaw" (54 : Nat) ({ cls := "RingGuard", name := "send", desc := "(III)I" } : Jvm.MethodName)) := by decide +kernel
theorem k4_40 : tables_1_4[40]? = some (Jvm.Cond.instanceMethod ({ cls := "RingGuard", name := "send", desc := "(III)I" } : Jvm.MethodName)) := by decide +kernel
theorem k4_41 : tables_1_4[41]? = some (Jvm.Cond.selects "RingGuard" ({ cls := "RingGuard", name := "send", desc := "(III)I" } : Jvm.MethodName) ({ cls := "RingGuard", name := "send", desc := "(III)I" } : Jvm.MethodName)) := by decide +kernel
theorem k4_42 : tables_1_4[42]? = some (Jvm.Cond.code ({ cls := "RingGuard", name := "send", desc := "(III)I" } : Jvm.MethodName) prog_1_method_13_code (4 : Nat) (Option.some Jvm.ClassFile.FieldType.int)) := rfl
theorem k4_43 : tables_1_4[43]? = some (Jvm.Cond.methodLink "RingGuard" (185 : Nat) ({ cls := "RingGuard", name := "requireTag", desc := "(I)V" } : Jvm.MethodName)) := by decide +kernel
theorem k4_44 : tables_1_4[44]? = some (Jvm.Cond.privateMethod ({ cls := "RingGuard", name := "requireTag", desc := "(I)V" } : Jvm.MethodName)) := by decide +kernel
theorem k4_45 : tables_1_4[45]? = some (Jvm.Cond.instanceMethod ({ cls := "RingGuard", name := "requireTag", desc := "(I)V" } : Jvm.MethodName)) := by decide +kernel
theorem k4_46 : tables_1_4[46]? = some (Jvm.Cond.code ({ cls := "RingGuard", name := "requireTag", desc := "(I)V" } : Jvm.MethodName) prog_1_method_30_code (2 : Nat) (Option.none : Option Jvm.ClassFile.FieldType)) := rfl
theorem k4_47 : tables_1_4[47]? = some (Jvm.Cond.stringRef "RingGuard" (246 : Nat) "no such tag") := by decide +kernel
theorem k4_48 : tables_1_4[48]? = some (Jvm.Cond.stringRef "RingGuard" (188 : Nat) "a frame goes between two hosts that are somewhere") := by decide +kernel
theorem k4_81 : tables_1_4[81]? = some (Jvm.Cond.methodLink "RingGuardLaw" (57 : Nat) ({ cls := "RingGuard", name := "holds", desc := "(II)I" } : Jvm.MethodName)) := by decide +kernel
theorem k4_82 : tables_1_4[82]? = some (Jvm.Cond.instanceMethod ({ cls := "RingGuard", name := "holds", desc := "(II)I" } : Jvm.MethodName)) := by decide +kernel
theorem k4_83 : tables_1_4[83]? = some (Jvm.Cond.selects "RingGuard" ({ cls := "RingGuard", name := "holds", desc := "(II)I" } : Jvm.MethodName) ({ cls := "RingGuard", name := "holds", desc := "(II)I" } : Jvm.MethodName)) := by decide +kernel
theorem k4_84 : tables_1_4[84]? = some (Jvm.Cond.code ({ cls := "RingGuard", name := "holds", desc := "(II)I" } : Jvm.MethodName) prog_1_method_15_code (3 : Nat) (Option.some Jvm.ClassFile.FieldType.int)) := rfl
theorem k4_88 : tables_1_4[88]? = some (Jvm.Cond.methodLink "RingGuardLaw" (60 : Nat) ({ cls := "RingGuard", name := "told", desc := "(III)I" } : Jvm.MethodName)) := by decide +kernel
theorem k4_89 : tables_1_4[89]? = some (Jvm.Cond.instanceMethod ({ cls := "RingGuard", name := "told", desc := "(III)I" } : Jvm.MethodName)) := by decide +kernel
theorem k4_90 : tables_1_4[90]? = some (Jvm.Cond.selects "RingGuard" ({ cls := "RingGuard", name := "told", desc := "(III)I" } : Jvm.MethodName) ({ cls := "RingGuard", name := "told", desc := "(III)I" } : Jvm.MethodName)) := by decide +kernel
theorem k4_91 : tables_1_4[91]? = some (Jvm.Cond.code ({ cls := "RingGuard", name := "told", desc := "(III)I" } : Jvm.MethodName) prog_1_method_16_code (4 : Nat) (Option.some Jvm.ClassFile.FieldType.int)) := rfl
theorem k4_96 : tables_1_4[96]? = some (Jvm.Cond.methodLink "RingGuardLaw" (63 : Nat) ({ cls := "RingGuard", name := "learned", desc := "(III)I" } : Jvm.MethodName)) := by decide +kernel
theorem k4_97 : tables_1_4[97]? = some (Jvm.Cond.instanceMethod ({ cls := "RingGuard", name := "learned", desc := "(III)I" } : Jvm.MethodName)) := by decide +kernel
theorem k4_98 : tables_1_4[98]? = some (Jvm.Cond.selects "RingGuard" ({ cls := "RingGuard", name := "learned", desc := "(III)I" } : Jvm.MethodName) ({ cls := "RingGuard", name := "learned", desc := "(III)I" } : Jvm.MethodName)) := by decide +kernel
theorem k4_99 : tables_1_4[99]? = some (Jvm.Cond.code ({ cls := "RingGuard", name := "learned", desc := "(III)I" } : Jvm.MethodName) prog_1_method_17_code (4 : Nat) (Option.some Jvm.ClassFile.FieldType.int)) := rfl
theorem k4_104 : tables_1_4[104]? = some (Jvm.Cond.methodLink "RingGuardLaw" (66 : Nat) ({ cls := "RingGuard", name := "joined", desc := "(II)Z" } : Jvm.MethodName)) := by decide +kernel
theorem k4_105 : tables_1_4[105]? = some (Jvm.Cond.instanceMethod ({ cls := "RingGuard", name := "joined", desc := "(II)Z" } : Jvm.MethodName)) := by decide +kernel
theorem k4_106 : tables_1_4[106]? = some (Jvm.Cond.selects "RingGuard" ({ cls := "RingGuard", name := "joined", desc := "(II)Z" } : Jvm.MethodName) ({ cls := "RingGuard", name := "joined", desc := "(II)Z" } : Jvm.MethodName)) := by decide +kernel
theorem k4_107 : tables_1_4[107]? = some (Jvm.Cond.code ({ cls := "RingGuard", name := "joined", desc := "(II)Z" } : Jvm.MethodName) prog_1_method_18_code (3 : Nat) (Option.some Jvm.ClassFile.FieldType.boolean)) := rfl
theorem k4_109 : tables_1_4[109]? = some (Jvm.Cond.instantiable "RingGuardModel" (53 : Nat)) := by decide +kernel
theorem k4_114 : tables_1_4[114]? = some (Jvm.Cond.fieldLink "RingGuardModel" (125 : Nat) "RingGuardModel" "code" "I") := by decide +kernel
theorem k4_115 : tables_1_4[115]? = some (Jvm.Cond.fieldLink "RingGuardModel" (135 : Nat) "RingGuardModel" "started" "Z") := by decide +kernel
theorem k4_116 : tables_1_4[116]? = some (Jvm.Cond.fieldLink "RingGuardModel" (129 : Nat) "RingGuardModel" "bridges" "I") := by decide +kernel
theorem k4_117 : tables_1_4[117]? = some (Jvm.Cond.fieldLink "RingGuardModel" (132 : Nat) "RingGuardModel" "links" "I") := by decide +kernel
theorem k4_140 : tables_1_4[140]? = some (Jvm.Cond.fieldLink "RingGuardModel" (77 : Nat) "RingGuardModel" "places" "[I") := by decide +kernel
theorem k4_141 : tables_1_4[141]? = some (Jvm.Cond.fieldLink "RingGuardModel" (80 : Nat) "RingGuardModel" "count" "[I") := by decide +kernel
theorem k4_152 : tables_1_4[152]? = some (Jvm.Cond.fieldLink "RingGuardModel" (239 : Nat) "RingGuardModel" "lost" "I") := by decide +kernel
theorem k4_153 : tables_1_4[153]? = some (Jvm.Cond.fieldLink "RingGuardModel" (293 : Nat) "RingGuardModel" "visits" "I") := by decide +kernel
theorem k4_156 : tables_1_4[156]? = some (Jvm.Cond.fieldLink "RingGuardModel" (290 : Nat) "RingGuardModel" "circles" "I") := by decide +kernel
theorem k4_157 : tables_1_4[157]? = some (Jvm.Cond.fieldLink "RingGuardModel" (274 : Nat) "RingGuardModel" "apart" "I") := by decide +kernel
theorem k5_46 : tables_1_5[46]? = some (Jvm.Cond.methodLink "RingGuardModel" (139 : Nat) ({ cls := "RingGuardModel", name := "isBridge", desc := "(I)Z" } : Jvm.MethodName)) := by decide +kernel
theorem k5_47 : tables_1_5[47]? = some (Jvm.Cond.privateMethod ({ cls := "RingGuardModel", name := "isBridge", desc := "(I)Z" } : Jvm.MethodName)) := by decide +kernel
theorem k5_48 : tables_1_5[48]? = some (Jvm.Cond.instanceMethod ({ cls := "RingGuardModel", name := "isBridge", desc := "(I)Z" } : Jvm.MethodName)) := by decide +kernel
theorem k5_49 : tables_1_5[49]? = some (Jvm.Cond.code ({ cls := "RingGuardModel", name := "isBridge", desc := "(I)Z" } : Jvm.MethodName) prog_10_method_3_code (2 : Nat) (Option.some Jvm.ClassFile.FieldType.boolean)) := rfl
theorem k5_50 : tables_1_5[50]? = some (Jvm.Cond.methodLink "RingGuardModel" (143 : Nat) ({ cls := "RingGuardModel", name := "isRing", desc := "(I)Z" } : Jvm.MethodName)) := by decide +kernel
theorem k5_51 : tables_1_5[51]? = some (Jvm.Cond.static ({ cls := "RingGuardModel", name := "isRing", desc := "(I)Z" } : Jvm.MethodName)) := by decide +kernel
theorem k5_52 : tables_1_5[52]? = some (Jvm.Cond.code ({ cls := "RingGuardModel", name := "isRing", desc := "(I)Z" } : Jvm.MethodName) prog_10_method_5_code (1 : Nat) (Option.some Jvm.ClassFile.FieldType.boolean)) := rfl
theorem k5_53 : tables_1_5[53]? = some (Jvm.Cond.methodLink "RingGuardModel" (146 : Nat) ({ cls := "RingGuardModel", name := "goes", desc := "(ZZ)Z" } : Jvm.MethodName)) := by decide +kernel
theorem k5_54 : tables_1_5[54]? = some (Jvm.Cond.privateMethod ({ cls := "RingGuardModel", name := "goes", desc := "(ZZ)Z" } : Jvm.MethodName)) := by decide +kernel
theorem k5_55 : tables_1_5[55]? = some (Jvm.Cond.instanceMethod ({ cls := "RingGuardModel", name := "goes", desc := "(ZZ)Z" } : Jvm.MethodName)) := by decide +kernel
theorem k5_56 : tables_1_5[56]? = some (Jvm.Cond.code ({ cls := "RingGuardModel", name := "goes", desc := "(ZZ)Z" } : Jvm.MethodName) prog_10_method_8_code (3 : Nat) (Option.some Jvm.ClassFile.FieldType.boolean)) := rfl
theorem k5_61 : tables_1_5[61]? = some (Jvm.Cond.methodLink "RingGuardModel" (150 : Nat) ({ cls := "RingGuardModel", name := "isLink", desc := "(I)Z" } : Jvm.MethodName)) := by decide +kernel
theorem k5_62 : tables_1_5[62]? = some (Jvm.Cond.privateMethod ({ cls := "RingGuardModel", name := "isLink", desc := "(I)Z" } : Jvm.MethodName)) := by decide +kernel
theorem k5_63 : tables_1_5[63]? = some (Jvm.Cond.instanceMethod ({ cls := "RingGuardModel", name := "isLink", desc := "(I)Z" } : Jvm.MethodName)) := by decide +kernel
theorem k5_64 : tables_1_5[64]? = some (Jvm.Cond.code ({ cls := "RingGuardModel", name := "isLink", desc := "(I)Z" } : Jvm.MethodName) prog_10_method_4_code (2 : Nat) (Option.some Jvm.ClassFile.FieldType.boolean)) := rfl
theorem k5_69 : tables_1_5[69]? = some (Jvm.Cond.methodLink "RingGuardModel" (181 : Nat) ({ cls := "RingGuardModel", name := "faultOf", desc := "()I" } : Jvm.MethodName)) := by decide +kernel
theorem k5_70 : tables_1_5[70]? = some (Jvm.Cond.privateMethod ({ cls := "RingGuardModel", name := "faultOf", desc := "()I" } : Jvm.MethodName)) := by decide +kernel
theorem k5_71 : tables_1_5[71]? = some (Jvm.Cond.instanceMethod ({ cls := "RingGuardModel", name := "faultOf", desc := "()I" } : Jvm.MethodName)) := by decide +kernel
theorem k5_72 : tables_1_5[72]? = some (Jvm.Cond.code ({ cls := "RingGuardModel", name := "faultOf", desc := "()I" } : Jvm.MethodName) prog_10_method_19_code (4 : Nat) (Option.some Jvm.ClassFile.FieldType.int)) := rfl
theorem k5_140 : tables_1_5[140]? = some (Jvm.Cond.methodLink "RingGuardModel" (215 : Nat) ({ cls := "RingGuardModel", name := "look", desc := "()V" } : Jvm.MethodName)) := by decide +kernel
theorem k5_141 : tables_1_5[141]? = some (Jvm.Cond.privateMethod ({ cls := "RingGuardModel", name := "look", desc := "()V" } : Jvm.MethodName)) := by decide +kernel
theorem k5_142 : tables_1_5[142]? = some (Jvm.Cond.instanceMethod ({ cls := "RingGuardModel", name := "look", desc := "()V" } : Jvm.MethodName)) := by decide +kernel
theorem k5_143 : tables_1_5[143]? = some (Jvm.Cond.code ({ cls := "RingGuardModel", name := "look", desc := "()V" } : Jvm.MethodName) prog_10_method_48_code (3 : Nat) (Option.none : Option Jvm.ClassFile.FieldType)) := rfl
abbrev yRG_requireBridge : MethodName := ⟨"RingGuard", "requireBridge", "(I)V"⟩
abbrev bRG_requireBridge : ByteArray := prog_1_method_25_code
abbrev yRG_requireLink : MethodName := ⟨"RingGuard", "requireLink", "(I)V"⟩
abbrev bRG_requireLink : ByteArray := prog_1_method_26_code
abbrev yRG_requireRing : MethodName := ⟨"RingGuard", "requireRing", "(I)V"⟩
abbrev bRG_requireRing : ByteArray := prog_1_method_28_code
abbrev yRG_requireHost : MethodName := ⟨"RingGuard", "requireHost", "(I)V"⟩
abbrev bRG_requireHost : ByteArray := prog_1_method_29_code
abbrev yRG_requireTag : MethodName := ⟨"RingGuard", "requireTag", "(I)V"⟩
abbrev bRG_requireTag : ByteArray := prog_1_method_30_code
abbrev yRG_requireNotStarted : MethodName := ⟨"RingGuard", "requireNotStarted", "()V"⟩
abbrev bRG_requireNotStarted : ByteArray := prog_1_method_23_code
abbrev yRG_requireStarted : MethodName := ⟨"RingGuard", "requireStarted", "()V"⟩
abbrev bRG_requireStarted : ByteArray := prog_1_method_24_code
abbrev yRG_requirePort : MethodName := ⟨"RingGuard", "requirePort", "(II)V"⟩
abbrev bRG_requirePort : ByteArray := prog_1_method_27_code
abbrev yRG_link : MethodName := ⟨"RingGuard", "link", "(III)I"⟩
abbrev bRG_link : ByteArray := prog_1_method_3_code
abbrev yRG_owner : MethodName := ⟨"RingGuard", "owner", "(III)V"⟩
abbrev bRG_owner : ByteArray := prog_1_method_4_code
abbrev yRG_fail : MethodName := ⟨"RingGuard", "fail", "(I)Z"⟩
abbrev bRG_fail : ByteArray := prog_1_method_6_code
abbrev yRG_heal : MethodName := ⟨"RingGuard", "heal", "(I)Z"⟩
abbrev bRG_heal : ByteArray := prog_1_method_7_code
abbrev yRG_lose : MethodName := ⟨"RingGuard", "lose", "(II)I"⟩
abbrev bRG_lose : ByteArray := prog_1_method_8_code
abbrev yRG_order : MethodName := ⟨"RingGuard", "order", "(IIZ)Z"⟩
abbrev bRG_order : ByteArray := prog_1_method_9_code
abbrev yRG_clear : MethodName := ⟨"RingGuard", "clear", "(II)Z"⟩
abbrev bRG_clear : ByteArray := prog_1_method_10_code
abbrev yRG_ticks : MethodName := ⟨"RingGuard", "ticks", "(I)I"⟩
abbrev bRG_ticks : ByteArray := prog_1_method_11_code
abbrev yRG_host : MethodName := ⟨"RingGuard", "host", "(II)I"⟩
abbrev bRG_host : ByteArray := prog_1_method_12_code
abbrev yRG_send : MethodName := ⟨"RingGuard", "send", "(III)I"⟩
abbrev bRG_send : ByteArray := prog_1_method_13_code
abbrev yRG_holds : MethodName := ⟨"RingGuard", "holds", "(II)I"⟩
abbrev bRG_holds : ByteArray := prog_1_method_15_code
abbrev yRG_told : MethodName := ⟨"RingGuard", "told", "(III)I"⟩
abbrev bRG_told : ByteArray := prog_1_method_16_code
abbrev yRG_learned : MethodName := ⟨"RingGuard", "learned", "(III)I"⟩
abbrev bRG_learned : ByteArray := prog_1_method_17_code
abbrev yRG_joined : MethodName := ⟨"RingGuard", "joined", "(II)Z"⟩
abbrev bRG_joined : ByteArray := prog_1_method_18_code
abbrev yRG_bridge : MethodName := ⟨"RingGuard", "bridge", "()I"⟩
abbrev bRG_bridge : ByteArray := prog_1_method_2_code
abbrev yPL_firstFault : MethodName := ⟨"RingGuard$Plan", "firstFault", "(LRingGuard$Groups;)I"⟩
abbrev bPL_firstFault : ByteArray := prog_5_method_7_code
abbrev yRG_start : MethodName := ⟨"RingGuard", "start", "()I"⟩
abbrev bRG_start : ByteArray := prog_1_method_5_code
abbrev yRG_visits : MethodName := ⟨"RingGuard", "visits", "()I"⟩
abbrev bRG_visits : ByteArray := prog_1_method_14_code
abbrev yRG_lost : MethodName := ⟨"RingGuard", "lost", "()I"⟩
abbrev bRG_lost : ByteArray := prog_1_method_20_code
abbrev yRG_circles : MethodName := ⟨"RingGuard", "circles", "()I"⟩
abbrev bRG_circles : ByteArray := prog_1_method_21_code
abbrev yRG_apart : MethodName := ⟨"RingGuard", "apart", "()I"⟩
abbrev bRG_apart : ByteArray := prog_1_method_22_code
abbrev yLA_link : MethodName := ⟨"RingGuardLaw", "link", "(LRingGuard;III[J)I"⟩
abbrev bLA_link : ByteArray := method_4_code
abbrev yLA_owner : MethodName := ⟨"RingGuardLaw", "owner", "(LRingGuard;III)I"⟩
abbrev bLA_owner : ByteArray := method_5_code
abbrev yLA_fail : MethodName := ⟨"RingGuardLaw", "fail", "(LRingGuard;I[J)I"⟩
abbrev bLA_fail : ByteArray := method_7_code
abbrev yLA_heal : MethodName := ⟨"RingGuardLaw", "heal", "(LRingGuard;I[J)I"⟩
abbrev bLA_heal : ByteArray := method_8_code
abbrev yLA_lose : MethodName := ⟨"RingGuardLaw", "lose", "(LRingGuard;II[J)I"⟩
abbrev bLA_lose : ByteArray := method_9_code
abbrev yLA_clear : MethodName := ⟨"RingGuardLaw", "clear", "(LRingGuard;II[J)I"⟩
abbrev bLA_clear : ByteArray := method_11_code
abbrev yLA_ticks : MethodName := ⟨"RingGuardLaw", "ticks", "(LRingGuard;I[J)I"⟩
abbrev bLA_ticks : ByteArray := method_12_code
abbrev yLA_host : MethodName := ⟨"RingGuardLaw", "host", "(LRingGuard;II[J)I"⟩
abbrev bLA_host : ByteArray := method_13_code
abbrev yLA_send : MethodName := ⟨"RingGuardLaw", "send", "(LRingGuard;III[J)I"⟩
abbrev bLA_send : ByteArray := method_14_code
abbrev yLA_holds : MethodName := ⟨"RingGuardLaw", "holds", "(LRingGuard;II[J)I"⟩
abbrev bLA_holds : ByteArray := method_15_code
abbrev yLA_told : MethodName := ⟨"RingGuardLaw", "told", "(LRingGuard;III[J)I"⟩
abbrev bLA_told : ByteArray := method_16_code
abbrev yLA_learned : MethodName := ⟨"RingGuardLaw", "learned", "(LRingGuard;III[J)I"⟩
abbrev bLA_learned : ByteArray := method_17_code
abbrev yLA_joined : MethodName := ⟨"RingGuardLaw", "joined", "(LRingGuard;II[J)I"⟩
abbrev bLA_joined : ByteArray := method_18_code
abbrev yLA_order : MethodName := ⟨"RingGuardLaw", "order", "(LRingGuard;IIZ[J)I"⟩
abbrev bLA_order : ByteArray := method_10_code
abbrev yLA_bridge : MethodName := ⟨"RingGuardLaw", "bridge", "(LRingGuard;[J)I"⟩
abbrev bLA_bridge : ByteArray := method_3_code
abbrev yLA_start : MethodName := ⟨"RingGuardLaw", "start", "(LRingGuard;[J)I"⟩
abbrev bLA_start : ByteArray := method_6_code
abbrev yMO_isBridge : MethodName := ⟨"RingGuardModel", "isBridge", "(I)Z"⟩
abbrev bMO_isBridge : ByteArray := prog_10_method_3_code
abbrev yMO_isLink : MethodName := ⟨"RingGuardModel", "isLink", "(I)Z"⟩
abbrev bMO_isLink : ByteArray := prog_10_method_4_code
abbrev yMO_isRing : MethodName := ⟨"RingGuardModel", "isRing", "(I)Z"⟩
abbrev bMO_isRing : ByteArray := prog_10_method_5_code
abbrev yMO_goes : MethodName := ⟨"RingGuardModel", "goes", "(ZZ)Z"⟩
abbrev bMO_goes : ByteArray := prog_10_method_8_code
abbrev yMO_thrown : MethodName := ⟨"RingGuardModel", "thrown", "()I"⟩
abbrev bMO_thrown : ByteArray := prog_10_method_2_code
abbrev yMO_look : MethodName := ⟨"RingGuardModel", "look", "()V"⟩
abbrev bMO_look : ByteArray := prog_10_method_48_code
abbrev yMO_faultOf : MethodName := ⟨"RingGuardModel", "faultOf", "()I"⟩
abbrev bMO_faultOf : ByteArray := prog_10_method_19_code
abbrev yMO_bridge : MethodName := ⟨"RingGuardModel", "bridge", "()I"⟩
abbrev bMO_bridge : ByteArray := prog_10_method_9_code
abbrev yMO_start : MethodName := ⟨"RingGuardModel", "start", "()I"⟩
abbrev bMO_start : ByteArray := prog_10_method_20_code
abbrev yMO_link : MethodName := ⟨"RingGuardModel", "link", "(III)I"⟩
abbrev bMO_link : ByteArray := prog_10_method_10_code
abbrev yMO_owner : MethodName := ⟨"RingGuardModel", "owner", "(III)V"⟩
abbrev bMO_owner : ByteArray := prog_10_method_11_code
abbrev yMO_fail : MethodName := ⟨"RingGuardModel", "fail", "(I)Z"⟩
abbrev bMO_fail : ByteArray := prog_10_method_31_code
abbrev yMO_heal : MethodName := ⟨"RingGuardModel", "heal", "(I)Z"⟩
abbrev bMO_heal : ByteArray := prog_10_method_32_code
abbrev yMO_lose : MethodName := ⟨"RingGuardModel", "lose", "(II)I"⟩
abbrev bMO_lose : ByteArray := prog_10_method_33_code
abbrev yMO_clear : MethodName := ⟨"RingGuardModel", "clear", "(II)Z"⟩
abbrev bMO_clear : ByteArray := prog_10_method_35_code
abbrev yMO_host : MethodName := ⟨"RingGuardModel", "host", "(II)I"⟩
abbrev bMO_host : ByteArray := prog_10_method_51_code
abbrev yMO_holds : MethodName := ⟨"RingGuardModel", "holds", "(II)I"⟩
abbrev bMO_holds : ByteArray := prog_10_method_55_code
abbrev yMO_joined : MethodName := ⟨"RingGuardModel", "joined", "(II)Z"⟩
abbrev bMO_joined : ByteArray := prog_10_method_58_code
abbrev yMO_order : MethodName := ⟨"RingGuardModel", "order", "(IIZ)Z"⟩
abbrev bMO_order : ByteArray := prog_10_method_34_code
abbrev yMO_told : MethodName := ⟨"RingGuardModel", "told", "(III)I"⟩
abbrev bMO_told : ByteArray := prog_10_method_56_code
abbrev yMO_learned : MethodName := ⟨"RingGuardModel", "learned", "(III)I"⟩
abbrev bMO_learned : ByteArray := prog_10_method_57_code
abbrev yMO_ticks : MethodName := ⟨"RingGuardModel", "ticks", "(I)I"⟩
abbrev bMO_ticks : ByteArray := prog_10_method_46_code
abbrev yMO_send : MethodName := ⟨"RingGuardModel", "send", "(III)I"⟩
abbrev bMO_send : ByteArray := prog_10_method_53_code
abbrev yMO_visits : MethodName := ⟨"RingGuardModel", "visits", "()I"⟩
abbrev bMO_visits : ByteArray := prog_10_method_54_code
abbrev yMO_lost : MethodName := ⟨"RingGuardModel", "lost", "()I"⟩
abbrev bMO_lost : ByteArray := prog_10_method_60_code
abbrev yMO_circles : MethodName := ⟨"RingGuardModel", "circles", "()I"⟩
abbrev bMO_circles : ByteArray := prog_10_method_61_code
abbrev yMO_apart : MethodName := ⟨"RingGuardModel", "apart", "()I"⟩
abbrev bMO_apart : ByteArray := prog_10_method_62_code
abbrev yWI_countOnLinks : MethodName := ⟨"RingGuard$Wires", "countOnLinks", "()I"⟩
abbrev bWI_countOnLinks : ByteArray := prog_8_method_7_code
abbrev yRG_casts : MethodName := ⟨"RingGuard", "casts", "()I"⟩
abbrev bRG_casts : ByteArray := prog_1_method_19_code
abbrev yMO_casts : MethodName := ⟨"RingGuardModel", "casts", "()I"⟩
abbrev bMO_casts : ByteArray := prog_10_method_59_code
abbrev yAR_fill : MethodName := ⟨"java/util/Arrays", "fill", "([II)V"⟩
abbrev bAR_fill : ByteArray := prog_18_method_103_code
abbrev yGR_init : MethodName := ⟨"RingGuard$Groups", "<init>", "()V"⟩
abbrev bGR_init : ByteArray := prog_4_method_1_code
abbrev yPL_init : MethodName := ⟨"RingGuard$Plan", "<init>", "()V"⟩
abbrev bPL_init : ByteArray := prog_5_method_1_code
abbrev yWI_init : MethodName := ⟨"RingGuard$Wires", "<init>", "()V"⟩
abbrev bWI_init : ByteArray := prog_8_method_1_code
abbrev yPR_init : MethodName := ⟨"RingGuard$Protocol", "<init>", "(LRingGuard$Plan;LRingGuard$Wires;LRingGuard$Tables;)V"⟩
abbrev bPR_init : ByteArray := prog_6_method_1_code
abbrev yFR_init : MethodName := ⟨"RingGuard$Frames", "<init>", "(LRingGuard$Plan;LRingGuard$Protocol;LRingGuard$Tables;)V"⟩
abbrev bFR_init : ByteArray := prog_3_method_1_code
theorem zac_int {a0 args : Array Value} {s0 s : State} (hB : tq_B zT a0 s0 s) : (Cond.arrayClass (newarray.typeOf .int)).before args s = true := zac hB (zm1 (i := 82) rfl)
theorem zac_boolean {a0 args : Array Value} {s0 s : State} (hB : tq_B zT a0 s0 s) : (Cond.arrayClass (newarray.typeOf .boolean)).before args s = true := zac hB (zm1 (i := 83) rfl)
theorem zac_long {a0 args : Array Value} {s0 s : State} (hB : tq_B zT a0 s0 s) : (Cond.arrayClass (newarray.typeOf .long)).before args s = true := zac hB (zm6 (i := 36) rfl)
theorem zgood {y : MethodName} {b : ByteArray} {n : Nat} {r : Option FieldType} : GoodIn [Cond.code y b n r] [Cond.code y b n r] := fun w h => ⟨h, by rw [List.mem_singleton.mp h]; exact Or.inl rfl⟩
theorem dRG_apart_0 : decode bRG_apart 0 = .ok (.aload_n 0, 1) := by decide +kernel
theorem dRG_apart_1 : decode bRG_apart 1 = .ok (.getfield 229, 3) := by decide +kernel
theorem dRG_apart_4 : decode bRG_apart 4 = .ok (.ireturn, 1) := by decide +kernel
theorem dRG_bridge_0 : decode bRG_bridge 0 = .ok (.aload_n 0, 1) := by decide +kernel
theorem dRG_bridge_1 : decode bRG_bridge 1 = .ok (.invokevirtual 55, 3) := by decide +kernel
theorem dRG_bridge_4 : decode bRG_bridge 4 = .ok (.aload_n 0, 1) := by decide +kernel
theorem dRG_bridge_5 : decode bRG_bridge 5 = .ok (.getfield 12, 3) := by decide +kernel
theorem dRG_bridge_8 : decode bRG_bridge 8 = .ok (.getfield 58, 3) := by decide +kernel
theorem dRG_bridge_11 : decode bRG_bridge 11 = .ok (.bipush 48, 2) := by decide +kernel
theorem dRG_bridge_13 : decode bRG_bridge 13 = .ok (.if_icmp .lt 13, 3) := by decide +kernel
theorem dRG_bridge_26 : decode bRG_bridge 26 = .ok (.aload_n 0, 1) := by decide +kernel
theorem dRG_bridge_27 : decode bRG_bridge 27 = .ok (.getfield 12, 3) := by decide +kernel
theorem dRG_bridge_30 : decode bRG_bridge 30 = .ok (.getfield 58, 3) := by decide +kernel
theorem dRG_bridge_33 : decode bRG_bridge 33 = .ok (.istore_n 1, 1) := by decide +kernel
theorem dRG_bridge_34 : decode bRG_bridge 34 = .ok (.aload_n 0, 1) := by decide +kernel
theorem dRG_bridge_35 : decode bRG_bridge 35 = .ok (.getfield 12, 3) := by decide +kernel
theorem dRG_bridge_38 : decode bRG_bridge 38 = .ok (.iload_n 1, 1) := by decide +kernel
theorem dRG_bridge_39 : decode bRG_bridge 39 = .ok (.iconst 1, 1) := by decide +kernel
theorem dRG_bridge_40 : decode bRG_bridge 40 = .ok (.iadd, 1) := by decide +kernel
theorem dRG_bridge_41 : decode bRG_bridge 41 = .ok (.putfield 58, 3) := by decide +kernel
theorem dRG_bridge_44 : decode bRG_bridge 44 = .ok (.iload_n 1, 1) := by decide +kernel
theorem dRG_bridge_45 : decode bRG_bridge 45 = .ok (.ireturn, 1) := by decide +kernel
theorem dRG_casts_0 : decode bRG_casts 0 = .ok (.aload_n 0, 1) := by decide +kernel
theorem dRG_casts_1 : decode bRG_casts 1 = .ok (.getfield 19, 3) := by decide +kernel
theorem dRG_casts_4 : decode bRG_casts 4 = .ok (.invokevirtual 220, 3) := by decide +kernel
theorem dRG_casts_7 : decode bRG_casts 7 = .ok (.ireturn, 1) := by decide +kernel
theorem dRG_circles_0 : decode bRG_circles 0 = .ok (.aload_n 0, 1) := by decide +kernel
theorem dRG_circles_1 : decode bRG_circles 1 = .ok (.getfield 226, 3) := by decide +kernel
theorem dRG_circles_4 : decode bRG_circles 4 = .ok (.ireturn, 1) := by decide +kernel
theorem dRG_clear_0 : decode bRG_clear 0 = .ok (.aload_n 0, 1) := by decide +kernel
theorem dRG_clear_1 : decode bRG_clear 1 = .ok (.iload_n 1, 1) := by decide +kernel
theorem dRG_clear_2 : decode bRG_clear 2 = .ok (.invokevirtual 69, 3) := by decide +kernel
theorem dRG_fail_0 : decode bRG_fail 0 = .ok (.aload_n 0, 1) := by decide +kernel
theorem dRG_fail_1 : decode bRG_fail 1 = .ok (.iload_n 1, 1) := by decide +kernel
theorem dRG_fail_2 : decode bRG_fail 2 = .ok (.invokevirtual 90, 3) := by decide +kernel
theorem dRG_heal_0 : decode bRG_heal 0 = .ok (.aload_n 0, 1) := by decide +kernel
theorem dRG_heal_1 : decode bRG_heal 1 = .ok (.iload_n 1, 1) := by decide +kernel
theorem dRG_heal_2 : decode bRG_heal 2 = .ok (.invokevirtual 90, 3) := by decide +kernel
theorem dRG_holds_0 : decode bRG_holds 0 = .ok (.aload_n 0, 1) := by decide +kernel
theorem dRG_holds_1 : decode bRG_holds 1 = .ok (.iload_n 1, 1) := by decide +kernel
theorem dRG_holds_2 : decode bRG_holds 2 = .ok (.iload_n 2, 1) := by decide +kernel
theorem dRG_holds_3 : decode bRG_holds 3 = .ok (.invokevirtual 135, 3) := by decide +kernel
theorem dRG_host_0 : decode bRG_host 0 = .ok (.aload_n 0, 1) := by decide +kernel
theorem dRG_host_1 : decode bRG_host 1 = .ok (.iload_n 1, 1) := by decide +kernel
theorem dRG_host_2 : decode bRG_host 2 = .ok (.invokevirtual 176, 3) := by decide +kernel
theorem dRG_host_5 : decode bRG_host 5 = .ok (.aload_n 0, 1) := by decide +kernel
theorem dRG_host_6 : decode bRG_host 6 = .ok (.iload_n 2, 1) := by decide +kernel
theorem dRG_host_7 : decode bRG_host 7 = .ok (.invokevirtual 69, 3) := by decide +kernel
theorem dRG_joined_0 : decode bRG_joined 0 = .ok (.aload_n 0, 1) := by decide +kernel
theorem dRG_joined_1 : decode bRG_joined 1 = .ok (.iload_n 1, 1) := by decide +kernel
theorem dRG_joined_2 : decode bRG_joined 2 = .ok (.invokevirtual 69, 3) := by decide +kernel
theorem dRG_learned_0 : decode bRG_learned 0 = .ok (.aload_n 0, 1) := by decide +kernel
theorem dRG_learned_1 : decode bRG_learned 1 = .ok (.iload_n 1, 1) := by decide +kernel
theorem dRG_learned_2 : decode bRG_learned 2 = .ok (.invokevirtual 69, 3) := by decide +kernel
theorem dRG_link_0 : decode bRG_link 0 = .ok (.aload_n 0, 1) := by decide +kernel
theorem dRG_link_1 : decode bRG_link 1 = .ok (.iload_n 1, 1) := by decide +kernel
theorem dRG_link_2 : decode bRG_link 2 = .ok (.invokevirtual 69, 3) := by decide +kernel
theorem dRG_lose_0 : decode bRG_lose 0 = .ok (.aload_n 0, 1) := by decide +kernel
theorem dRG_lose_1 : decode bRG_lose 1 = .ok (.iload_n 1, 1) := by decide +kernel
theorem dRG_lose_2 : decode bRG_lose 2 = .ok (.invokevirtual 90, 3) := by decide +kernel
theorem dRG_lost_0 : decode bRG_lost 0 = .ok (.aload_n 0, 1) := by decide +kernel
theorem dRG_lost_1 : decode bRG_lost 1 = .ok (.getfield 19, 3) := by decide +kernel
theorem dRG_lost_4 : decode bRG_lost 4 = .ok (.getfield 223, 3) := by decide +kernel
theorem dRG_lost_7 : decode bRG_lost 7 = .ok (.ireturn, 1) := by decide +kernel
theorem dRG_order_0 : decode bRG_order 0 = .ok (.aload_n 0, 1) := by decide +kernel
theorem dRG_order_1 : decode bRG_order 1 = .ok (.iload_n 1, 1) := by decide +kernel
theorem dRG_order_2 : decode bRG_order 2 = .ok (.iload_n 2, 1) := by decide +kernel
theorem dRG_order_3 : decode bRG_order 3 = .ok (.invokevirtual 135, 3) := by decide +kernel
theorem dRG_owner_0 : decode bRG_owner 0 = .ok (.aload_n 0, 1) := by decide +kernel
theorem dRG_owner_1 : decode bRG_owner 1 = .ok (.iload_n 1, 1) := by decide +kernel
theorem dRG_owner_2 : decode bRG_owner 2 = .ok (.invokevirtual 73, 3) := by decide +kernel
theorem dRG_owner_5 : decode bRG_owner 5 = .ok (.aload_n 0, 1) := by decide +kernel
theorem dRG_owner_6 : decode bRG_owner 6 = .ok (.iload_n 2, 1) := by decide +kernel
theorem dRG_owner_7 : decode bRG_owner 7 = .ok (.invokevirtual 69, 3) := by decide +kernel
theorem dRG_requireBridge_0 : decode bRG_requireBridge 0 = .ok (.iload_n 1, 1) := by decide +kernel
theorem dRG_requireBridge_1 : decode bRG_requireBridge 1 = .ok (.ifCond .lt 14, 3) := by decide +kernel
theorem dRG_requireBridge_4 : decode bRG_requireBridge 4 = .ok (.iload_n 1, 1) := by decide +kernel
theorem dRG_requireBridge_5 : decode bRG_requireBridge 5 = .ok (.aload_n 0, 1) := by decide +kernel
theorem dRG_requireBridge_6 : decode bRG_requireBridge 6 = .ok (.getfield 12, 3) := by decide +kernel
theorem dRG_requireBridge_9 : decode bRG_requireBridge 9 = .ok (.getfield 58, 3) := by decide +kernel
theorem dRG_requireBridge_12 : decode bRG_requireBridge 12 = .ok (.if_icmp .lt 13, 3) := by decide +kernel
theorem dRG_requireBridge_15 : decode bRG_requireBridge 15 = .ok (.new 76, 3) := by decide +kernel
theorem dRG_requireBridge_18 : decode bRG_requireBridge 18 = .ok (.dup, 1) := by decide +kernel
theorem dRG_requireBridge_19 : decode bRG_requireBridge 19 = .ok (.ldc 236, 2) := by decide +kernel
theorem dRG_requireBridge_21 : decode bRG_requireBridge 21 = .ok (.invokespecial 80, 3) := by decide +kernel
theorem dRG_requireBridge_24 : decode bRG_requireBridge 24 = .ok (.athrow, 1) := by decide +kernel
theorem dRG_requireHost_0 : decode bRG_requireHost 0 = .ok (.iload_n 1, 1) := by decide +kernel
theorem dRG_requireHost_1 : decode bRG_requireHost 1 = .ok (.ifCond .lt 9, 3) := by decide +kernel
theorem dRG_requireHost_4 : decode bRG_requireHost 4 = .ok (.iload_n 1, 1) := by decide +kernel
theorem dRG_requireHost_5 : decode bRG_requireHost 5 = .ok (.bipush 64, 2) := by decide +kernel
theorem dRG_requireHost_7 : decode bRG_requireHost 7 = .ok (.if_icmp .lt 13, 3) := by decide +kernel
theorem dRG_requireHost_10 : decode bRG_requireHost 10 = .ok (.new 76, 3) := by decide +kernel
theorem dRG_requireHost_13 : decode bRG_requireHost 13 = .ok (.dup, 1) := by decide +kernel
theorem dRG_requireHost_14 : decode bRG_requireHost 14 = .ok (.ldc 244, 2) := by decide +kernel
theorem dRG_requireHost_16 : decode bRG_requireHost 16 = .ok (.invokespecial 80, 3) := by decide +kernel
theorem dRG_requireHost_19 : decode bRG_requireHost 19 = .ok (.athrow, 1) := by decide +kernel
theorem dRG_requireHost_20 : decode bRG_requireHost 20 = .ok (.return_, 1) := by decide +kernel
theorem dRG_requireLink_0 : decode bRG_requireLink 0 = .ok (.iload_n 1, 1) := by decide +kernel
theorem dRG_requireLink_1 : decode bRG_requireLink 1 = .ok (.ifCond .lt 14, 3) := by decide +kernel
theorem dRG_requireLink_4 : decode bRG_requireLink 4 = .ok (.iload_n 1, 1) := by decide +kernel
theorem dRG_requireLink_5 : decode bRG_requireLink 5 = .ok (.aload_n 0, 1) := by decide +kernel
theorem dRG_requireLink_6 : decode bRG_requireLink 6 = .ok (.getfield 12, 3) := by decide +kernel
theorem dRG_requireLink_9 : decode bRG_requireLink 9 = .ok (.getfield 81, 3) := by decide +kernel
theorem dRG_requireLink_12 : decode bRG_requireLink 12 = .ok (.if_icmp .lt 13, 3) := by decide +kernel
theorem dRG_requireLink_15 : decode bRG_requireLink 15 = .ok (.new 76, 3) := by decide +kernel
theorem dRG_requireLink_18 : decode bRG_requireLink 18 = .ok (.dup, 1) := by decide +kernel
theorem dRG_requireLink_19 : decode bRG_requireLink 19 = .ok (.ldc 238, 2) := by decide +kernel
theorem dRG_requireLink_21 : decode bRG_requireLink 21 = .ok (.invokespecial 80, 3) := by decide +kernel
theorem dRG_requireLink_24 : decode bRG_requireLink 24 = .ok (.athrow, 1) := by decide +kernel
theorem dRG_requireNotStarted_0 : decode bRG_requireNotStarted 0 = .ok (.aload_n 0, 1) := by decide +kernel
theorem dRG_requireNotStarted_1 : decode bRG_requireNotStarted 1 = .ok (.getfield 104, 3) := by decide +kernel
theorem dRG_requireNotStarted_4 : decode bRG_requireNotStarted 4 = .ok (.ifCond .eq 13, 3) := by decide +kernel
theorem dRG_requireNotStarted_17 : decode bRG_requireNotStarted 17 = .ok (.return_, 1) := by decide +kernel
theorem dRG_requirePort_0 : decode bRG_requirePort 0 = .ok (.aload_n 0, 1) := by decide +kernel
theorem dRG_requirePort_1 : decode bRG_requirePort 1 = .ok (.iload_n 1, 1) := by decide +kernel
theorem dRG_requirePort_2 : decode bRG_requirePort 2 = .ok (.invokevirtual 69, 3) := by decide +kernel
theorem dRG_requireRing_0 : decode bRG_requireRing 0 = .ok (.iload_n 1, 1) := by decide +kernel
theorem dRG_requireRing_1 : decode bRG_requireRing 1 = .ok (.ifCond .lt 9, 3) := by decide +kernel
theorem dRG_requireRing_4 : decode bRG_requireRing 4 = .ok (.iload_n 1, 1) := by decide +kernel
theorem dRG_requireRing_5 : decode bRG_requireRing 5 = .ok (.bipush 6, 2) := by decide +kernel
theorem dRG_requireRing_7 : decode bRG_requireRing 7 = .ok (.if_icmp .lt 13, 3) := by decide +kernel
theorem dRG_requireRing_10 : decode bRG_requireRing 10 = .ok (.new 76, 3) := by decide +kernel
theorem dRG_requireRing_13 : decode bRG_requireRing 13 = .ok (.dup, 1) := by decide +kernel
theorem dRG_requireRing_14 : decode bRG_requireRing 14 = .ok (.ldc 242, 2) := by decide +kernel
theorem dRG_requireRing_16 : decode bRG_requireRing 16 = .ok (.invokespecial 80, 3) := by decide +kernel
theorem dRG_requireRing_19 : decode bRG_requireRing 19 = .ok (.athrow, 1) := by decide +kernel
theorem dRG_requireRing_20 : decode bRG_requireRing 20 = .ok (.return_, 1) := by decide +kernel
theorem dRG_requireStarted_0 : decode bRG_requireStarted 0 = .ok (.aload_n 0, 1) := by decide +kernel
theorem dRG_requireStarted_1 : decode bRG_requireStarted 1 = .ok (.getfield 104, 3) := by decide +kernel
theorem dRG_requireStarted_4 : decode bRG_requireStarted 4 = .ok (.ifCond .ne 13, 3) := by decide +kernel
theorem dRG_requireStarted_7 : decode bRG_requireStarted 7 = .ok (.new 62, 3) := by decide +kernel
theorem dRG_requireStarted_10 : decode bRG_requireStarted 10 = .ok (.dup, 1) := by decide +kernel
theorem dRG_requireStarted_11 : decode bRG_requireStarted 11 = .ok (.ldc 234, 2) := by decide +kernel
theorem dRG_requireStarted_13 : decode bRG_requireStarted 13 = .ok (.invokespecial 66, 3) := by decide +kernel
theorem dRG_requireStarted_16 : decode bRG_requireStarted 16 = .ok (.athrow, 1) := by decide +kernel
theorem dRG_requireTag_0 : decode bRG_requireTag 0 = .ok (.iload_n 1, 1) := by decide +kernel
theorem dRG_requireTag_1 : decode bRG_requireTag 1 = .ok (.ifCond .lt 8, 3) := by decide +kernel
theorem dRG_requireTag_4 : decode bRG_requireTag 4 = .ok (.iload_n 1, 1) := by decide +kernel
theorem dRG_requireTag_5 : decode bRG_requireTag 5 = .ok (.iconst 4, 1) := by decide +kernel
theorem dRG_requireTag_6 : decode bRG_requireTag 6 = .ok (.if_icmp .lt 13, 3) := by decide +kernel
theorem dRG_requireTag_9 : decode bRG_requireTag 9 = .ok (.new 76, 3) := by decide +kernel
theorem dRG_requireTag_12 : decode bRG_requireTag 12 = .ok (.dup, 1) := by decide +kernel
theorem dRG_requireTag_13 : decode bRG_requireTag 13 = .ok (.ldc 246, 2) := by decide +kernel
theorem dRG_requireTag_15 : decode bRG_requireTag 15 = .ok (.invokespecial 80, 3) := by decide +kernel
theorem dRG_requireTag_18 : decode bRG_requireTag 18 = .ok (.athrow, 1) := by decide +kernel
theorem dRG_requireTag_19 : decode bRG_requireTag 19 = .ok (.return_, 1) := by decide +kernel
theorem dRG_send_0 : decode bRG_send 0 = .ok (.aload_n 0, 1) := by decide +kernel
theorem dRG_send_1 : decode bRG_send 1 = .ok (.iload_n 1, 1) := by decide +kernel
theorem dRG_send_2 : decode bRG_send 2 = .ok (.invokevirtual 176, 3) := by decide +kernel
theorem dRG_send_5 : decode bRG_send 5 = .ok (.aload_n 0, 1) := by decide +kernel
theorem dRG_send_6 : decode bRG_send 6 = .ok (.iload_n 2, 1) := by decide +kernel
theorem dRG_send_7 : decode bRG_send 7 = .ok (.invokevirtual 176, 3) := by decide +kernel
theorem dRG_send_10 : decode bRG_send 10 = .ok (.aload_n 0, 1) := by decide +kernel
theorem dRG_send_11 : decode bRG_send 11 = .ok (.iload_n 3, 1) := by decide +kernel
theorem dRG_send_12 : decode bRG_send 12 = .ok (.invokevirtual 185, 3) := by decide +kernel
theorem dRG_send_15 : decode bRG_send 15 = .ok (.iload_n 1, 1) := by decide +kernel
theorem dRG_send_16 : decode bRG_send 16 = .ok (.iload_n 2, 1) := by decide +kernel
theorem dRG_send_17 : decode bRG_send 17 = .ok (.if_icmp .eq 29, 3) := by decide +kernel
theorem dRG_send_20 : decode bRG_send 20 = .ok (.aload_n 0, 1) := by decide +kernel
theorem dRG_send_21 : decode bRG_send 21 = .ok (.getfield 44, 3) := by decide +kernel
theorem dRG_send_24 : decode bRG_send 24 = .ok (.getfield 179, 3) := by decide +kernel
theorem dRG_send_27 : decode bRG_send 27 = .ok (.iload_n 1, 1) := by decide +kernel
theorem dRG_send_28 : decode bRG_send 28 = .ok (.iaload, 1) := by decide +kernel
theorem dRG_send_29 : decode bRG_send 29 = .ok (.iconst (-1), 1) := by decide +kernel
theorem dRG_send_30 : decode bRG_send 30 = .ok (.if_icmp .eq 16, 3) := by decide +kernel
theorem dRG_send_46 : decode bRG_send 46 = .ok (.new 76, 3) := by decide +kernel
theorem dRG_send_49 : decode bRG_send 49 = .ok (.dup, 1) := by decide +kernel
theorem dRG_send_50 : decode bRG_send 50 = .ok (.ldc 188, 2) := by decide +kernel
theorem dRG_send_52 : decode bRG_send 52 = .ok (.invokespecial 80, 3) := by decide +kernel
theorem dRG_send_55 : decode bRG_send 55 = .ok (.athrow, 1) := by decide +kernel
theorem dRG_start_0 : decode bRG_start 0 = .ok (.aload_n 0, 1) := by decide +kernel
theorem dRG_start_1 : decode bRG_start 1 = .ok (.invokevirtual 55, 3) := by decide +kernel
theorem dRG_start_4 : decode bRG_start 4 = .ok (.aload_n 0, 1) := by decide +kernel
theorem dRG_start_5 : decode bRG_start 5 = .ok (.getfield 12, 3) := by decide +kernel
theorem dRG_start_8 : decode bRG_start 8 = .ok (.aload_n 0, 1) := by decide +kernel
theorem dRG_start_9 : decode bRG_start 9 = .ok (.getfield 51, 3) := by decide +kernel
theorem dRG_start_12 : decode bRG_start 12 = .ok (.invokevirtual 100, 3) := by decide +kernel
theorem dRG_start_15 : decode bRG_start 15 = .ok (.istore_n 1, 1) := by decide +kernel
theorem dRG_start_16 : decode bRG_start 16 = .ok (.iload_n 1, 1) := by decide +kernel
theorem dRG_start_17 : decode bRG_start 17 = .ok (.ifCond .ne 22, 3) := by decide +kernel
theorem dRG_start_39 : decode bRG_start 39 = .ok (.iload_n 1, 1) := by decide +kernel
theorem dRG_start_40 : decode bRG_start 40 = .ok (.ireturn, 1) := by decide +kernel
theorem dRG_ticks_0 : decode bRG_ticks 0 = .ok (.iload_n 1, 1) := by decide +kernel
theorem dRG_ticks_1 : decode bRG_ticks 1 = .ok (.iconst 1, 1) := by decide +kernel
theorem dRG_ticks_2 : decode bRG_ticks 2 = .ok (.if_icmp .lt 10, 3) := by decide +kernel
theorem dRG_ticks_5 : decode bRG_ticks 5 = .ok (.iload_n 1, 1) := by decide +kernel
theorem dRG_ticks_6 : decode bRG_ticks 6 = .ok (.sipush 200, 3) := by decide +kernel
theorem dRG_ticks_9 : decode bRG_ticks 9 = .ok (.if_icmp .le 13, 3) := by decide +kernel
theorem dRG_ticks_12 : decode bRG_ticks 12 = .ok (.new 76, 3) := by decide +kernel
theorem dRG_ticks_15 : decode bRG_ticks 15 = .ok (.dup, 1) := by decide +kernel
theorem dRG_ticks_16 : decode bRG_ticks 16 = .ok (.ldc 150, 2) := by decide +kernel
theorem dRG_ticks_18 : decode bRG_ticks 18 = .ok (.invokespecial 80, 3) := by decide +kernel
theorem dRG_ticks_21 : decode bRG_ticks 21 = .ok (.athrow, 1) := by decide +kernel
theorem dRG_ticks_22 : decode bRG_ticks 22 = .ok (.aload_n 0, 1) := by decide +kernel
theorem dRG_ticks_23 : decode bRG_ticks 23 = .ok (.invokevirtual 114, 3) := by decide +kernel
theorem dRG_told_0 : decode bRG_told 0 = .ok (.aload_n 0, 1) := by decide +kernel
theorem dRG_told_1 : decode bRG_told 1 = .ok (.iload_n 1, 1) := by decide +kernel
theorem dRG_told_2 : decode bRG_told 2 = .ok (.invokevirtual 69, 3) := by decide +kernel
theorem dRG_visits_0 : decode bRG_visits 0 = .ok (.aload_n 0, 1) := by decide +kernel
theorem dRG_visits_1 : decode bRG_visits 1 = .ok (.getfield 44, 3) := by decide +kernel
theorem dRG_visits_4 : decode bRG_visits 4 = .ok (.getfield 194, 3) := by decide +kernel
theorem dRG_visits_7 : decode bRG_visits 7 = .ok (.ireturn, 1) := by decide +kernel
theorem dFR_init_0 : decode bFR_init 0 = .ok (.aload_n 0, 1) := by decide +kernel
theorem dFR_init_1 : decode bFR_init 1 = .ok (.invokespecial 3, 3) := by decide +kernel
theorem dFR_init_4 : decode bFR_init 4 = .ok (.aload_n 0, 1) := by decide +kernel
theorem dFR_init_5 : decode bFR_init 5 = .ok (.bipush 64, 2) := by decide +kernel
theorem dFR_init_7 : decode bFR_init 7 = .ok (.newarray .int, 2) := by decide +kernel
theorem dFR_init_9 : decode bFR_init 9 = .ok (.putfield 9, 3) := by decide +kernel
theorem dFR_init_12 : decode bFR_init 12 = .ok (.aload_n 0, 1) := by decide +kernel
theorem dFR_init_13 : decode bFR_init 13 = .ok (.sipush 400, 3) := by decide +kernel
theorem dFR_init_16 : decode bFR_init 16 = .ok (.newarray .int, 2) := by decide +kernel
theorem dFR_init_18 : decode bFR_init 18 = .ok (.putfield 15, 3) := by decide +kernel
theorem dFR_init_21 : decode bFR_init 21 = .ok (.aload_n 0, 1) := by decide +kernel
theorem dFR_init_22 : decode bFR_init 22 = .ok (.sipush 400, 3) := by decide +kernel
theorem dFR_init_25 : decode bFR_init 25 = .ok (.newarray .int, 2) := by decide +kernel
theorem dFR_init_27 : decode bFR_init 27 = .ok (.putfield 18, 3) := by decide +kernel
theorem dFR_init_30 : decode bFR_init 30 = .ok (.aload_n 0, 1) := by decide +kernel
theorem dFR_init_31 : decode bFR_init 31 = .ok (.bipush 120, 2) := by decide +kernel
theorem dFR_init_33 : decode bFR_init 33 = .ok (.newarray .int, 2) := by decide +kernel
theorem dFR_init_35 : decode bFR_init 35 = .ok (.putfield 21, 3) := by decide +kernel
theorem dFR_init_38 : decode bFR_init 38 = .ok (.aload_n 0, 1) := by decide +kernel
theorem dFR_init_39 : decode bFR_init 39 = .ok (.aload_n 1, 1) := by decide +kernel
theorem dFR_init_40 : decode bFR_init 40 = .ok (.putfield 24, 3) := by decide +kernel
theorem dFR_init_43 : decode bFR_init 43 = .ok (.aload_n 0, 1) := by decide +kernel
theorem dFR_init_44 : decode bFR_init 44 = .ok (.aload_n 2, 1) := by decide +kernel
theorem dFR_init_45 : decode bFR_init 45 = .ok (.putfield 28, 3) := by decide +kernel
theorem dFR_init_48 : decode bFR_init 48 = .ok (.aload_n 0, 1) := by decide +kernel
theorem dFR_init_49 : decode bFR_init 49 = .ok (.aload_n 3, 1) := by decide +kernel
theorem dFR_init_50 : decode bFR_init 50 = .ok (.putfield 32, 3) := by decide +kernel
theorem dFR_init_53 : decode bFR_init 53 = .ok (.aload_n 0, 1) := by decide +kernel
theorem dFR_init_54 : decode bFR_init 54 = .ok (.getfield 9, 3) := by decide +kernel
theorem dFR_init_57 : decode bFR_init 57 = .ok (.iconst (-1), 1) := by decide +kernel
theorem dFR_init_58 : decode bFR_init 58 = .ok (.invokestatic 36, 3) := by decide +kernel
theorem dFR_init_61 : decode bFR_init 61 = .ok (.return_, 1) := by decide +kernel
theorem dGR_init_0 : decode bGR_init 0 = .ok (.aload_n 0, 1) := by decide +kernel
theorem dGR_init_1 : decode bGR_init 1 = .ok (.invokespecial 3, 3) := by decide +kernel
theorem dGR_init_4 : decode bGR_init 4 = .ok (.aload_n 0, 1) := by decide +kernel
theorem dGR_init_5 : decode bGR_init 5 = .ok (.bipush 48, 2) := by decide +kernel
theorem dGR_init_7 : decode bGR_init 7 = .ok (.newarray .int, 2) := by decide +kernel
theorem dGR_init_9 : decode bGR_init 9 = .ok (.putfield 9, 3) := by decide +kernel
theorem dGR_init_12 : decode bGR_init 12 = .ok (.return_, 1) := by decide +kernel
theorem dPL_init_0 : decode bPL_init 0 = .ok (.aload_n 0, 1) := by decide +kernel
theorem dPL_init_1 : decode bPL_init 1 = .ok (.invokespecial 3, 3) := by decide +kernel
theorem dPL_init_4 : decode bPL_init 4 = .ok (.aload_n 0, 1) := by decide +kernel
theorem dPL_init_5 : decode bPL_init 5 = .ok (.bipush 60, 2) := by decide +kernel
theorem dPL_init_7 : decode bPL_init 7 = .ok (.newarray .int, 2) := by decide +kernel
theorem dPL_init_9 : decode bPL_init 9 = .ok (.putfield 9, 3) := by decide +kernel
theorem dPL_init_12 : decode bPL_init 12 = .ok (.aload_n 0, 1) := by decide +kernel
theorem dPL_init_13 : decode bPL_init 13 = .ok (.bipush 60, 2) := by decide +kernel
theorem dPL_init_15 : decode bPL_init 15 = .ok (.newarray .int, 2) := by decide +kernel
theorem dPL_init_17 : decode bPL_init 17 = .ok (.putfield 15, 3) := by decide +kernel
theorem dPL_init_20 : decode bPL_init 20 = .ok (.aload_n 0, 1) := by decide +kernel
theorem dPL_init_21 : decode bPL_init 21 = .ok (.bipush 60, 2) := by decide +kernel
theorem dPL_init_23 : decode bPL_init 23 = .ok (.newarray .int, 2) := by decide +kernel
theorem dPL_init_25 : decode bPL_init 25 = .ok (.putfield 18, 3) := by decide +kernel
theorem dPL_init_28 : decode bPL_init 28 = .ok (.aload_n 0, 1) := by decide +kernel
theorem dPL_init_29 : decode bPL_init 29 = .ok (.bipush 6, 2) := by decide +kernel
theorem dPL_init_31 : decode bPL_init 31 = .ok (.newarray .int, 2) := by decide +kernel
theorem dPL_init_33 : decode bPL_init 33 = .ok (.putfield 21, 3) := by decide +kernel
theorem dPL_init_36 : decode bPL_init 36 = .ok (.aload_n 0, 1) := by decide +kernel
theorem dPL_init_37 : decode bPL_init 37 = .ok (.bipush 6, 2) := by decide +kernel
theorem dPL_init_39 : decode bPL_init 39 = .ok (.newarray .int, 2) := by decide +kernel
theorem dPL_init_41 : decode bPL_init 41 = .ok (.putfield 24, 3) := by decide +kernel
theorem dPL_init_44 : decode bPL_init 44 = .ok (.aload_n 0, 1) := by decide +kernel
theorem dPL_init_45 : decode bPL_init 45 = .ok (.bipush 120, 2) := by decide +kernel
theorem dPL_init_47 : decode bPL_init 47 = .ok (.newarray .int, 2) := by decide +kernel
theorem dPL_init_49 : decode bPL_init 49 = .ok (.putfield 27, 3) := by decide +kernel
theorem dPL_init_52 : decode bPL_init 52 = .ok (.aload_n 0, 1) := by decide +kernel
theorem dPL_init_53 : decode bPL_init 53 = .ok (.bipush 6, 2) := by decide +kernel
theorem dPL_init_55 : decode bPL_init 55 = .ok (.newarray .int, 2) := by decide +kernel
theorem dPL_init_57 : decode bPL_init 57 = .ok (.putfield 30, 3) := by decide +kernel
theorem dPL_init_60 : decode bPL_init 60 = .ok (.aload_n 0, 1) := by decide +kernel
theorem dPL_init_61 : decode bPL_init 61 = .ok (.sipush 576, 3) := by decide +kernel
theorem dPL_init_64 : decode bPL_init 64 = .ok (.newarray .int, 2) := by decide +kernel
theorem dPL_init_66 : decode bPL_init 66 = .ok (.putfield 33, 3) := by decide +kernel
theorem dPL_init_69 : decode bPL_init 69 = .ok (.aload_n 0, 1) := by decide +kernel
theorem dPL_init_70 : decode bPL_init 70 = .ok (.bipush 6, 2) := by decide +kernel
theorem dPL_init_72 : decode bPL_init 72 = .ok (.newarray .boolean, 2) := by decide +kernel
theorem dPL_init_74 : decode bPL_init 74 = .ok (.putfield 36, 3) := by decide +kernel
theorem dPL_init_77 : decode bPL_init 77 = .ok (.aload_n 0, 1) := by decide +kernel
theorem dPL_init_78 : decode bPL_init 78 = .ok (.getfield 21, 3) := by decide +kernel
theorem dPL_init_81 : decode bPL_init 81 = .ok (.iconst (-1), 1) := by decide +kernel
theorem dPL_init_82 : decode bPL_init 82 = .ok (.invokestatic 40, 3) := by decide +kernel
theorem dPL_init_85 : decode bPL_init 85 = .ok (.aload_n 0, 1) := by decide +kernel
theorem dPL_init_86 : decode bPL_init 86 = .ok (.getfield 24, 3) := by decide +kernel
theorem dPL_init_89 : decode bPL_init 89 = .ok (.iconst (-1), 1) := by decide +kernel
theorem dPL_init_90 : decode bPL_init 90 = .ok (.invokestatic 40, 3) := by decide +kernel
theorem dPL_init_93 : decode bPL_init 93 = .ok (.aload_n 0, 1) := by decide +kernel
theorem dPL_init_94 : decode bPL_init 94 = .ok (.getfield 30, 3) := by decide +kernel
theorem dPL_init_97 : decode bPL_init 97 = .ok (.iconst (-1), 1) := by decide +kernel
theorem dPL_init_98 : decode bPL_init 98 = .ok (.invokestatic 40, 3) := by decide +kernel
theorem dPL_init_101 : decode bPL_init 101 = .ok (.aload_n 0, 1) := by decide +kernel
theorem dPL_init_102 : decode bPL_init 102 = .ok (.getfield 33, 3) := by decide +kernel
theorem dPL_init_105 : decode bPL_init 105 = .ok (.iconst (-1), 1) := by decide +kernel
theorem dPL_init_106 : decode bPL_init 106 = .ok (.invokestatic 40, 3) := by decide +kernel
theorem dPL_init_109 : decode bPL_init 109 = .ok (.return_, 1) := by decide +kernel
theorem dPL_firstFault_0 : decode bPL_firstFault 0 = .ok (.aload_n 0, 1) := by decide +kernel
theorem dPL_firstFault_1 : decode bPL_firstFault 1 = .ok (.getfield 46, 3) := by decide +kernel
theorem dPL_firstFault_4 : decode bPL_firstFault 4 = .ok (.ifCond .eq 10, 3) := by decide +kernel
theorem dPL_firstFault_14 : decode bPL_firstFault 14 = .ok (.bipush 7, 2) := by decide +kernel
theorem dPL_firstFault_16 : decode bPL_firstFault 16 = .ok (.ireturn, 1) := by decide +kernel
theorem dPR_init_0 : decode bPR_init 0 = .ok (.aload_n 0, 1) := by decide +kernel
theorem dPR_init_1 : decode bPR_init 1 = .ok (.invokespecial 3, 3) := by decide +kernel
theorem dPR_init_4 : decode bPR_init 4 = .ok (.aload_n 0, 1) := by decide +kernel
theorem dPR_init_5 : decode bPR_init 5 = .ok (.bipush 120, 2) := by decide +kernel
theorem dPR_init_7 : decode bPR_init 7 = .ok (.newarray .int, 2) := by decide +kernel
theorem dPR_init_9 : decode bPR_init 9 = .ok (.putfield 9, 3) := by decide +kernel
theorem dPR_init_12 : decode bPR_init 12 = .ok (.aload_n 0, 1) := by decide +kernel
theorem dPR_init_13 : decode bPR_init 13 = .ok (.sipush 288, 3) := by decide +kernel
theorem dPR_init_16 : decode bPR_init 16 = .ok (.newarray .int, 2) := by decide +kernel
theorem dPR_init_18 : decode bPR_init 18 = .ok (.putfield 15, 3) := by decide +kernel
theorem dPR_init_21 : decode bPR_init 21 = .ok (.aload_n 0, 1) := by decide +kernel
theorem dPR_init_22 : decode bPR_init 22 = .ok (.sipush 288, 3) := by decide +kernel
theorem dPR_init_25 : decode bPR_init 25 = .ok (.newarray .int, 2) := by decide +kernel
theorem dPR_init_27 : decode bPR_init 27 = .ok (.putfield 18, 3) := by decide +kernel
theorem dPR_init_30 : decode bPR_init 30 = .ok (.aload_n 0, 1) := by decide +kernel
theorem dPR_init_31 : decode bPR_init 31 = .ok (.bipush 6, 2) := by decide +kernel
theorem dPR_init_33 : decode bPR_init 33 = .ok (.newarray .int, 2) := by decide +kernel
theorem dPR_init_35 : decode bPR_init 35 = .ok (.putfield 21, 3) := by decide +kernel
theorem dPR_init_38 : decode bPR_init 38 = .ok (.aload_n 0, 1) := by decide +kernel
theorem dPR_init_39 : decode bPR_init 39 = .ok (.bipush 6, 2) := by decide +kernel
theorem dPR_init_41 : decode bPR_init 41 = .ok (.newarray .int, 2) := by decide +kernel
theorem dPR_init_43 : decode bPR_init 43 = .ok (.putfield 24, 3) := by decide +kernel
theorem dPR_init_46 : decode bPR_init 46 = .ok (.aload_n 0, 1) := by decide +kernel
theorem dPR_init_47 : decode bPR_init 47 = .ok (.bipush 60, 2) := by decide +kernel
theorem dPR_init_49 : decode bPR_init 49 = .ok (.newarray .int, 2) := by decide +kernel
theorem dPR_init_51 : decode bPR_init 51 = .ok (.putfield 27, 3) := by decide +kernel
theorem dPR_init_54 : decode bPR_init 54 = .ok (.aload_n 0, 1) := by decide +kernel
theorem dPR_init_55 : decode bPR_init 55 = .ok (.bipush 48, 2) := by decide +kernel
theorem dPR_init_57 : decode bPR_init 57 = .ok (.newarray .int, 2) := by decide +kernel
theorem dPR_init_59 : decode bPR_init 59 = .ok (.putfield 30, 3) := by decide +kernel
theorem dPR_init_62 : decode bPR_init 62 = .ok (.aload_n 0, 1) := by decide +kernel
theorem dPR_init_63 : decode bPR_init 63 = .ok (.sipush 5472, 3) := by decide +kernel
theorem dPR_init_66 : decode bPR_init 66 = .ok (.newarray .int, 2) := by decide +kernel
theorem dPR_init_68 : decode bPR_init 68 = .ok (.putfield 35, 3) := by decide +kernel
theorem dPR_init_71 : decode bPR_init 71 = .ok (.aload_n 0, 1) := by decide +kernel
theorem dPR_init_72 : decode bPR_init 72 = .ok (.bipush 48, 2) := by decide +kernel
theorem dPR_init_74 : decode bPR_init 74 = .ok (.newarray .int, 2) := by decide +kernel
theorem dPR_init_76 : decode bPR_init 76 = .ok (.putfield 38, 3) := by decide +kernel
theorem dPR_init_79 : decode bPR_init 79 = .ok (.aload_n 0, 1) := by decide +kernel
theorem dPR_init_80 : decode bPR_init 80 = .ok (.iconst 1, 1) := by decide +kernel
theorem dPR_init_81 : decode bPR_init 81 = .ok (.putfield 41, 3) := by decide +kernel
theorem dPR_init_84 : decode bPR_init 84 = .ok (.aload_n 0, 1) := by decide +kernel
theorem dPR_init_85 : decode bPR_init 85 = .ok (.aload_n 1, 1) := by decide +kernel
theorem dPR_init_86 : decode bPR_init 86 = .ok (.putfield 45, 3) := by decide +kernel
theorem dPR_init_89 : decode bPR_init 89 = .ok (.aload_n 0, 1) := by decide +kernel
theorem dPR_init_90 : decode bPR_init 90 = .ok (.aload_n 2, 1) := by decide +kernel
theorem dPR_init_91 : decode bPR_init 91 = .ok (.putfield 49, 3) := by decide +kernel
theorem dPR_init_94 : decode bPR_init 94 = .ok (.aload_n 0, 1) := by decide +kernel
theorem dPR_init_95 : decode bPR_init 95 = .ok (.aload_n 3, 1) := by decide +kernel
theorem dPR_init_96 : decode bPR_init 96 = .ok (.putfield 53, 3) := by decide +kernel
theorem dPR_init_99 : decode bPR_init 99 = .ok (.return_, 1) := by decide +kernel
theorem dWI_init_0 : decode bWI_init 0 = .ok (.aload_n 0, 1) := by decide +kernel
theorem dWI_init_1 : decode bWI_init 1 = .ok (.invokespecial 3, 3) := by decide +kernel
theorem dWI_init_4 : decode bWI_init 4 = .ok (.aload_n 0, 1) := by decide +kernel
theorem dWI_init_5 : decode bWI_init 5 = .ok (.sipush 7680, 3) := by decide +kernel
theorem dWI_init_8 : decode bWI_init 8 = .ok (.newarray .int, 2) := by decide +kernel
theorem dWI_init_10 : decode bWI_init 10 = .ok (.putfield 11, 3) := by decide +kernel
theorem dWI_init_13 : decode bWI_init 13 = .ok (.aload_n 0, 1) := by decide +kernel
theorem dWI_init_14 : decode bWI_init 14 = .ok (.bipush 120, 2) := by decide +kernel
theorem dWI_init_16 : decode bWI_init 16 = .ok (.newarray .int, 2) := by decide +kernel
theorem dWI_init_18 : decode bWI_init 18 = .ok (.putfield 15, 3) := by decide +kernel
theorem dWI_init_21 : decode bWI_init 21 = .ok (.aload_n 0, 1) := by decide +kernel
theorem dWI_init_22 : decode bWI_init 22 = .ok (.sipush 7680, 3) := by decide +kernel
theorem dWI_init_25 : decode bWI_init 25 = .ok (.newarray .int, 2) := by decide +kernel
theorem dWI_init_27 : decode bWI_init 27 = .ok (.putfield 18, 3) := by decide +kernel
theorem dWI_init_30 : decode bWI_init 30 = .ok (.aload_n 0, 1) := by decide +kernel
theorem dWI_init_31 : decode bWI_init 31 = .ok (.bipush 120, 2) := by decide +kernel
theorem dWI_init_33 : decode bWI_init 33 = .ok (.newarray .int, 2) := by decide +kernel
theorem dWI_init_35 : decode bWI_init 35 = .ok (.putfield 21, 3) := by decide +kernel
theorem dWI_init_38 : decode bWI_init 38 = .ok (.aload_n 0, 1) := by decide +kernel
theorem dWI_init_39 : decode bWI_init 39 = .ok (.bipush 60, 2) := by decide +kernel
theorem dWI_init_41 : decode bWI_init 41 = .ok (.newarray .int, 2) := by decide +kernel
theorem dWI_init_43 : decode bWI_init 43 = .ok (.putfield 24, 3) := by decide +kernel
theorem dWI_init_46 : decode bWI_init 46 = .ok (.return_, 1) := by decide +kernel
theorem dWI_countOnLinks_0 : decode bWI_countOnLinks 0 = .ok (.iconst 0, 1) := by decide +kernel
theorem dWI_countOnLinks_1 : decode bWI_countOnLinks 1 = .ok (.istore_n 1, 1) := by decide +kernel
theorem dWI_countOnLinks_2 : decode bWI_countOnLinks 2 = .ok (.iconst 0, 1) := by decide +kernel
theorem dWI_countOnLinks_3 : decode bWI_countOnLinks 3 = .ok (.istore_n 2, 1) := by decide +kernel
theorem dWI_countOnLinks_4 : decode bWI_countOnLinks 4 = .ok (.iload_n 2, 1) := by decide +kernel
theorem dWI_countOnLinks_5 : decode bWI_countOnLinks 5 = .ok (.bipush 120, 2) := by decide +kernel
theorem dWI_countOnLinks_7 : decode bWI_countOnLinks 7 = .ok (.if_icmp .ge 18, 3) := by decide +kernel
theorem dWI_countOnLinks_10 : decode bWI_countOnLinks 10 = .ok (.iload_n 1, 1) := by decide +kernel
theorem dWI_countOnLinks_11 : decode bWI_countOnLinks 11 = .ok (.aload_n 0, 1) := by decide +kernel
theorem dWI_countOnLinks_12 : decode bWI_countOnLinks 12 = .ok (.getfield 21, 3) := by decide +kernel
theorem dWI_countOnLinks_15 : decode bWI_countOnLinks 15 = .ok (.iload_n 2, 1) := by decide +kernel
theorem dWI_countOnLinks_16 : decode bWI_countOnLinks 16 = .ok (.iaload, 1) := by decide +kernel
theorem dWI_countOnLinks_17 : decode bWI_countOnLinks 17 = .ok (.iadd, 1) := by decide +kernel
theorem dWI_countOnLinks_18 : decode bWI_countOnLinks 18 = .ok (.istore_n 1, 1) := by decide +kernel
theorem dWI_countOnLinks_19 : decode bWI_countOnLinks 19 = .ok (.iinc 2 1, 3) := by decide +kernel
theorem dWI_countOnLinks_22 : decode bWI_countOnLinks 22 = .ok (.goto (-18), 3) := by decide +kernel
theorem dWI_countOnLinks_25 : decode bWI_countOnLinks 25 = .ok (.iload_n 1, 1) := by decide +kernel
theorem dWI_countOnLinks_26 : decode bWI_countOnLinks 26 = .ok (.ireturn, 1) := by decide +kernel
theorem dLA_bridge_0 : decode bLA_bridge 0 = .ok (.aload_n 1, 1) := by decide +kernel
theorem dLA_bridge_1 : decode bLA_bridge 1 = .ok (.iconst 0, 1) := by decide +kernel
theorem dLA_bridge_2 : decode bLA_bridge 2 = .ok (.aload_n 0, 1) := by decide +kernel
theorem dLA_bridge_3 : decode bLA_bridge 3 = .ok (.invokevirtual 7, 3) := by decide +kernel
theorem dLA_bridge_6 : decode bLA_bridge 6 = .ok (.i2l, 1) := by decide +kernel
theorem dLA_bridge_7 : decode bLA_bridge 7 = .ok (.lastore, 1) := by decide +kernel
theorem dLA_bridge_8 : decode bLA_bridge 8 = .ok (.goto 6, 3) := by decide +kernel
theorem dLA_bridge_14 : decode bLA_bridge 14 = .ok (.iconst 0, 1) := by decide +kernel
theorem dLA_bridge_15 : decode bLA_bridge 15 = .ok (.ireturn, 1) := by decide +kernel
theorem dLA_clear_0 : decode bLA_clear 0 = .ok (.aload_n 3, 1) := by decide +kernel
theorem dLA_clear_1 : decode bLA_clear 1 = .ok (.iconst 0, 1) := by decide +kernel
theorem dLA_clear_2 : decode bLA_clear 2 = .ok (.aload_n 0, 1) := by decide +kernel
theorem dLA_clear_3 : decode bLA_clear 3 = .ok (.iload_n 1, 1) := by decide +kernel
theorem dLA_clear_4 : decode bLA_clear 4 = .ok (.iload_n 2, 1) := by decide +kernel
theorem dLA_clear_5 : decode bLA_clear 5 = .ok (.invokevirtual 43, 3) := by decide +kernel
theorem dLA_clear_20 : decode bLA_clear 20 = .ok (.astore 4, 2) := by decide +kernel
theorem dLA_clear_22 : decode bLA_clear 22 = .ok (.iconst 1, 1) := by decide +kernel
theorem dLA_clear_23 : decode bLA_clear 23 = .ok (.ireturn, 1) := by decide +kernel
theorem dLA_fail_0 : decode bLA_fail 0 = .ok (.aload_n 2, 1) := by decide +kernel
theorem dLA_fail_1 : decode bLA_fail 1 = .ok (.iconst 0, 1) := by decide +kernel
theorem dLA_fail_2 : decode bLA_fail 2 = .ok (.aload_n 0, 1) := by decide +kernel
theorem dLA_fail_3 : decode bLA_fail 3 = .ok (.iload_n 1, 1) := by decide +kernel
theorem dLA_fail_4 : decode bLA_fail 4 = .ok (.invokevirtual 28, 3) := by decide +kernel
theorem dLA_fail_19 : decode bLA_fail 19 = .ok (.astore_n 3, 1) := by decide +kernel
theorem dLA_fail_20 : decode bLA_fail 20 = .ok (.iconst 1, 1) := by decide +kernel
theorem dLA_fail_21 : decode bLA_fail 21 = .ok (.ireturn, 1) := by decide +kernel
theorem dLA_heal_0 : decode bLA_heal 0 = .ok (.aload_n 2, 1) := by decide +kernel
theorem dLA_heal_1 : decode bLA_heal 1 = .ok (.iconst 0, 1) := by decide +kernel
theorem dLA_heal_2 : decode bLA_heal 2 = .ok (.aload_n 0, 1) := by decide +kernel
theorem dLA_heal_3 : decode bLA_heal 3 = .ok (.iload_n 1, 1) := by decide +kernel
theorem dLA_heal_4 : decode bLA_heal 4 = .ok (.invokevirtual 32, 3) := by decide +kernel
theorem dLA_heal_19 : decode bLA_heal 19 = .ok (.astore_n 3, 1) := by decide +kernel
theorem dLA_heal_20 : decode bLA_heal 20 = .ok (.iconst 1, 1) := by decide +kernel
theorem dLA_heal_21 : decode bLA_heal 21 = .ok (.ireturn, 1) := by decide +kernel
theorem dLA_holds_0 : decode bLA_holds 0 = .ok (.aload_n 3, 1) := by decide +kernel
theorem dLA_holds_1 : decode bLA_holds 1 = .ok (.iconst 0, 1) := by decide +kernel
theorem dLA_holds_2 : decode bLA_holds 2 = .ok (.aload_n 0, 1) := by decide +kernel
theorem dLA_holds_3 : decode bLA_holds 3 = .ok (.iload_n 1, 1) := by decide +kernel
theorem dLA_holds_4 : decode bLA_holds 4 = .ok (.iload_n 2, 1) := by decide +kernel
theorem dLA_holds_5 : decode bLA_holds 5 = .ok (.invokevirtual 57, 3) := by decide +kernel
theorem dLA_holds_13 : decode bLA_holds 13 = .ok (.astore 4, 2) := by decide +kernel
theorem dLA_holds_15 : decode bLA_holds 15 = .ok (.iconst 1, 1) := by decide +kernel
theorem dLA_holds_16 : decode bLA_holds 16 = .ok (.ireturn, 1) := by decide +kernel
theorem dLA_host_0 : decode bLA_host 0 = .ok (.aload_n 3, 1) := by decide +kernel
theorem dLA_host_1 : decode bLA_host 1 = .ok (.iconst 0, 1) := by decide +kernel
theorem dLA_host_2 : decode bLA_host 2 = .ok (.aload_n 0, 1) := by decide +kernel
theorem dLA_host_3 : decode bLA_host 3 = .ok (.iload_n 1, 1) := by decide +kernel
theorem dLA_host_4 : decode bLA_host 4 = .ok (.iload_n 2, 1) := by decide +kernel
theorem dLA_host_5 : decode bLA_host 5 = .ok (.invokevirtual 51, 3) := by decide +kernel
theorem dLA_host_13 : decode bLA_host 13 = .ok (.astore 4, 2) := by decide +kernel
theorem dLA_host_15 : decode bLA_host 15 = .ok (.iconst 1, 1) := by decide +kernel
theorem dLA_host_16 : decode bLA_host 16 = .ok (.ireturn, 1) := by decide +kernel
theorem dLA_joined_0 : decode bLA_joined 0 = .ok (.aload_n 3, 1) := by decide +kernel
theorem dLA_joined_1 : decode bLA_joined 1 = .ok (.iconst 0, 1) := by decide +kernel
theorem dLA_joined_2 : decode bLA_joined 2 = .ok (.aload_n 0, 1) := by decide +kernel
theorem dLA_joined_3 : decode bLA_joined 3 = .ok (.iload_n 1, 1) := by decide +kernel
theorem dLA_joined_4 : decode bLA_joined 4 = .ok (.iload_n 2, 1) := by decide +kernel
theorem dLA_joined_5 : decode bLA_joined 5 = .ok (.invokevirtual 66, 3) := by decide +kernel
theorem dLA_joined_20 : decode bLA_joined 20 = .ok (.astore 4, 2) := by decide +kernel
theorem dLA_joined_22 : decode bLA_joined 22 = .ok (.iconst 1, 1) := by decide +kernel
theorem dLA_joined_23 : decode bLA_joined 23 = .ok (.ireturn, 1) := by decide +kernel
theorem dLA_learned_0 : decode bLA_learned 0 = .ok (.aload 4, 2) := by decide +kernel
theorem dLA_learned_2 : decode bLA_learned 2 = .ok (.iconst 0, 1) := by decide +kernel
theorem dLA_learned_3 : decode bLA_learned 3 = .ok (.aload_n 0, 1) := by decide +kernel
theorem dLA_learned_4 : decode bLA_learned 4 = .ok (.iload_n 1, 1) := by decide +kernel
theorem dLA_learned_5 : decode bLA_learned 5 = .ok (.iload_n 2, 1) := by decide +kernel
theorem dLA_learned_6 : decode bLA_learned 6 = .ok (.iload_n 3, 1) := by decide +kernel
theorem dLA_learned_7 : decode bLA_learned 7 = .ok (.invokevirtual 63, 3) := by decide +kernel
theorem dLA_learned_15 : decode bLA_learned 15 = .ok (.astore 5, 2) := by decide +kernel
theorem dLA_learned_17 : decode bLA_learned 17 = .ok (.iconst 1, 1) := by decide +kernel
theorem dLA_learned_18 : decode bLA_learned 18 = .ok (.ireturn, 1) := by decide +kernel
theorem dLA_link_0 : decode bLA_link 0 = .ok (.aload 4, 2) := by decide +kernel
theorem dLA_link_2 : decode bLA_link 2 = .ok (.iconst 0, 1) := by decide +kernel
theorem dLA_link_3 : decode bLA_link 3 = .ok (.aload_n 0, 1) := by decide +kernel
theorem dLA_link_4 : decode bLA_link 4 = .ok (.iload_n 1, 1) := by decide +kernel
theorem dLA_link_5 : decode bLA_link 5 = .ok (.iload_n 2, 1) := by decide +kernel
theorem dLA_link_6 : decode bLA_link 6 = .ok (.iload_n 3, 1) := by decide +kernel
theorem dLA_link_7 : decode bLA_link 7 = .ok (.invokevirtual 15, 3) := by decide +kernel
theorem dLA_link_15 : decode bLA_link 15 = .ok (.astore 5, 2) := by decide +kernel
theorem dLA_link_17 : decode bLA_link 17 = .ok (.iconst 1, 1) := by decide +kernel
theorem dLA_link_18 : decode bLA_link 18 = .ok (.ireturn, 1) := by decide +kernel
theorem dLA_lose_0 : decode bLA_lose 0 = .ok (.aload_n 3, 1) := by decide +kernel
theorem dLA_lose_1 : decode bLA_lose 1 = .ok (.iconst 0, 1) := by decide +kernel
theorem dLA_lose_2 : decode bLA_lose 2 = .ok (.aload_n 0, 1) := by decide +kernel
theorem dLA_lose_3 : decode bLA_lose 3 = .ok (.iload_n 1, 1) := by decide +kernel
theorem dLA_lose_4 : decode bLA_lose 4 = .ok (.iload_n 2, 1) := by decide +kernel
theorem dLA_lose_5 : decode bLA_lose 5 = .ok (.invokevirtual 35, 3) := by decide +kernel
theorem dLA_lose_13 : decode bLA_lose 13 = .ok (.astore 4, 2) := by decide +kernel
theorem dLA_lose_15 : decode bLA_lose 15 = .ok (.iconst 1, 1) := by decide +kernel
theorem dLA_lose_16 : decode bLA_lose 16 = .ok (.ireturn, 1) := by decide +kernel
theorem dLA_order_0 : decode bLA_order 0 = .ok (.aload 4, 2) := by decide +kernel
theorem dLA_order_2 : decode bLA_order 2 = .ok (.iconst 0, 1) := by decide +kernel
theorem dLA_order_3 : decode bLA_order 3 = .ok (.aload_n 0, 1) := by decide +kernel
theorem dLA_order_4 : decode bLA_order 4 = .ok (.iload_n 1, 1) := by decide +kernel
theorem dLA_order_5 : decode bLA_order 5 = .ok (.iload_n 2, 1) := by decide +kernel
theorem dLA_order_6 : decode bLA_order 6 = .ok (.iload_n 3, 1) := by decide +kernel
theorem dLA_order_7 : decode bLA_order 7 = .ok (.invokevirtual 39, 3) := by decide +kernel
theorem dLA_order_22 : decode bLA_order 22 = .ok (.astore 5, 2) := by decide +kernel
theorem dLA_order_24 : decode bLA_order 24 = .ok (.iconst 1, 1) := by decide +kernel
theorem dLA_order_25 : decode bLA_order 25 = .ok (.ireturn, 1) := by decide +kernel
theorem dLA_owner_0 : decode bLA_owner 0 = .ok (.aload_n 0, 1) := by decide +kernel
theorem dLA_owner_1 : decode bLA_owner 1 = .ok (.iload_n 1, 1) := by decide +kernel
theorem dLA_owner_2 : decode bLA_owner 2 = .ok (.iload_n 2, 1) := by decide +kernel
theorem dLA_owner_3 : decode bLA_owner 3 = .ok (.iload_n 3, 1) := by decide +kernel
theorem dLA_owner_4 : decode bLA_owner 4 = .ok (.invokevirtual 21, 3) := by decide +kernel
theorem dLA_owner_10 : decode bLA_owner 10 = .ok (.astore 4, 2) := by decide +kernel
theorem dLA_owner_12 : decode bLA_owner 12 = .ok (.iconst 1, 1) := by decide +kernel
theorem dLA_owner_13 : decode bLA_owner 13 = .ok (.ireturn, 1) := by decide +kernel
theorem dLA_send_0 : decode bLA_send 0 = .ok (.aload 4, 2) := by decide +kernel
theorem dLA_send_2 : decode bLA_send 2 = .ok (.iconst 0, 1) := by decide +kernel
theorem dLA_send_3 : decode bLA_send 3 = .ok (.aload_n 0, 1) := by decide +kernel
theorem dLA_send_4 : decode bLA_send 4 = .ok (.iload_n 1, 1) := by decide +kernel
theorem dLA_send_5 : decode bLA_send 5 = .ok (.iload_n 2, 1) := by decide +kernel
theorem dLA_send_6 : decode bLA_send 6 = .ok (.iload_n 3, 1) := by decide +kernel
theorem dLA_send_7 : decode bLA_send 7 = .ok (.invokevirtual 54, 3) := by decide +kernel
theorem dLA_send_15 : decode bLA_send 15 = .ok (.astore 5, 2) := by decide +kernel
theorem dLA_send_17 : decode bLA_send 17 = .ok (.iconst 1, 1) := by decide +kernel
theorem dLA_send_18 : decode bLA_send 18 = .ok (.ireturn, 1) := by decide +kernel
theorem dLA_start_0 : decode bLA_start 0 = .ok (.aload_n 1, 1) := by decide +kernel
theorem dLA_start_1 : decode bLA_start 1 = .ok (.iconst 0, 1) := by decide +kernel
theorem dLA_start_2 : decode bLA_start 2 = .ok (.aload_n 0, 1) := by decide +kernel
theorem dLA_start_3 : decode bLA_start 3 = .ok (.invokevirtual 25, 3) := by decide +kernel
theorem dLA_start_6 : decode bLA_start 6 = .ok (.i2l, 1) := by decide +kernel
theorem dLA_start_7 : decode bLA_start 7 = .ok (.lastore, 1) := by decide +kernel
theorem dLA_start_8 : decode bLA_start 8 = .ok (.goto 6, 3) := by decide +kernel
theorem dLA_start_14 : decode bLA_start 14 = .ok (.iconst 0, 1) := by decide +kernel
theorem dLA_start_15 : decode bLA_start 15 = .ok (.ireturn, 1) := by decide +kernel
theorem dLA_ticks_0 : decode bLA_ticks 0 = .ok (.aload_n 2, 1) := by decide +kernel
theorem dLA_ticks_1 : decode bLA_ticks 1 = .ok (.iconst 0, 1) := by decide +kernel
theorem dLA_ticks_2 : decode bLA_ticks 2 = .ok (.aload_n 0, 1) := by decide +kernel
theorem dLA_ticks_3 : decode bLA_ticks 3 = .ok (.iload_n 1, 1) := by decide +kernel
theorem dLA_ticks_4 : decode bLA_ticks 4 = .ok (.invokevirtual 47, 3) := by decide +kernel
theorem dLA_ticks_12 : decode bLA_ticks 12 = .ok (.astore_n 3, 1) := by decide +kernel
theorem dLA_ticks_13 : decode bLA_ticks 13 = .ok (.iconst 1, 1) := by decide +kernel
theorem dLA_ticks_14 : decode bLA_ticks 14 = .ok (.ireturn, 1) := by decide +kernel
theorem dLA_ticks_15 : decode bLA_ticks 15 = .ok (.astore_n 3, 1) := by decide +kernel
theorem dLA_ticks_16 : decode bLA_ticks 16 = .ok (.iconst 2, 1) := by decide +kernel
theorem dLA_ticks_17 : decode bLA_ticks 17 = .ok (.ireturn, 1) := by decide +kernel
theorem dLA_told_0 : decode bLA_told 0 = .ok (.aload 4, 2) := by decide +kernel
theorem dLA_told_2 : decode bLA_told 2 = .ok (.iconst 0, 1) := by decide +kernel
theorem dLA_told_3 : decode bLA_told 3 = .ok (.aload_n 0, 1) := by decide +kernel
theorem dLA_told_4 : decode bLA_told 4 = .ok (.iload_n 1, 1) := by decide +kernel
theorem dLA_told_5 : decode bLA_told 5 = .ok (.iload_n 2, 1) := by decide +kernel
theorem dLA_told_6 : decode bLA_told 6 = .ok (.iload_n 3, 1) := by decide +kernel
theorem dLA_told_7 : decode bLA_told 7 = .ok (.invokevirtual 60, 3) := by decide +kernel
theorem dLA_told_15 : decode bLA_told 15 = .ok (.astore 5, 2) := by decide +kernel
theorem dLA_told_17 : decode bLA_told 17 = .ok (.iconst 1, 1) := by decide +kernel
theorem dLA_told_18 : decode bLA_told 18 = .ok (.ireturn, 1) := by decide +kernel
theorem dMO_apart_0 : decode bMO_apart 0 = .ok (.aload_n 0, 1) := by decide +kernel
theorem dMO_apart_1 : decode bMO_apart 1 = .ok (.iconst 0, 1) := by decide +kernel
theorem dMO_apart_2 : decode bMO_apart 2 = .ok (.putfield 125, 3) := by decide +kernel
theorem dMO_apart_5 : decode bMO_apart 5 = .ok (.aload_n 0, 1) := by decide +kernel
theorem dMO_apart_6 : decode bMO_apart 6 = .ok (.getfield 274, 3) := by decide +kernel
theorem dMO_apart_9 : decode bMO_apart 9 = .ok (.ireturn, 1) := by decide +kernel
theorem dMO_bridge_0 : decode bMO_bridge 0 = .ok (.aload_n 0, 1) := by decide +kernel
theorem dMO_bridge_1 : decode bMO_bridge 1 = .ok (.aload_n 0, 1) := by decide +kernel
theorem dMO_bridge_2 : decode bMO_bridge 2 = .ok (.getfield 135, 3) := by decide +kernel
theorem dMO_bridge_5 : decode bMO_bridge 5 = .ok (.ifCond .ne 12, 3) := by decide +kernel
theorem dMO_bridge_8 : decode bMO_bridge 8 = .ok (.aload_n 0, 1) := by decide +kernel
theorem dMO_bridge_9 : decode bMO_bridge 9 = .ok (.getfield 129, 3) := by decide +kernel
theorem dMO_bridge_12 : decode bMO_bridge 12 = .ok (.bipush 48, 2) := by decide +kernel
theorem dMO_bridge_14 : decode bMO_bridge 14 = .ok (.if_icmp .ne 7, 3) := by decide +kernel
theorem dMO_bridge_21 : decode bMO_bridge 21 = .ok (.iconst 0, 1) := by decide +kernel
theorem dMO_bridge_22 : decode bMO_bridge 22 = .ok (.putfield 125, 3) := by decide +kernel
theorem dMO_bridge_25 : decode bMO_bridge 25 = .ok (.aload_n 0, 1) := by decide +kernel
theorem dMO_bridge_26 : decode bMO_bridge 26 = .ok (.getfield 125, 3) := by decide +kernel
theorem dMO_bridge_29 : decode bMO_bridge 29 = .ok (.ifCond .le 5, 3) := by decide +kernel
theorem dMO_bridge_34 : decode bMO_bridge 34 = .ok (.aload_n 0, 1) := by decide +kernel
theorem dMO_bridge_35 : decode bMO_bridge 35 = .ok (.dup, 1) := by decide +kernel
theorem dMO_bridge_36 : decode bMO_bridge 36 = .ok (.getfield 129, 3) := by decide +kernel
theorem dMO_bridge_39 : decode bMO_bridge 39 = .ok (.iconst 1, 1) := by decide +kernel
theorem dMO_bridge_40 : decode bMO_bridge 40 = .ok (.iadd, 1) := by decide +kernel
theorem dMO_bridge_41 : decode bMO_bridge 41 = .ok (.putfield 129, 3) := by decide +kernel
theorem dMO_bridge_44 : decode bMO_bridge 44 = .ok (.aload_n 0, 1) := by decide +kernel
theorem dMO_bridge_45 : decode bMO_bridge 45 = .ok (.getfield 129, 3) := by decide +kernel
theorem dMO_bridge_48 : decode bMO_bridge 48 = .ok (.iconst 1, 1) := by decide +kernel
theorem dMO_bridge_49 : decode bMO_bridge 49 = .ok (.isub, 1) := by decide +kernel
theorem dMO_bridge_50 : decode bMO_bridge 50 = .ok (.ireturn, 1) := by decide +kernel
theorem dMO_casts_0 : decode bMO_casts 0 = .ok (.aload_n 0, 1) := by decide +kernel
theorem dMO_casts_1 : decode bMO_casts 1 = .ok (.iconst 0, 1) := by decide +kernel
theorem dMO_casts_2 : decode bMO_casts 2 = .ok (.putfield 125, 3) := by decide +kernel
theorem dMO_casts_5 : decode bMO_casts 5 = .ok (.iconst 0, 1) := by decide +kernel
theorem dMO_casts_6 : decode bMO_casts 6 = .ok (.istore_n 1, 1) := by decide +kernel
theorem dMO_casts_7 : decode bMO_casts 7 = .ok (.iconst 0, 1) := by decide +kernel
theorem dMO_casts_8 : decode bMO_casts 8 = .ok (.istore_n 2, 1) := by decide +kernel
theorem dMO_casts_9 : decode bMO_casts 9 = .ok (.iload_n 2, 1) := by decide +kernel
theorem dMO_casts_10 : decode bMO_casts 10 = .ok (.bipush 120, 2) := by decide +kernel
theorem dMO_casts_12 : decode bMO_casts 12 = .ok (.if_icmp .ge 18, 3) := by decide +kernel
theorem dMO_casts_15 : decode bMO_casts 15 = .ok (.iload_n 1, 1) := by decide +kernel
theorem dMO_casts_16 : decode bMO_casts 16 = .ok (.aload_n 0, 1) := by decide +kernel
theorem dMO_casts_17 : decode bMO_casts 17 = .ok (.getfield 80, 3) := by decide +kernel
theorem dMO_casts_20 : decode bMO_casts 20 = .ok (.iload_n 2, 1) := by decide +kernel
theorem dMO_casts_21 : decode bMO_casts 21 = .ok (.iaload, 1) := by decide +kernel
theorem dMO_casts_22 : decode bMO_casts 22 = .ok (.iadd, 1) := by decide +kernel
theorem dMO_casts_23 : decode bMO_casts 23 = .ok (.istore_n 1, 1) := by decide +kernel
theorem dMO_casts_24 : decode bMO_casts 24 = .ok (.iinc 2 1, 3) := by decide +kernel
theorem dMO_casts_27 : decode bMO_casts 27 = .ok (.goto (-18), 3) := by decide +kernel
theorem dMO_casts_30 : decode bMO_casts 30 = .ok (.iload_n 1, 1) := by decide +kernel
theorem dMO_casts_31 : decode bMO_casts 31 = .ok (.ireturn, 1) := by decide +kernel
theorem dMO_circles_0 : decode bMO_circles 0 = .ok (.aload_n 0, 1) := by decide +kernel
theorem dMO_circles_1 : decode bMO_circles 1 = .ok (.iconst 0, 1) := by decide +kernel
theorem dMO_circles_2 : decode bMO_circles 2 = .ok (.putfield 125, 3) := by decide +kernel
theorem dMO_circles_5 : decode bMO_circles 5 = .ok (.aload_n 0, 1) := by decide +kernel
theorem dMO_circles_6 : decode bMO_circles 6 = .ok (.getfield 290, 3) := by decide +kernel
theorem dMO_circles_9 : decode bMO_circles 9 = .ok (.ireturn, 1) := by decide +kernel
theorem dMO_clear_0 : decode bMO_clear 0 = .ok (.aload_n 0, 1) := by decide +kernel
theorem dMO_clear_1 : decode bMO_clear 1 = .ok (.aload_n 0, 1) := by decide +kernel
theorem dMO_clear_2 : decode bMO_clear 2 = .ok (.iload_n 1, 1) := by decide +kernel
theorem dMO_clear_3 : decode bMO_clear 3 = .ok (.invokevirtual 139, 3) := by decide +kernel
theorem dMO_clear_6 : decode bMO_clear 6 = .ok (.ifCond .eq 14, 3) := by decide +kernel
theorem dMO_clear_20 : decode bMO_clear 20 = .ok (.iconst 0, 1) := by decide +kernel
theorem dMO_clear_21 : decode bMO_clear 21 = .ok (.aload_n 0, 1) := by decide +kernel
theorem dMO_clear_22 : decode bMO_clear 22 = .ok (.getfield 135, 3) := by decide +kernel
theorem dMO_clear_25 : decode bMO_clear 25 = .ok (.invokevirtual 146, 3) := by decide +kernel
theorem dMO_clear_28 : decode bMO_clear 28 = .ok (.ifCond .ne 5, 3) := by decide +kernel
theorem dMO_clear_31 : decode bMO_clear 31 = .ok (.iconst 0, 1) := by decide +kernel
theorem dMO_clear_32 : decode bMO_clear 32 = .ok (.ireturn, 1) := by decide +kernel
theorem dMO_fail_0 : decode bMO_fail 0 = .ok (.aload_n 0, 1) := by decide +kernel
theorem dMO_fail_1 : decode bMO_fail 1 = .ok (.aload_n 0, 1) := by decide +kernel
theorem dMO_fail_2 : decode bMO_fail 2 = .ok (.iload_n 1, 1) := by decide +kernel
theorem dMO_fail_3 : decode bMO_fail 3 = .ok (.invokevirtual 150, 3) := by decide +kernel
theorem dMO_fail_6 : decode bMO_fail 6 = .ok (.aload_n 0, 1) := by decide +kernel
theorem dMO_fail_7 : decode bMO_fail 7 = .ok (.getfield 135, 3) := by decide +kernel
theorem dMO_fail_10 : decode bMO_fail 10 = .ok (.invokevirtual 146, 3) := by decide +kernel
theorem dMO_fail_13 : decode bMO_fail 13 = .ok (.ifCond .eq 12, 3) := by decide +kernel
theorem dMO_fail_25 : decode bMO_fail 25 = .ok (.aload_n 0, 1) := by decide +kernel
theorem dMO_fail_26 : decode bMO_fail 26 = .ok (.invokevirtual 215, 3) := by decide +kernel
theorem dMO_fail_29 : decode bMO_fail 29 = .ok (.iconst 0, 1) := by decide +kernel
theorem dMO_fail_30 : decode bMO_fail 30 = .ok (.ireturn, 1) := by decide +kernel
theorem dMO_faultOf_0 : decode bMO_faultOf 0 = .ok (.aload_n 0, 1) := by decide +kernel
theorem dMO_faultOf_1 : decode bMO_faultOf 1 = .ok (.getfield 132, 3) := by decide +kernel
theorem dMO_faultOf_4 : decode bMO_faultOf 4 = .ok (.ifCond .ne 6, 3) := by decide +kernel
theorem dMO_faultOf_7 : decode bMO_faultOf 7 = .ok (.bipush 7, 2) := by decide +kernel
theorem dMO_faultOf_9 : decode bMO_faultOf 9 = .ok (.ireturn, 1) := by decide +kernel
theorem dMO_goes_0 : decode bMO_goes 0 = .ok (.aload_n 0, 1) := by decide +kernel
theorem dMO_goes_1 : decode bMO_goes 1 = .ok (.iload_n 1, 1) := by decide +kernel
theorem dMO_goes_2 : decode bMO_goes 2 = .ok (.ifCond .ne 7, 3) := by decide +kernel
theorem dMO_goes_5 : decode bMO_goes 5 = .ok (.iconst 1, 1) := by decide +kernel
theorem dMO_goes_6 : decode bMO_goes 6 = .ok (.goto 12, 3) := by decide +kernel
theorem dMO_goes_9 : decode bMO_goes 9 = .ok (.iload_n 2, 1) := by decide +kernel
theorem dMO_goes_10 : decode bMO_goes 10 = .ok (.ifCond .ne 7, 3) := by decide +kernel
theorem dMO_goes_13 : decode bMO_goes 13 = .ok (.iconst 2, 1) := by decide +kernel
theorem dMO_goes_14 : decode bMO_goes 14 = .ok (.goto 4, 3) := by decide +kernel
theorem dMO_goes_18 : decode bMO_goes 18 = .ok (.putfield 125, 3) := by decide +kernel
theorem dMO_goes_21 : decode bMO_goes 21 = .ok (.aload_n 0, 1) := by decide +kernel
theorem dMO_goes_22 : decode bMO_goes 22 = .ok (.getfield 125, 3) := by decide +kernel
theorem dMO_goes_25 : decode bMO_goes 25 = .ok (.ifCond .ne 7, 3) := by decide +kernel
theorem dMO_goes_32 : decode bMO_goes 32 = .ok (.iconst 0, 1) := by decide +kernel
theorem dMO_goes_33 : decode bMO_goes 33 = .ok (.ireturn, 1) := by decide +kernel
theorem dMO_heal_0 : decode bMO_heal 0 = .ok (.aload_n 0, 1) := by decide +kernel
theorem dMO_heal_1 : decode bMO_heal 1 = .ok (.aload_n 0, 1) := by decide +kernel
theorem dMO_heal_2 : decode bMO_heal 2 = .ok (.iload_n 1, 1) := by decide +kernel
theorem dMO_heal_3 : decode bMO_heal 3 = .ok (.invokevirtual 150, 3) := by decide +kernel
theorem dMO_heal_6 : decode bMO_heal 6 = .ok (.aload_n 0, 1) := by decide +kernel
theorem dMO_heal_7 : decode bMO_heal 7 = .ok (.getfield 135, 3) := by decide +kernel
theorem dMO_heal_10 : decode bMO_heal 10 = .ok (.invokevirtual 146, 3) := by decide +kernel
theorem dMO_heal_13 : decode bMO_heal 13 = .ok (.ifCond .eq 12, 3) := by decide +kernel
theorem dMO_heal_25 : decode bMO_heal 25 = .ok (.aload_n 0, 1) := by decide +kernel
theorem dMO_heal_26 : decode bMO_heal 26 = .ok (.invokevirtual 215, 3) := by decide +kernel
theorem dMO_heal_29 : decode bMO_heal 29 = .ok (.iconst 0, 1) := by decide +kernel
theorem dMO_heal_30 : decode bMO_heal 30 = .ok (.ireturn, 1) := by decide +kernel
theorem dMO_holds_0 : decode bMO_holds 0 = .ok (.aload_n 0, 1) := by decide +kernel
theorem dMO_holds_1 : decode bMO_holds 1 = .ok (.aload_n 0, 1) := by decide +kernel
theorem dMO_holds_2 : decode bMO_holds 2 = .ok (.iload_n 1, 1) := by decide +kernel
theorem dMO_holds_3 : decode bMO_holds 3 = .ok (.invokevirtual 139, 3) := by decide +kernel
theorem dMO_holds_6 : decode bMO_holds 6 = .ok (.ifCond .eq 24, 3) := by decide +kernel
theorem dMO_holds_30 : decode bMO_holds 30 = .ok (.iconst 1, 1) := by decide +kernel
theorem dMO_holds_31 : decode bMO_holds 31 = .ok (.putfield 125, 3) := by decide +kernel
theorem dMO_holds_34 : decode bMO_holds 34 = .ok (.aload_n 0, 1) := by decide +kernel
theorem dMO_holds_35 : decode bMO_holds 35 = .ok (.getfield 125, 3) := by decide +kernel
theorem dMO_holds_38 : decode bMO_holds 38 = .ok (.ifCond .le 7, 3) := by decide +kernel
theorem dMO_holds_41 : decode bMO_holds 41 = .ok (.iconst 0, 1) := by decide +kernel
theorem dMO_holds_42 : decode bMO_holds 42 = .ok (.goto 14, 3) := by decide +kernel
theorem dMO_holds_56 : decode bMO_holds 56 = .ok (.ireturn, 1) := by decide +kernel
theorem dMO_host_0 : decode bMO_host 0 = .ok (.aload_n 0, 1) := by decide +kernel
theorem dMO_host_1 : decode bMO_host 1 = .ok (.iload_n 1, 1) := by decide +kernel
theorem dMO_host_2 : decode bMO_host 2 = .ok (.ifCond .lt 21, 3) := by decide +kernel
theorem dMO_host_5 : decode bMO_host 5 = .ok (.iload_n 1, 1) := by decide +kernel
theorem dMO_host_6 : decode bMO_host 6 = .ok (.bipush 64, 2) := by decide +kernel
theorem dMO_host_8 : decode bMO_host 8 = .ok (.if_icmp .ge 15, 3) := by decide +kernel
theorem dMO_host_11 : decode bMO_host 11 = .ok (.aload_n 0, 1) := by decide +kernel
theorem dMO_host_12 : decode bMO_host 12 = .ok (.iload_n 2, 1) := by decide +kernel
theorem dMO_host_13 : decode bMO_host 13 = .ok (.invokevirtual 139, 3) := by decide +kernel
theorem dMO_host_16 : decode bMO_host 16 = .ok (.ifCond .eq 7, 3) := by decide +kernel
theorem dMO_host_23 : decode bMO_host 23 = .ok (.iconst 0, 1) := by decide +kernel
theorem dMO_host_24 : decode bMO_host 24 = .ok (.aload_n 0, 1) := by decide +kernel
theorem dMO_host_25 : decode bMO_host 25 = .ok (.getfield 135, 3) := by decide +kernel
theorem dMO_host_28 : decode bMO_host 28 = .ok (.invokevirtual 146, 3) := by decide +kernel
theorem dMO_host_31 : decode bMO_host 31 = .ok (.ifCond .ne 5, 3) := by decide +kernel
theorem dMO_host_34 : decode bMO_host 34 = .ok (.iconst 0, 1) := by decide +kernel
theorem dMO_host_35 : decode bMO_host 35 = .ok (.ireturn, 1) := by decide +kernel
theorem dMO_isBridge_0 : decode bMO_isBridge 0 = .ok (.iload_n 1, 1) := by decide +kernel
theorem dMO_isBridge_1 : decode bMO_isBridge 1 = .ok (.ifCond .lt 15, 3) := by decide +kernel
theorem dMO_isBridge_4 : decode bMO_isBridge 4 = .ok (.iload_n 1, 1) := by decide +kernel
theorem dMO_isBridge_5 : decode bMO_isBridge 5 = .ok (.aload_n 0, 1) := by decide +kernel
theorem dMO_isBridge_6 : decode bMO_isBridge 6 = .ok (.getfield 129, 3) := by decide +kernel
theorem dMO_isBridge_9 : decode bMO_isBridge 9 = .ok (.if_icmp .ge 7, 3) := by decide +kernel
theorem dMO_isBridge_16 : decode bMO_isBridge 16 = .ok (.iconst 0, 1) := by decide +kernel
theorem dMO_isBridge_17 : decode bMO_isBridge 17 = .ok (.ireturn, 1) := by decide +kernel
theorem dMO_isLink_0 : decode bMO_isLink 0 = .ok (.iload_n 1, 1) := by decide +kernel
theorem dMO_isLink_1 : decode bMO_isLink 1 = .ok (.ifCond .lt 15, 3) := by decide +kernel
theorem dMO_isLink_4 : decode bMO_isLink 4 = .ok (.iload_n 1, 1) := by decide +kernel
theorem dMO_isLink_5 : decode bMO_isLink 5 = .ok (.aload_n 0, 1) := by decide +kernel
theorem dMO_isLink_6 : decode bMO_isLink 6 = .ok (.getfield 132, 3) := by decide +kernel
theorem dMO_isLink_9 : decode bMO_isLink 9 = .ok (.if_icmp .ge 7, 3) := by decide +kernel
theorem dMO_isLink_16 : decode bMO_isLink 16 = .ok (.iconst 0, 1) := by decide +kernel
theorem dMO_isLink_17 : decode bMO_isLink 17 = .ok (.ireturn, 1) := by decide +kernel
theorem dMO_isRing_0 : decode bMO_isRing 0 = .ok (.iload_n 0, 1) := by decide +kernel
theorem dMO_isRing_1 : decode bMO_isRing 1 = .ok (.ifCond .lt 13, 3) := by decide +kernel
theorem dMO_isRing_4 : decode bMO_isRing 4 = .ok (.iload_n 0, 1) := by decide +kernel
theorem dMO_isRing_5 : decode bMO_isRing 5 = .ok (.bipush 6, 2) := by decide +kernel
theorem dMO_isRing_7 : decode bMO_isRing 7 = .ok (.if_icmp .ge 7, 3) := by decide +kernel
theorem dMO_isRing_10 : decode bMO_isRing 10 = .ok (.iconst 1, 1) := by decide +kernel
theorem dMO_isRing_11 : decode bMO_isRing 11 = .ok (.goto 4, 3) := by decide +kernel
theorem dMO_isRing_14 : decode bMO_isRing 14 = .ok (.iconst 0, 1) := by decide +kernel
theorem dMO_isRing_15 : decode bMO_isRing 15 = .ok (.ireturn, 1) := by decide +kernel
theorem dMO_joined_0 : decode bMO_joined 0 = .ok (.aload_n 0, 1) := by decide +kernel
theorem dMO_joined_1 : decode bMO_joined 1 = .ok (.aload_n 0, 1) := by decide +kernel
theorem dMO_joined_2 : decode bMO_joined 2 = .ok (.iload_n 1, 1) := by decide +kernel
theorem dMO_joined_3 : decode bMO_joined 3 = .ok (.invokevirtual 139, 3) := by decide +kernel
theorem dMO_joined_6 : decode bMO_joined 6 = .ok (.ifCond .eq 15, 3) := by decide +kernel
theorem dMO_joined_21 : decode bMO_joined 21 = .ok (.iconst 1, 1) := by decide +kernel
theorem dMO_joined_22 : decode bMO_joined 22 = .ok (.putfield 125, 3) := by decide +kernel
theorem dMO_joined_25 : decode bMO_joined 25 = .ok (.aload_n 0, 1) := by decide +kernel
theorem dMO_joined_26 : decode bMO_joined 26 = .ok (.getfield 125, 3) := by decide +kernel
theorem dMO_joined_29 : decode bMO_joined 29 = .ok (.ifCond .le 5, 3) := by decide +kernel
theorem dMO_joined_32 : decode bMO_joined 32 = .ok (.iconst 0, 1) := by decide +kernel
theorem dMO_joined_33 : decode bMO_joined 33 = .ok (.ireturn, 1) := by decide +kernel
theorem dMO_learned_0 : decode bMO_learned 0 = .ok (.aload_n 0, 1) := by decide +kernel
theorem dMO_learned_1 : decode bMO_learned 1 = .ok (.aload_n 0, 1) := by decide +kernel
theorem dMO_learned_2 : decode bMO_learned 2 = .ok (.iload_n 1, 1) := by decide +kernel
theorem dMO_learned_3 : decode bMO_learned 3 = .ok (.invokevirtual 139, 3) := by decide +kernel
theorem dMO_learned_6 : decode bMO_learned 6 = .ok (.ifCond .eq 26, 3) := by decide +kernel
theorem dMO_learned_32 : decode bMO_learned 32 = .ok (.iconst 1, 1) := by decide +kernel
theorem dMO_learned_33 : decode bMO_learned 33 = .ok (.putfield 125, 3) := by decide +kernel
theorem dMO_learned_36 : decode bMO_learned 36 = .ok (.aload_n 0, 1) := by decide +kernel
theorem dMO_learned_37 : decode bMO_learned 37 = .ok (.getfield 125, 3) := by decide +kernel
theorem dMO_learned_40 : decode bMO_learned 40 = .ok (.ifCond .le 7, 3) := by decide +kernel
theorem dMO_learned_43 : decode bMO_learned 43 = .ok (.iconst (-1), 1) := by decide +kernel
theorem dMO_learned_44 : decode bMO_learned 44 = .ok (.goto 10, 3) := by decide +kernel
theorem dMO_learned_54 : decode bMO_learned 54 = .ok (.ireturn, 1) := by decide +kernel
theorem dMO_link_0 : decode bMO_link 0 = .ok (.aload_n 0, 1) := by decide +kernel
theorem dMO_link_1 : decode bMO_link 1 = .ok (.aload_n 0, 1) := by decide +kernel
theorem dMO_link_2 : decode bMO_link 2 = .ok (.iload_n 1, 1) := by decide +kernel
theorem dMO_link_3 : decode bMO_link 3 = .ok (.invokevirtual 139, 3) := by decide +kernel
theorem dMO_link_6 : decode bMO_link 6 = .ok (.ifCond .eq 27, 3) := by decide +kernel
theorem dMO_link_33 : decode bMO_link 33 = .ok (.iconst 0, 1) := by decide +kernel
theorem dMO_link_34 : decode bMO_link 34 = .ok (.aload_n 0, 1) := by decide +kernel
theorem dMO_link_35 : decode bMO_link 35 = .ok (.getfield 135, 3) := by decide +kernel
theorem dMO_link_38 : decode bMO_link 38 = .ok (.ifCond .ne 16, 3) := by decide +kernel
theorem dMO_link_41 : decode bMO_link 41 = .ok (.aload_n 0, 1) := by decide +kernel
theorem dMO_link_42 : decode bMO_link 42 = .ok (.getfield 132, 3) := by decide +kernel
theorem dMO_link_45 : decode bMO_link 45 = .ok (.bipush 60, 2) := by decide +kernel
theorem dMO_link_47 : decode bMO_link 47 = .ok (.if_icmp .ge 7, 3) := by decide +kernel
theorem dMO_link_50 : decode bMO_link 50 = .ok (.iconst 1, 1) := by decide +kernel
theorem dMO_link_51 : decode bMO_link 51 = .ok (.goto 4, 3) := by decide +kernel
theorem dMO_link_55 : decode bMO_link 55 = .ok (.invokevirtual 146, 3) := by decide +kernel
theorem dMO_link_58 : decode bMO_link 58 = .ok (.ifCond .ne 5, 3) := by decide +kernel
theorem dMO_link_61 : decode bMO_link 61 = .ok (.iconst 0, 1) := by decide +kernel
theorem dMO_link_62 : decode bMO_link 62 = .ok (.ireturn, 1) := by decide +kernel
theorem dMO_look_0 : decode bMO_look 0 = .ok (.aload_n 0, 1) := by decide +kernel
theorem dMO_look_1 : decode bMO_look 1 = .ok (.getfield 125, 3) := by decide +kernel
theorem dMO_look_4 : decode bMO_look 4 = .ok (.ifCond .le 4, 3) := by decide +kernel
theorem dMO_look_7 : decode bMO_look 7 = .ok (.return_, 1) := by decide +kernel
theorem dMO_lose_0 : decode bMO_lose 0 = .ok (.aload_n 0, 1) := by decide +kernel
theorem dMO_lose_1 : decode bMO_lose 1 = .ok (.aload_n 0, 1) := by decide +kernel
theorem dMO_lose_2 : decode bMO_lose 2 = .ok (.iload_n 1, 1) := by decide +kernel
theorem dMO_lose_3 : decode bMO_lose 3 = .ok (.invokevirtual 150, 3) := by decide +kernel
theorem dMO_lose_6 : decode bMO_lose 6 = .ok (.ifCond .eq 18, 3) := by decide +kernel
theorem dMO_lose_24 : decode bMO_lose 24 = .ok (.iconst 0, 1) := by decide +kernel
theorem dMO_lose_25 : decode bMO_lose 25 = .ok (.aload_n 0, 1) := by decide +kernel
theorem dMO_lose_26 : decode bMO_lose 26 = .ok (.getfield 135, 3) := by decide +kernel
theorem dMO_lose_29 : decode bMO_lose 29 = .ok (.invokevirtual 146, 3) := by decide +kernel
theorem dMO_lose_32 : decode bMO_lose 32 = .ok (.ifCond .ne 5, 3) := by decide +kernel
theorem dMO_lose_35 : decode bMO_lose 35 = .ok (.iconst 0, 1) := by decide +kernel
theorem dMO_lose_36 : decode bMO_lose 36 = .ok (.ireturn, 1) := by decide +kernel
theorem dMO_lost_0 : decode bMO_lost 0 = .ok (.aload_n 0, 1) := by decide +kernel
theorem dMO_lost_1 : decode bMO_lost 1 = .ok (.iconst 0, 1) := by decide +kernel
theorem dMO_lost_2 : decode bMO_lost 2 = .ok (.putfield 125, 3) := by decide +kernel
theorem dMO_lost_5 : decode bMO_lost 5 = .ok (.aload_n 0, 1) := by decide +kernel
theorem dMO_lost_6 : decode bMO_lost 6 = .ok (.getfield 239, 3) := by decide +kernel
theorem dMO_lost_9 : decode bMO_lost 9 = .ok (.ireturn, 1) := by decide +kernel
theorem dMO_order_0 : decode bMO_order 0 = .ok (.aload_n 0, 1) := by decide +kernel
theorem dMO_order_1 : decode bMO_order 1 = .ok (.aload_n 0, 1) := by decide +kernel
theorem dMO_order_2 : decode bMO_order 2 = .ok (.iload_n 1, 1) := by decide +kernel
theorem dMO_order_3 : decode bMO_order 3 = .ok (.invokevirtual 139, 3) := by decide +kernel
theorem dMO_order_6 : decode bMO_order 6 = .ok (.ifCond .eq 24, 3) := by decide +kernel
theorem dMO_order_30 : decode bMO_order 30 = .ok (.iconst 0, 1) := by decide +kernel
theorem dMO_order_31 : decode bMO_order 31 = .ok (.aload_n 0, 1) := by decide +kernel
theorem dMO_order_32 : decode bMO_order 32 = .ok (.getfield 135, 3) := by decide +kernel
theorem dMO_order_35 : decode bMO_order 35 = .ok (.invokevirtual 146, 3) := by decide +kernel
theorem dMO_order_38 : decode bMO_order 38 = .ok (.ifCond .ne 5, 3) := by decide +kernel
theorem dMO_order_41 : decode bMO_order 41 = .ok (.iconst 0, 1) := by decide +kernel
theorem dMO_order_42 : decode bMO_order 42 = .ok (.ireturn, 1) := by decide +kernel
theorem dMO_owner_0 : decode bMO_owner 0 = .ok (.aload_n 0, 1) := by decide +kernel
theorem dMO_owner_1 : decode bMO_owner 1 = .ok (.iload_n 1, 1) := by decide +kernel
theorem dMO_owner_2 : decode bMO_owner 2 = .ok (.invokestatic 143, 3) := by decide +kernel
theorem dMO_owner_5 : decode bMO_owner 5 = .ok (.ifCond .eq 23, 3) := by decide +kernel
theorem dMO_owner_8 : decode bMO_owner 8 = .ok (.aload_n 0, 1) := by decide +kernel
theorem dMO_owner_9 : decode bMO_owner 9 = .ok (.iload_n 2, 1) := by decide +kernel
theorem dMO_owner_10 : decode bMO_owner 10 = .ok (.invokevirtual 139, 3) := by decide +kernel
theorem dMO_owner_13 : decode bMO_owner 13 = .ok (.ifCond .eq 15, 3) := by decide +kernel
theorem dMO_owner_28 : decode bMO_owner 28 = .ok (.iconst 0, 1) := by decide +kernel
theorem dMO_owner_29 : decode bMO_owner 29 = .ok (.aload_n 0, 1) := by decide +kernel
theorem dMO_owner_30 : decode bMO_owner 30 = .ok (.getfield 135, 3) := by decide +kernel
theorem dMO_owner_33 : decode bMO_owner 33 = .ok (.ifCond .ne 7, 3) := by decide +kernel
theorem dMO_owner_36 : decode bMO_owner 36 = .ok (.iconst 1, 1) := by decide +kernel
theorem dMO_owner_37 : decode bMO_owner 37 = .ok (.goto 4, 3) := by decide +kernel
theorem dMO_owner_41 : decode bMO_owner 41 = .ok (.invokevirtual 146, 3) := by decide +kernel
theorem dMO_owner_44 : decode bMO_owner 44 = .ok (.ifCond .eq 17, 3) := by decide +kernel
theorem dMO_owner_61 : decode bMO_owner 61 = .ok (.return_, 1) := by decide +kernel
theorem dMO_send_0 : decode bMO_send 0 = .ok (.iload_n 1, 1) := by decide +kernel
theorem dMO_send_1 : decode bMO_send 1 = .ok (.ifCond .lt 37, 3) := by decide +kernel
theorem dMO_send_4 : decode bMO_send 4 = .ok (.iload_n 1, 1) := by decide +kernel
theorem dMO_send_5 : decode bMO_send 5 = .ok (.bipush 64, 2) := by decide +kernel
theorem dMO_send_7 : decode bMO_send 7 = .ok (.if_icmp .ge 31, 3) := by decide +kernel
theorem dMO_send_10 : decode bMO_send 10 = .ok (.iload_n 2, 1) := by decide +kernel
theorem dMO_send_11 : decode bMO_send 11 = .ok (.ifCond .lt 27, 3) := by decide +kernel
theorem dMO_send_14 : decode bMO_send 14 = .ok (.iload_n 2, 1) := by decide +kernel
theorem dMO_send_15 : decode bMO_send 15 = .ok (.bipush 64, 2) := by decide +kernel
theorem dMO_send_17 : decode bMO_send 17 = .ok (.if_icmp .ge 21, 3) := by decide +kernel
theorem dMO_send_20 : decode bMO_send 20 = .ok (.iload_n 3, 1) := by decide +kernel
theorem dMO_send_21 : decode bMO_send 21 = .ok (.ifCond .lt 17, 3) := by decide +kernel
theorem dMO_send_24 : decode bMO_send 24 = .ok (.iload_n 3, 1) := by decide +kernel
theorem dMO_send_25 : decode bMO_send 25 = .ok (.iconst 4, 1) := by decide +kernel
theorem dMO_send_26 : decode bMO_send 26 = .ok (.if_icmp .ge 12, 3) := by decide +kernel
theorem dMO_send_29 : decode bMO_send 29 = .ok (.iload_n 1, 1) := by decide +kernel
theorem dMO_send_30 : decode bMO_send 30 = .ok (.iload_n 2, 1) := by decide +kernel
theorem dMO_send_31 : decode bMO_send 31 = .ok (.if_icmp .eq 7, 3) := by decide +kernel
theorem dMO_send_34 : decode bMO_send 34 = .ok (.iconst 1, 1) := by decide +kernel
theorem dMO_send_35 : decode bMO_send 35 = .ok (.goto 4, 3) := by decide +kernel
theorem dMO_send_38 : decode bMO_send 38 = .ok (.iconst 0, 1) := by decide +kernel
theorem dMO_send_39 : decode bMO_send 39 = .ok (.istore 4, 2) := by decide +kernel
theorem dMO_send_41 : decode bMO_send 41 = .ok (.aload_n 0, 1) := by decide +kernel
theorem dMO_send_42 : decode bMO_send 42 = .ok (.iload 4, 2) := by decide +kernel
theorem dMO_send_44 : decode bMO_send 44 = .ok (.ifCond .eq 27, 3) := by decide +kernel
theorem dMO_send_47 : decode bMO_send 47 = .ok (.aload_n 0, 1) := by decide +kernel
theorem dMO_send_48 : decode bMO_send 48 = .ok (.getfield 77, 3) := by decide +kernel
theorem dMO_send_51 : decode bMO_send 51 = .ok (.iload_n 1, 1) := by decide +kernel
theorem dMO_send_52 : decode bMO_send 52 = .ok (.iaload, 1) := by decide +kernel
theorem dMO_send_53 : decode bMO_send 53 = .ok (.iconst (-1), 1) := by decide +kernel
theorem dMO_send_54 : decode bMO_send 54 = .ok (.if_icmp .eq 17, 3) := by decide +kernel
theorem dMO_send_71 : decode bMO_send 71 = .ok (.iconst 0, 1) := by decide +kernel
theorem dMO_send_72 : decode bMO_send 72 = .ok (.aload_n 0, 1) := by decide +kernel
theorem dMO_send_73 : decode bMO_send 73 = .ok (.getfield 135, 3) := by decide +kernel
theorem dMO_send_76 : decode bMO_send 76 = .ok (.invokevirtual 146, 3) := by decide +kernel
theorem dMO_send_79 : decode bMO_send 79 = .ok (.ifCond .ne 5, 3) := by decide +kernel
theorem dMO_send_82 : decode bMO_send 82 = .ok (.iconst 0, 1) := by decide +kernel
theorem dMO_send_83 : decode bMO_send 83 = .ok (.ireturn, 1) := by decide +kernel
theorem dMO_start_0 : decode bMO_start 0 = .ok (.aload_n 0, 1) := by decide +kernel
theorem dMO_start_1 : decode bMO_start 1 = .ok (.aload_n 0, 1) := by decide +kernel
theorem dMO_start_2 : decode bMO_start 2 = .ok (.getfield 135, 3) := by decide +kernel
theorem dMO_start_5 : decode bMO_start 5 = .ok (.ifCond .eq 7, 3) := by decide +kernel
theorem dMO_start_12 : decode bMO_start 12 = .ok (.iconst 0, 1) := by decide +kernel
theorem dMO_start_13 : decode bMO_start 13 = .ok (.putfield 125, 3) := by decide +kernel
theorem dMO_start_16 : decode bMO_start 16 = .ok (.aload_n 0, 1) := by decide +kernel
theorem dMO_start_17 : decode bMO_start 17 = .ok (.getfield 125, 3) := by decide +kernel
theorem dMO_start_20 : decode bMO_start 20 = .ok (.ifCond .le 5, 3) := by decide +kernel
theorem dMO_start_25 : decode bMO_start 25 = .ok (.aload_n 0, 1) := by decide +kernel
theorem dMO_start_26 : decode bMO_start 26 = .ok (.invokevirtual 181, 3) := by decide +kernel
theorem dMO_start_29 : decode bMO_start 29 = .ok (.istore_n 1, 1) := by decide +kernel
theorem dMO_start_30 : decode bMO_start 30 = .ok (.iload_n 1, 1) := by decide +kernel
theorem dMO_start_31 : decode bMO_start 31 = .ok (.ifCond .le 5, 3) := by decide +kernel
theorem dMO_start_34 : decode bMO_start 34 = .ok (.iload_n 1, 1) := by decide +kernel
theorem dMO_start_35 : decode bMO_start 35 = .ok (.ireturn, 1) := by decide +kernel
theorem dMO_thrown_0 : decode bMO_thrown 0 = .ok (.aload_n 0, 1) := by decide +kernel
theorem dMO_thrown_1 : decode bMO_thrown 1 = .ok (.getfield 125, 3) := by decide +kernel
theorem dMO_thrown_4 : decode bMO_thrown 4 = .ok (.ireturn, 1) := by decide +kernel
theorem dMO_ticks_0 : decode bMO_ticks 0 = .ok (.aload_n 0, 1) := by decide +kernel
theorem dMO_ticks_1 : decode bMO_ticks 1 = .ok (.iload_n 1, 1) := by decide +kernel
theorem dMO_ticks_2 : decode bMO_ticks 2 = .ok (.iconst 1, 1) := by decide +kernel
theorem dMO_ticks_3 : decode bMO_ticks 3 = .ok (.if_icmp .lt 14, 3) := by decide +kernel
theorem dMO_ticks_6 : decode bMO_ticks 6 = .ok (.iload_n 1, 1) := by decide +kernel
theorem dMO_ticks_7 : decode bMO_ticks 7 = .ok (.sipush 200, 3) := by decide +kernel
theorem dMO_ticks_10 : decode bMO_ticks 10 = .ok (.if_icmp .gt 7, 3) := by decide +kernel
theorem dMO_ticks_13 : decode bMO_ticks 13 = .ok (.iconst 1, 1) := by decide +kernel
theorem dMO_ticks_14 : decode bMO_ticks 14 = .ok (.goto 4, 3) := by decide +kernel
theorem dMO_ticks_17 : decode bMO_ticks 17 = .ok (.iconst 0, 1) := by decide +kernel
theorem dMO_ticks_18 : decode bMO_ticks 18 = .ok (.aload_n 0, 1) := by decide +kernel
theorem dMO_ticks_19 : decode bMO_ticks 19 = .ok (.getfield 135, 3) := by decide +kernel
theorem dMO_ticks_22 : decode bMO_ticks 22 = .ok (.ifCond .eq 19, 3) := by decide +kernel
theorem dMO_ticks_41 : decode bMO_ticks 41 = .ok (.iconst 0, 1) := by decide +kernel
theorem dMO_ticks_42 : decode bMO_ticks 42 = .ok (.invokevirtual 146, 3) := by decide +kernel
theorem dMO_ticks_45 : decode bMO_ticks 45 = .ok (.ifCond .ne 5, 3) := by decide +kernel
theorem dMO_ticks_48 : decode bMO_ticks 48 = .ok (.iconst 0, 1) := by decide +kernel
theorem dMO_ticks_49 : decode bMO_ticks 49 = .ok (.ireturn, 1) := by decide +kernel
theorem dMO_told_0 : decode bMO_told 0 = .ok (.aload_n 0, 1) := by decide +kernel
theorem dMO_told_1 : decode bMO_told 1 = .ok (.aload_n 0, 1) := by decide +kernel
theorem dMO_told_2 : decode bMO_told 2 = .ok (.iload_n 1, 1) := by decide +kernel
theorem dMO_told_3 : decode bMO_told 3 = .ok (.invokevirtual 139, 3) := by decide +kernel
theorem dMO_told_6 : decode bMO_told 6 = .ok (.ifCond .eq 23, 3) := by decide +kernel
theorem dMO_told_29 : decode bMO_told 29 = .ok (.iconst 1, 1) := by decide +kernel
theorem dMO_told_30 : decode bMO_told 30 = .ok (.putfield 125, 3) := by decide +kernel
theorem dMO_told_33 : decode bMO_told 33 = .ok (.aload_n 0, 1) := by decide +kernel
theorem dMO_told_34 : decode bMO_told 34 = .ok (.getfield 125, 3) := by decide +kernel
theorem dMO_told_37 : decode bMO_told 37 = .ok (.ifCond .le 5, 3) := by decide +kernel
theorem dMO_told_40 : decode bMO_told 40 = .ok (.iconst 0, 1) := by decide +kernel
theorem dMO_told_41 : decode bMO_told 41 = .ok (.ireturn, 1) := by decide +kernel
theorem dMO_visits_0 : decode bMO_visits 0 = .ok (.aload_n 0, 1) := by decide +kernel
theorem dMO_visits_1 : decode bMO_visits 1 = .ok (.iconst 0, 1) := by decide +kernel
theorem dMO_visits_2 : decode bMO_visits 2 = .ok (.putfield 125, 3) := by decide +kernel
theorem dMO_visits_5 : decode bMO_visits 5 = .ok (.aload_n 0, 1) := by decide +kernel
theorem dMO_visits_6 : decode bMO_visits 6 = .ok (.getfield 293, 3) := by decide +kernel
theorem dMO_visits_9 : decode bMO_visits 9 = .ok (.ireturn, 1) := by decide +kernel
theorem dAR_fill_0 : decode bAR_fill 0 = .ok (.iconst 0, 1) := by decide +kernel
theorem dAR_fill_1 : decode bAR_fill 1 = .ok (.istore_n 2, 1) := by decide +kernel
theorem dAR_fill_2 : decode bAR_fill 2 = .ok (.aload_n 0, 1) := by decide +kernel
theorem dAR_fill_3 : decode bAR_fill 3 = .ok (.arraylength, 1) := by decide +kernel
theorem dAR_fill_4 : decode bAR_fill 4 = .ok (.istore_n 3, 1) := by decide +kernel
theorem dAR_fill_5 : decode bAR_fill 5 = .ok (.iload_n 2, 1) := by decide +kernel
theorem dAR_fill_6 : decode bAR_fill 6 = .ok (.iload_n 3, 1) := by decide +kernel
theorem dAR_fill_7 : decode bAR_fill 7 = .ok (.if_icmp .ge 13, 3) := by decide +kernel
theorem dAR_fill_10 : decode bAR_fill 10 = .ok (.aload_n 0, 1) := by decide +kernel
theorem dAR_fill_11 : decode bAR_fill 11 = .ok (.iload_n 2, 1) := by decide +kernel
theorem dAR_fill_12 : decode bAR_fill 12 = .ok (.iload_n 1, 1) := by decide +kernel
theorem dAR_fill_13 : decode bAR_fill 13 = .ok (.iastore, 1) := by decide +kernel
theorem dAR_fill_14 : decode bAR_fill 14 = .ok (.iinc 2 1, 3) := by decide +kernel
theorem dAR_fill_17 : decode bAR_fill 17 = .ok (.goto (-12), 3) := by decide +kernel
theorem dAR_fill_20 : decode bAR_fill 20 = .ok (.return_, 1) := by decide +kernel
theorem zfor {N : Nat} (P : Nat → Prop) (step : ∀ k, k < N → P (k + 1) → P k) (last : P N) : P 0 := by
  have h : ∀ n, n ≤ N → P (N - n) := by
    intro n
    induction n with
    | zero => intro _; exact last
    | succ n ih =>
      intro hn
      have e : N - n = (N - (n + 1)) + 1 := by omega
      have h1 := ih (by omega)
      rw [e] at h1
      exact step _ (by omega) h1
  have h0 := h N (Nat.le_refl _)
  rwa [Nat.sub_self] at h0
theorem zupd {f : Nat → Int32} {k : Nat} {v : Int32} (hk : k < 2 ^ 31) (hf : ∀ j, j < k → f j = v) : ∀ j, j < k + 1 → upd f (nI k).toNatClampNeg v j = v := fun j hj => by
  rw [nI_clamp hk]
  unfold upd
  by_cases e : j = k
  · rw [if_pos e]
  · rw [if_neg e]; exact hf j (by omega)
theorem zno_ISE : Cond.not (.castable "java/lang/IllegalStateException" "java/lang/IllegalArgumentException") ∈ zT := List.mem_append_right _ (List.mem_cons_of_mem _ (List.mem_cons_of_mem _ List.mem_cons_self))
theorem zgoodW {y : MethodName} {b : ByteArray} {n : Nat} {r : Option FieldType} {hs : List (Nat × Nat × Nat × Nat)} : GoodIn [Cond.codeWith y b n r hs] [Cond.codeWith y b n r hs] := fun w h => ⟨h, by rw [List.mem_singleton.mp h]; exact Or.inl rfl⟩
theorem zlt {v : Int32} {n : Nat} (h0 : ¬ v < 0) (h1 : v < nI n) (hn : n < 2 ^ 31 := by decide) : v.toNatClampNeg < n := by
  obtain ⟨j, hj, rfl⟩ := nI_of h0
  rw [nI_clamp hj]
  exact (nI_ltI hj hn).mp h1
theorem zin {v : Int32} {n : Nat} (h0 : ¬ v < 0) (h1 : v < nI n) (hn : n < 2 ^ 31 := by decide) : vp_in v n := by
  rintro (h | h)
  · exact h0 h
  · exact absurd (zlt h0 h1 hn) (Nat.not_lt.mpr h)
end
section
set_option maxHeartbeats 4000000 in
set_option maxRecDepth 100000 in
theorem zt_requireBridge (l : Launch) (dC : Nat → ClassId) (dI : Nat → Nat → Nat) (cI cZ cJ : ClassId) (a0 : Array Value) (s0 : State) (hfl : l.flags = Jvm.pinnedFlags ++ [Jvm.noTraceFlag]) (x : Nat) (b : Nat → Nat) (sz : Nat) (v : Int32) : tq_Met l yRG_requireBridge [Cond.code yRG_requireBridge bRG_requireBridge 2 none] ({ frames := 6, cells := 1, slots := 6, locals := 90 } : Room) (zP zCl dC dI (zTY cI cZ cJ) a0 s0 [.ref x, .int v] sz [(x, .inr (0, [.ref (b 0), .ref (b 1), .ref (b 2), .ref (b 3), .ref (b 4), .ref (b 5), .int 0, .int 0, .int 0, .int 0, .int 0, .int 0, .int 0])), ((b 0), .inr (1, [.int 0, .int 0, .ref (b 10), .ref (b 11), .ref (b 12), .ref (b 13), .ref (b 14), .ref (b 15), .ref (b 16), .ref (b 17), .ref (b 18)]))]) (tq_Q "java/lang/IllegalArgumentException") 1 6 (zN sz) := by
  refine tq_ofW (cc := bRG_requireBridge) (maxL := 2) (ret := none) (by decide) rfl ?_
  intro p e s m args below meth c s₁ B hml htab hv
  obtain ⟨rfl, hsz, hP, hK, hD0, hB⟩ := hv
  have hx := B.exec
  have hb := B.bytes
  have hr := B.returns
  have hown : s.vm.findClass "RingGuard" = some m.cls := findClass_of_methodNamed B.named
  have hlocks := B.notSynchronized
  subst hsz
  have hD := hD0
  have hA0 : ∀ q, zN s.heap.size q → s0.heap.size ≤ q := zA1 hB
  have hAD : ∀ q, zN s0.heap.size q → s0.heap.size ≤ q := fun _ h => h
  have hA : ∀ q : Nat, s.heap.size ≤ q → zN s.heap.size q := fun _ h => h
  have hS : va_S (zN s.heap.size) s.heap s.heap [] := va_S.rf
  have hP : va_P (dC, dI) zCl [(x, .inr (0, [.ref (b 0), .ref (b 1), .ref (b 2), .ref (b 3), .ref (b 4), .ref (b 5), .int 0, .int 0, .int 0, .int 0, .int 0, .int 0, .int 0])), ((b 0), .inr (1, [.int 0, .int 0, .ref (b 10), .ref (b 11), .ref (b 12), .ref (b 13), .ref (b 14), .ref (b 15), .ref (b 16), .ref (b 17), .ref (b 18)]))] s.heap := hP
  have hl := lv_entry ([.ref x, .int v]) (n := 2) (Nat.le_of_ble_eq_true rfl)
  rw [lg_entry_eq]
  generalize (lg_sl ([.ref x, .int v]) ++ List.replicate (2 - (lg_sl ([.ref x, .int v])).length) Slot.unset).toArray = ls at hl ⊢
  have hl : lv_has ls 2 [(0, .ref x), (1, .int v)] := hl
  refine lv_iload_n hx hb dRG_requireBridge_0 rfl (lv_at hl 1 rfl) ?_
  refine lv_if_lt (tgt := 15) hx hb dRG_requireBridge_1 (by decide) (fun c_1 => ?_) (fun c_1 => ?_)
  · obtain ⟨qs, hZ⟩ := hB.str (zm2 k2_160)
    exact zthrow hfl hx hb hown (hB.word (zm2 k2_151) rfl) (hB.word (zm1 k1_14) rfl) hZ (by decide) (hB.words zO_80) (by rw [hml]; exact hl.1) htab hlocks dRG_requireBridge_15 dRG_requireBridge_18 dRG_requireBridge_19 dRG_requireBridge_21 dRG_requireBridge_24 (Nat.le_of_ble_eq_true rfl) (Nat.le_of_ble_eq_true rfl) (Nat.le_of_ble_eq_true rfl) (Nat.le_of_ble_eq_true rfl) hS rfl rfl
  · refine lv_iload_n hx hb dRG_requireBridge_4 rfl (lv_at hl 1 rfl) ?_
    refine lv_aload_n hx hb dRG_requireBridge_5 rfl (lv_at hl 0 rfl) ?_
    have hu0 : ∀ w ∈ u_ws "RingGuard" T_RG 13, w.before ([.ref x, .int v] : List Value).toArray s = true := hB.words zU_RG
    refine va_get (D := (dC, dI)) (ci := 0) (v := .ref (b 0)) (C := "RingGuard") (T := T_RG) (N := 13) hx hb hu0 zid hown hK hP 0 rfl rfl 0 (by decide) (hB.word (zm1 k1_235) rfl) (fun _ h9 => h9) rfl dRG_requireBridge_6 ?_
    have hu1 : ∀ w ∈ u_ws "RingGuard$Plan" T_PL 11, w.before ([.ref x, .int v] : List Value).toArray s = true := hB.words zU_PL
    refine va_get (D := (dC, dI)) (ci := 1) (v := .int 0) (C := "RingGuard$Plan") (T := T_PL) (N := 11) hx hb hu1 zid hown hK hP 1 rfl rfl 0 (by decide) (hB.word (zm1 k1_34) rfl) (fun _ h9 => h9) rfl dRG_requireBridge_9 ?_
    refine lv_icmp_lt (tgt := 25) hx hb dRG_requireBridge_12 (by decide) (fun c9 => absurd c9 c_1) (fun _ => ?_)
    obtain ⟨qs, hZ⟩ := hB.str (zm2 k2_160)
    exact zthrow hfl hx hb hown (hB.word (zm2 k2_151) rfl) (hB.word (zm1 k1_14) rfl) hZ (by decide) (hB.words zO_80) (by rw [hml]; exact hl.1) htab hlocks dRG_requireBridge_15 dRG_requireBridge_18 dRG_requireBridge_19 dRG_requireBridge_21 dRG_requireBridge_24 (Nat.le_of_ble_eq_true rfl) (Nat.le_of_ble_eq_true rfl) (Nat.le_of_ble_eq_true rfl) (Nat.le_of_ble_eq_true rfl) hS rfl rfl
set_option maxHeartbeats 4000000 in
set_option maxRecDepth 100000 in
theorem zt_requireLink (l : Launch) (dC : Nat → ClassId) (dI : Nat → Nat → Nat) (cI cZ cJ : ClassId) (a0 : Array Value) (s0 : State) (hfl : l.flags = Jvm.pinnedFlags ++ [Jvm.noTraceFlag]) (x : Nat) (b : Nat → Nat) (sz : Nat) (v : Int32) : tq_Met l yRG_requireLink [Cond.code yRG_requireLink bRG_requireLink 2 none] ({ frames := 6, cells := 1, slots := 6, locals := 90 } : Room) (zP zCl dC dI (zTY cI cZ cJ) a0 s0 [.ref x, .int v] sz [(x, .inr (0, [.ref (b 0), .ref (b 1), .ref (b 2), .ref (b 3), .ref (b 4), .ref (b 5), .int 0, .int 0, .int 0, .int 0, .int 0, .int 0, .int 0])), ((b 0), .inr (1, [.int 0, .int 0, .ref (b 10), .ref (b 11), .ref (b 12), .ref (b 13), .ref (b 14), .ref (b 15), .ref (b 16), .ref (b 17), .ref (b 18)]))]) (tq_Q "java/lang/IllegalArgumentException") 1 6 (zN sz) := by
  refine tq_ofW (cc := bRG_requireLink) (maxL := 2) (ret := none) (by decide) rfl ?_
  intro p e s m args below meth c s₁ B hml htab hv
  obtain ⟨rfl, hsz, hP, hK, hD0, hB⟩ := hv
  have hx := B.exec
  have hb := B.bytes
  have hr := B.returns
  have hown : s.vm.findClass "RingGuard" = some m.cls := findClass_of_methodNamed B.named
  have hlocks := B.notSynchronized
  subst hsz
  have hD := hD0
  have hA0 : ∀ q, zN s.heap.size q → s0.heap.size ≤ q := zA1 hB
  have hAD : ∀ q, zN s0.heap.size q → s0.heap.size ≤ q := fun _ h => h
  have hA : ∀ q : Nat, s.heap.size ≤ q → zN s.heap.size q := fun _ h => h
  have hS : va_S (zN s.heap.size) s.heap s.heap [] := va_S.rf
  have hP : va_P (dC, dI) zCl [(x, .inr (0, [.ref (b 0), .ref (b 1), .ref (b 2), .ref (b 3), .ref (b 4), .ref (b 5), .int 0, .int 0, .int 0, .int 0, .int 0, .int 0, .int 0])), ((b 0), .inr (1, [.int 0, .int 0, .ref (b 10), .ref (b 11), .ref (b 12), .ref (b 13), .ref (b 14), .ref (b 15), .ref (b 16), .ref (b 17), .ref (b 18)]))] s.heap := hP
  have hl := lv_entry ([.ref x, .int v]) (n := 2) (Nat.le_of_ble_eq_true rfl)
  rw [lg_entry_eq]
  generalize (lg_sl ([.ref x, .int v]) ++ List.replicate (2 - (lg_sl ([.ref x, .int v])).length) Slot.unset).toArray = ls at hl ⊢
  have hl : lv_has ls 2 [(0, .ref x), (1, .int v)] := hl
  refine lv_iload_n hx hb dRG_requireLink_0 rfl (lv_at hl 1 rfl) ?_
  refine lv_if_lt (tgt := 15) hx hb dRG_requireLink_1 (by decide) (fun c_1 => ?_) (fun c_1 => ?_)
  · obtain ⟨qs, hZ⟩ := hB.str (zm2 k2_189)
    exact zthrow hfl hx hb hown (hB.word (zm2 k2_151) rfl) (hB.word (zm1 k1_14) rfl) hZ (by decide) (hB.words zO_80) (by rw [hml]; exact hl.1) htab hlocks dRG_requireLink_15 dRG_requireLink_18 dRG_requireLink_19 dRG_requireLink_21 dRG_requireLink_24 (Nat.le_of_ble_eq_true rfl) (Nat.le_of_ble_eq_true rfl) (Nat.le_of_ble_eq_true rfl) (Nat.le_of_ble_eq_true rfl) hS rfl rfl
  · refine lv_iload_n hx hb dRG_requireLink_4 rfl (lv_at hl 1 rfl) ?_
    refine lv_aload_n hx hb dRG_requireLink_5 rfl (lv_at hl 0 rfl) ?_
    have hu0 : ∀ w ∈ u_ws "RingGuard" T_RG 13, w.before ([.ref x, .int v] : List Value).toArray s = true := hB.words zU_RG
    refine va_get (D := (dC, dI)) (ci := 0) (v := .ref (b 0)) (C := "RingGuard") (T := T_RG) (N := 13) hx hb hu0 zid hown hK hP 0 rfl rfl 0 (by decide) (hB.word (zm1 k1_235) rfl) (fun _ h9 => h9) rfl dRG_requireLink_6 ?_
    have hu1 : ∀ w ∈ u_ws "RingGuard$Plan" T_PL 11, w.before ([.ref x, .int v] : List Value).toArray s = true := hB.words zU_PL
    refine va_get (D := (dC, dI)) (ci := 1) (v := .int 0) (C := "RingGuard$Plan") (T := T_PL) (N := 11) hx hb hu1 zid hown hK hP 1 rfl rfl 1 (by decide) (hB.word (zm1 k1_39) rfl) (fun _ h9 => h9) rfl dRG_requireLink_9 ?_
    refine lv_icmp_lt (tgt := 25) hx hb dRG_requireLink_12 (by decide) (fun c9 => absurd c9 c_1) (fun _ => ?_)
    obtain ⟨qs, hZ⟩ := hB.str (zm2 k2_189)
    exact zthrow hfl hx hb hown (hB.word (zm2 k2_151) rfl) (hB.word (zm1 k1_14) rfl) hZ (by decide) (hB.words zO_80) (by rw [hml]; exact hl.1) htab hlocks dRG_requireLink_15 dRG_requireLink_18 dRG_requireLink_19 dRG_requireLink_21 dRG_requireLink_24 (Nat.le_of_ble_eq_true rfl) (Nat.le_of_ble_eq_true rfl) (Nat.le_of_ble_eq_true rfl) (Nat.le_of_ble_eq_true rfl) hS rfl rfl
set_option maxHeartbeats 4000000 in
set_option maxRecDepth 100000 in
theorem zt_requireRing (l : Launch) (dC : Nat → ClassId) (dI : Nat → Nat → Nat) (cI cZ cJ : ClassId) (a0 : Array Value) (s0 : State) (hfl : l.flags = Jvm.pinnedFlags ++ [Jvm.noTraceFlag]) (x : Nat) (b : Nat → Nat) (sz : Nat) (v : Int32) (hv : ¬ v < 0 → ¬ v < 6) : tq_Met l yRG_requireRing [Cond.code yRG_requireRing bRG_requireRing 2 none] ({ frames := 6, cells := 1, slots := 6, locals := 90 } : Room) (zP zCl dC dI (zTY cI cZ cJ) a0 s0 [.ref x, .int v] sz [(x, .inr (0, [.ref (b 0), .ref (b 1), .ref (b 2), .ref (b 3), .ref (b 4), .ref (b 5), .int 0, .int 0, .int 0, .int 0, .int 0, .int 0, .int 0]))]) (tq_Q "java/lang/IllegalArgumentException") 1 6 (zN sz) := by
  refine tq_ofW (cc := bRG_requireRing) (maxL := 2) (ret := none) (by decide) rfl ?_
  intro p e s m args below meth c s₁ B hml htab hv
  obtain ⟨rfl, hsz, hP, hK, hD0, hB⟩ := hv
  have hx := B.exec
  have hb := B.bytes
  have hr := B.returns
  have hown : s.vm.findClass "RingGuard" = some m.cls := findClass_of_methodNamed B.named
  have hlocks := B.notSynchronized
  subst hsz
  have hD := hD0
  have hA0 : ∀ q, zN s.heap.size q → s0.heap.size ≤ q := zA1 hB
  have hAD : ∀ q, zN s0.heap.size q → s0.heap.size ≤ q := fun _ h => h
  have hA : ∀ q : Nat, s.heap.size ≤ q → zN s.heap.size q := fun _ h => h
  have hS : va_S (zN s.heap.size) s.heap s.heap [] := va_S.rf
  have hP : va_P (dC, dI) zCl [(x, .inr (0, [.ref (b 0), .ref (b 1), .ref (b 2), .ref (b 3), .ref (b 4), .ref (b 5), .int 0, .int 0, .int 0, .int 0, .int 0, .int 0, .int 0]))] s.heap := hP
  have hl := lv_entry ([.ref x, .int v]) (n := 2) (Nat.le_of_ble_eq_true rfl)
  rw [lg_entry_eq]
  generalize (lg_sl ([.ref x, .int v]) ++ List.replicate (2 - (lg_sl ([.ref x, .int v])).length) Slot.unset).toArray = ls at hl ⊢
  have hl : lv_has ls 2 [(0, .ref x), (1, .int v)] := hl
  refine lv_iload_n hx hb dRG_requireRing_0 rfl (lv_at hl 1 rfl) ?_
  refine lv_if_lt (tgt := 10) hx hb dRG_requireRing_1 (by decide) (fun c_1 => ?_) (fun c_1 => ?_)
  · obtain ⟨qs, hZ⟩ := hB.str (zm2 k2_171)
    exact zthrow hfl hx hb hown (hB.word (zm2 k2_151) rfl) (hB.word (zm1 k1_14) rfl) hZ (by decide) (hB.words zO_80) (by rw [hml]; exact hl.1) htab hlocks dRG_requireRing_10 dRG_requireRing_13 dRG_requireRing_14 dRG_requireRing_16 dRG_requireRing_19 (Nat.le_of_ble_eq_true rfl) (Nat.le_of_ble_eq_true rfl) (Nat.le_of_ble_eq_true rfl) (Nat.le_of_ble_eq_true rfl) hS rfl rfl
  · refine lv_iload_n hx hb dRG_requireRing_4 rfl (lv_at hl 1 rfl) ?_
    refine lv_bipush (v := 6) hx hb dRG_requireRing_5 (by decide) ?_
    refine lv_icmp_lt (tgt := 20) hx hb dRG_requireRing_7 (by decide) (fun c9 => absurd c9 (hv c_1)) (fun _ => ?_)
    obtain ⟨qs, hZ⟩ := hB.str (zm2 k2_171)
    exact zthrow hfl hx hb hown (hB.word (zm2 k2_151) rfl) (hB.word (zm1 k1_14) rfl) hZ (by decide) (hB.words zO_80) (by rw [hml]; exact hl.1) htab hlocks dRG_requireRing_10 dRG_requireRing_13 dRG_requireRing_14 dRG_requireRing_16 dRG_requireRing_19 (Nat.le_of_ble_eq_true rfl) (Nat.le_of_ble_eq_true rfl) (Nat.le_of_ble_eq_true rfl) (Nat.le_of_ble_eq_true rfl) hS rfl rfl
set_option maxHeartbeats 4000000 in
set_option maxRecDepth 100000 in
theorem zo_requireRing (l : Launch) (dC : Nat → ClassId) (dI : Nat → Nat → Nat) (cI cZ cJ : ClassId) (a0 : Array Value) (s0 : State) (x : Nat) (b : Nat → Nat) (sz : Nat) (v : Int32) (h0 : ¬ v < 0) (h1 : v < 6) : Met l yRG_requireRing [Cond.code yRG_requireRing bRG_requireRing 2 none] ({ frames := 0, cells := 0, slots := 0, locals := 0 } : Room) (zP zCl dC dI (zTY cI cZ cJ) a0 s0 [.ref x, .int v] sz [(x, .inr (0, [.ref (b 0), .ref (b 1), .ref (b 2), .ref (b 3), .ref (b 4), .ref (b 5), .int 0, .int 0, .int 0, .int 0, .int 0, .int 0, .int 0]))]) (zQo sz) 0 0 (zN sz) := by
  refine Met.ofW (cc := bRG_requireRing) (maxL := 2) (ret := none) (by decide) rfl ?_
  intro p e s m args below meth c s₁ B hml hv
  obtain ⟨rfl, hsz, hP, hK, hD0, hB⟩ := hv
  have hx := B.exec
  have hb := B.bytes
  have hr := B.returns
  have hown : s.vm.findClass "RingGuard" = some m.cls := findClass_of_methodNamed B.named
  have hlocks := B.notSynchronized
  subst hsz
  have hD := hD0
  have hA0 : ∀ q, zN s.heap.size q → s0.heap.size ≤ q := zA1 hB
  have hAD : ∀ q, zN s0.heap.size q → s0.heap.size ≤ q := fun _ h => h
  have hA : ∀ q : Nat, s.heap.size ≤ q → zN s.heap.size q := fun _ h => h
  have hS : va_S (zN s.heap.size) s.heap s.heap [] := va_S.rf
  have hP : va_P (dC, dI) zCl [(x, .inr (0, [.ref (b 0), .ref (b 1), .ref (b 2), .ref (b 3), .ref (b 4), .ref (b 5), .int 0, .int 0, .int 0, .int 0, .int 0, .int 0, .int 0]))] s.heap := hP
  have hl := lv_entry ([.ref x, .int v]) (n := 2) (Nat.le_of_ble_eq_true rfl)
  rw [lg_entry_eq]
  generalize (lg_sl ([.ref x, .int v]) ++ List.replicate (2 - (lg_sl ([.ref x, .int v])).length) Slot.unset).toArray = ls at hl ⊢
  have hl : lv_has ls 2 [(0, .ref x), (1, .int v)] := hl
  refine lv_iload_n hx hb dRG_requireRing_0 rfl (lv_at hl 1 rfl) ?_
  refine lv_if_lt (tgt := 10) hx hb dRG_requireRing_1 (by decide) (fun c9 => absurd c9 h0) (fun _ => ?_)
  refine lv_iload_n hx hb dRG_requireRing_4 rfl (lv_at hl 1 rfl) ?_
  refine lv_bipush (v := 6) hx hb dRG_requireRing_5 (by decide) ?_
  refine lv_icmp_lt (tgt := 20) hx hb dRG_requireRing_7 (by decide) (fun _ => ?_) (fun c9 => absurd h1 c9)
  refine W.widen (k := 0) (n := 0) (Nat.le_of_ble_eq_true rfl) (Nat.le_of_ble_eq_true rfl) ?_
  exact W.vret hx hb hr (fun t ht hW => ⟨⟨(), rfl, trivial, trivial⟩, hS.F ht⟩) hS.2.2 dRG_requireRing_20
set_option maxHeartbeats 4000000 in
set_option maxRecDepth 100000 in
theorem zt_requireHost (l : Launch) (dC : Nat → ClassId) (dI : Nat → Nat → Nat) (cI cZ cJ : ClassId) (a0 : Array Value) (s0 : State) (hfl : l.flags = Jvm.pinnedFlags ++ [Jvm.noTraceFlag]) (x : Nat) (b : Nat → Nat) (sz : Nat) (v : Int32) (hv : ¬ v < 0 → ¬ v < 64) : tq_Met l yRG_requireHost [Cond.code yRG_requireHost bRG_requireHost 2 none] ({ frames := 6, cells := 1, slots := 6, locals := 90 } : Room) (zP zCl dC dI (zTY cI cZ cJ) a0 s0 [.ref x, .int v] sz [(x, .inr (0, [.ref (b 0), .ref (b 1), .ref (b 2), .ref (b 3), .ref (b 4), .ref (b 5), .int 0, .int 0, .int 0, .int 0, .int 0, .int 0, .int 0]))]) (tq_Q "java/lang/IllegalArgumentException") 1 6 (zN sz) := by
  refine tq_ofW (cc := bRG_requireHost) (maxL := 2) (ret := none) (by decide) rfl ?_
  intro p e s m args below meth c s₁ B hml htab hv
  obtain ⟨rfl, hsz, hP, hK, hD0, hB⟩ := hv
  have hx := B.exec
  have hb := B.bytes
  have hr := B.returns
  have hown : s.vm.findClass "RingGuard" = some m.cls := findClass_of_methodNamed B.named
  have hlocks := B.notSynchronized
  subst hsz
  have hD := hD0
  have hA0 : ∀ q, zN s.heap.size q → s0.heap.size ≤ q := zA1 hB
  have hAD : ∀ q, zN s0.heap.size q → s0.heap.size ≤ q := fun _ h => h
  have hA : ∀ q : Nat, s.heap.size ≤ q → zN s.heap.size q := fun _ h => h
  have hS : va_S (zN s.heap.size) s.heap s.heap [] := va_S.rf
  have hP : va_P (dC, dI) zCl [(x, .inr (0, [.ref (b 0), .ref (b 1), .ref (b 2), .ref (b 3), .ref (b 4), .ref (b 5), .int 0, .int 0, .int 0, .int 0, .int 0, .int 0, .int 0]))] s.heap := hP
  have hl := lv_entry ([.ref x, .int v]) (n := 2) (Nat.le_of_ble_eq_true rfl)
  rw [lg_entry_eq]
  generalize (lg_sl ([.ref x, .int v]) ++ List.replicate (2 - (lg_sl ([.ref x, .int v])).length) Slot.unset).toArray = ls at hl ⊢
  have hl : lv_has ls 2 [(0, .ref x), (1, .int v)] := hl
  refine lv_iload_n hx hb dRG_requireHost_0 rfl (lv_at hl 1 rfl) ?_
  refine lv_if_lt (tgt := 10) hx hb dRG_requireHost_1 (by decide) (fun c_1 => ?_) (fun c_1 => ?_)
  · obtain ⟨qs, hZ⟩ := hB.str (zm4 k4_31)
    exact zthrow hfl hx hb hown (hB.word (zm2 k2_151) rfl) (hB.word (zm1 k1_14) rfl) hZ (by decide) (hB.words zO_80) (by rw [hml]; exact hl.1) htab hlocks dRG_requireHost_10 dRG_requireHost_13 dRG_requireHost_14 dRG_requireHost_16 dRG_requireHost_19 (Nat.le_of_ble_eq_true rfl) (Nat.le_of_ble_eq_true rfl) (Nat.le_of_ble_eq_true rfl) (Nat.le_of_ble_eq_true rfl) hS rfl rfl
  · refine lv_iload_n hx hb dRG_requireHost_4 rfl (lv_at hl 1 rfl) ?_
    refine lv_bipush (v := 64) hx hb dRG_requireHost_5 (by decide) ?_
    refine lv_icmp_lt (tgt := 20) hx hb dRG_requireHost_7 (by decide) (fun c9 => absurd c9 (hv c_1)) (fun _ => ?_)
    obtain ⟨qs, hZ⟩ := hB.str (zm4 k4_31)
    exact zthrow hfl hx hb hown (hB.word (zm2 k2_151) rfl) (hB.word (zm1 k1_14) rfl) hZ (by decide) (hB.words zO_80) (by rw [hml]; exact hl.1) htab hlocks dRG_requireHost_10 dRG_requireHost_13 dRG_requireHost_14 dRG_requireHost_16 dRG_requireHost_19 (Nat.le_of_ble_eq_true rfl) (Nat.le_of_ble_eq_true rfl) (Nat.le_of_ble_eq_true rfl) (Nat.le_of_ble_eq_true rfl) hS rfl rfl
set_option maxHeartbeats 4000000 in
set_option maxRecDepth 100000 in
theorem zo_requireHost (l : Launch) (dC : Nat → ClassId) (dI : Nat → Nat → Nat) (cI cZ cJ : ClassId) (a0 : Array Value) (s0 : State) (x : Nat) (b : Nat → Nat) (sz : Nat) (v : Int32) (h0 : ¬ v < 0) (h1 : v < 64) : Met l yRG_requireHost [Cond.code yRG_requireHost bRG_requireHost 2 none] ({ frames := 0, cells := 0, slots := 0, locals := 0 } : Room) (zP zCl dC dI (zTY cI cZ cJ) a0 s0 [.ref x, .int v] sz [(x, .inr (0, [.ref (b 0), .ref (b 1), .ref (b 2), .ref (b 3), .ref (b 4), .ref (b 5), .int 0, .int 0, .int 0, .int 0, .int 0, .int 0, .int 0]))]) (zQo sz) 0 0 (zN sz) := by
  refine Met.ofW (cc := bRG_requireHost) (maxL := 2) (ret := none) (by decide) rfl ?_
  intro p e s m args below meth c s₁ B hml hv
  obtain ⟨rfl, hsz, hP, hK, hD0, hB⟩ := hv
  have hx := B.exec
  have hb := B.bytes
  have hr := B.returns
  have hown : s.vm.findClass "RingGuard" = some m.cls := findClass_of_methodNamed B.named
  have hlocks := B.notSynchronized
  subst hsz
  have hD := hD0
  have hA0 : ∀ q, zN s.heap.size q → s0.heap.size ≤ q := zA1 hB
  have hAD : ∀ q, zN s0.heap.size q → s0.heap.size ≤ q := fun _ h => h
  have hA : ∀ q : Nat, s.heap.size ≤ q → zN s.heap.size q := fun _ h => h
  have hS : va_S (zN s.heap.size) s.heap s.heap [] := va_S.rf
  have hP : va_P (dC, dI) zCl [(x, .inr (0, [.ref (b 0), .ref (b 1), .ref (b 2), .ref (b 3), .ref (b 4), .ref (b 5), .int 0, .int 0, .int 0, .int 0, .int 0, .int 0, .int 0]))] s.heap := hP
  have hl := lv_entry ([.ref x, .int v]) (n := 2) (Nat.le_of_ble_eq_true rfl)
  rw [lg_entry_eq]
  generalize (lg_sl ([.ref x, .int v]) ++ List.replicate (2 - (lg_sl ([.ref x, .int v])).length) Slot.unset).toArray = ls at hl ⊢
  have hl : lv_has ls 2 [(0, .ref x), (1, .int v)] := hl
  refine lv_iload_n hx hb dRG_requireHost_0 rfl (lv_at hl 1 rfl) ?_
  refine lv_if_lt (tgt := 10) hx hb dRG_requireHost_1 (by decide) (fun c9 => absurd c9 h0) (fun _ => ?_)
  refine lv_iload_n hx hb dRG_requireHost_4 rfl (lv_at hl 1 rfl) ?_
  refine lv_bipush (v := 64) hx hb dRG_requireHost_5 (by decide) ?_
  refine lv_icmp_lt (tgt := 20) hx hb dRG_requireHost_7 (by decide) (fun _ => ?_) (fun c9 => absurd h1 c9)
  refine W.widen (k := 0) (n := 0) (Nat.le_of_ble_eq_true rfl) (Nat.le_of_ble_eq_true rfl) ?_
  exact W.vret hx hb hr (fun t ht hW => ⟨⟨(), rfl, trivial, trivial⟩, hS.F ht⟩) hS.2.2 dRG_requireHost_20
set_option maxHeartbeats 4000000 in
set_option maxRecDepth 100000 in
theorem zt_requireTag (l : Launch) (dC : Nat → ClassId) (dI : Nat → Nat → Nat) (cI cZ cJ : ClassId) (a0 : Array Value) (s0 : State) (hfl : l.flags = Jvm.pinnedFlags ++ [Jvm.noTraceFlag]) (x : Nat) (b : Nat → Nat) (sz : Nat) (v : Int32) (hv : ¬ v < 0 → ¬ v < 4) : tq_Met l yRG_requireTag [Cond.code yRG_requireTag bRG_requireTag 2 none] ({ frames := 6, cells := 1, slots := 6, locals := 90 } : Room) (zP zCl dC dI (zTY cI cZ cJ) a0 s0 [.ref x, .int v] sz [(x, .inr (0, [.ref (b 0), .ref (b 1), .ref (b 2), .ref (b 3), .ref (b 4), .ref (b 5), .int 0, .int 0, .int 0, .int 0, .int 0, .int 0, .int 0]))]) (tq_Q "java/lang/IllegalArgumentException") 1 6 (zN sz) := by
  refine tq_ofW (cc := bRG_requireTag) (maxL := 2) (ret := none) (by decide) rfl ?_
  intro p e s m args below meth c s₁ B hml htab hv
  obtain ⟨rfl, hsz, hP, hK, hD0, hB⟩ := hv
  have hx := B.exec
  have hb := B.bytes
  have hr := B.returns
  have hown : s.vm.findClass "RingGuard" = some m.cls := findClass_of_methodNamed B.named
  have hlocks := B.notSynchronized
  subst hsz
  have hD := hD0
  have hA0 : ∀ q, zN s.heap.size q → s0.heap.size ≤ q := zA1 hB
  have hAD : ∀ q, zN s0.heap.size q → s0.heap.size ≤ q := fun _ h => h
  have hA : ∀ q : Nat, s.heap.size ≤ q → zN s.heap.size q := fun _ h => h
  have hS : va_S (zN s.heap.size) s.heap s.heap [] := va_S.rf
  have hP : va_P (dC, dI) zCl [(x, .inr (0, [.ref (b 0), .ref (b 1), .ref (b 2), .ref (b 3), .ref (b 4), .ref (b 5), .int 0, .int 0, .int 0, .int 0, .int 0, .int 0, .int 0]))] s.heap := hP
  have hl := lv_entry ([.ref x, .int v]) (n := 2) (Nat.le_of_ble_eq_true rfl)
  rw [lg_entry_eq]
  generalize (lg_sl ([.ref x, .int v]) ++ List.replicate (2 - (lg_sl ([.ref x, .int v])).length) Slot.unset).toArray = ls at hl ⊢
  have hl : lv_has ls 2 [(0, .ref x), (1, .int v)] := hl
  refine lv_iload_n hx hb dRG_requireTag_0 rfl (lv_at hl 1 rfl) ?_
  refine lv_if_lt (tgt := 9) hx hb dRG_requireTag_1 (by decide) (fun c_1 => ?_) (fun c_1 => ?_)
  · obtain ⟨qs, hZ⟩ := hB.str (zm4 k4_47)
    exact zthrow hfl hx hb hown (hB.word (zm2 k2_151) rfl) (hB.word (zm1 k1_14) rfl) hZ (by decide) (hB.words zO_80) (by rw [hml]; exact hl.1) htab hlocks dRG_requireTag_9 dRG_requireTag_12 dRG_requireTag_13 dRG_requireTag_15 dRG_requireTag_18 (Nat.le_of_ble_eq_true rfl) (Nat.le_of_ble_eq_true rfl) (Nat.le_of_ble_eq_true rfl) (Nat.le_of_ble_eq_true rfl) hS rfl rfl
  · refine lv_iload_n hx hb dRG_requireTag_4 rfl (lv_at hl 1 rfl) ?_
    refine lv_iconst (v := 4) hx hb dRG_requireTag_5 (by decide) ?_
    refine lv_icmp_lt (tgt := 19) hx hb dRG_requireTag_6 (by decide) (fun c9 => absurd c9 (hv c_1)) (fun _ => ?_)
    obtain ⟨qs, hZ⟩ := hB.str (zm4 k4_47)
    exact zthrow hfl hx hb hown (hB.word (zm2 k2_151) rfl) (hB.word (zm1 k1_14) rfl) hZ (by decide) (hB.words zO_80) (by rw [hml]; exact hl.1) htab hlocks dRG_requireTag_9 dRG_requireTag_12 dRG_requireTag_13 dRG_requireTag_15 dRG_requireTag_18 (Nat.le_of_ble_eq_true rfl) (Nat.le_of_ble_eq_true rfl) (Nat.le_of_ble_eq_true rfl) (Nat.le_of_ble_eq_true rfl) hS rfl rfl
set_option maxHeartbeats 4000000 in
set_option maxRecDepth 100000 in
theorem zo_requireTag (l : Launch) (dC : Nat → ClassId) (dI : Nat → Nat → Nat) (cI cZ cJ : ClassId) (a0 : Array Value) (s0 : State) (x : Nat) (b : Nat → Nat) (sz : Nat) (v : Int32) (h0 : ¬ v < 0) (h1 : v < 4) : Met l yRG_requireTag [Cond.code yRG_requireTag bRG_requireTag 2 none] ({ frames := 0, cells := 0, slots := 0, locals := 0 } : Room) (zP zCl dC dI (zTY cI cZ cJ) a0 s0 [.ref x, .int v] sz [(x, .inr (0, [.ref (b 0), .ref (b 1), .ref (b 2), .ref (b 3), .ref (b 4), .ref (b 5), .int 0, .int 0, .int 0, .int 0, .int 0, .int 0, .int 0]))]) (zQo sz) 0 0 (zN sz) := by
  refine Met.ofW (cc := bRG_requireTag) (maxL := 2) (ret := none) (by decide) rfl ?_
  intro p e s m args below meth c s₁ B hml hv
  obtain ⟨rfl, hsz, hP, hK, hD0, hB⟩ := hv
  have hx := B.exec
  have hb := B.bytes
  have hr := B.returns
  have hown : s.vm.findClass "RingGuard" = some m.cls := findClass_of_methodNamed B.named
  have hlocks := B.notSynchronized
  subst hsz
  have hD := hD0
  have hA0 : ∀ q, zN s.heap.size q → s0.heap.size ≤ q := zA1 hB
  have hAD : ∀ q, zN s0.heap.size q → s0.heap.size ≤ q := fun _ h => h
  have hA : ∀ q : Nat, s.heap.size ≤ q → zN s.heap.size q := fun _ h => h
  have hS : va_S (zN s.heap.size) s.heap s.heap [] := va_S.rf
  have hP : va_P (dC, dI) zCl [(x, .inr (0, [.ref (b 0), .ref (b 1), .ref (b 2), .ref (b 3), .ref (b 4), .ref (b 5), .int 0, .int 0, .int 0, .int 0, .int 0, .int 0, .int 0]))] s.heap := hP
  have hl := lv_entry ([.ref x, .int v]) (n := 2) (Nat.le_of_ble_eq_true rfl)
  rw [lg_entry_eq]
  generalize (lg_sl ([.ref x, .int v]) ++ List.replicate (2 - (lg_sl ([.ref x, .int v])).length) Slot.unset).toArray = ls at hl ⊢
  have hl : lv_has ls 2 [(0, .ref x), (1, .int v)] := hl
  refine lv_iload_n hx hb dRG_requireTag_0 rfl (lv_at hl 1 rfl) ?_
  refine lv_if_lt (tgt := 9) hx hb dRG_requireTag_1 (by decide) (fun c9 => absurd c9 h0) (fun _ => ?_)
  refine lv_iload_n hx hb dRG_requireTag_4 rfl (lv_at hl 1 rfl) ?_
  refine lv_iconst (v := 4) hx hb dRG_requireTag_5 (by decide) ?_
  refine lv_icmp_lt (tgt := 19) hx hb dRG_requireTag_6 (by decide) (fun _ => ?_) (fun c9 => absurd h1 c9)
  refine W.widen (k := 0) (n := 0) (Nat.le_of_ble_eq_true rfl) (Nat.le_of_ble_eq_true rfl) ?_
  exact W.vret hx hb hr (fun t ht hW => ⟨⟨(), rfl, trivial, trivial⟩, hS.F ht⟩) hS.2.2 dRG_requireTag_19
set_option maxHeartbeats 4000000 in
set_option maxRecDepth 100000 in
theorem zo_requireNotStarted (l : Launch) (dC : Nat → ClassId) (dI : Nat → Nat → Nat) (cI cZ cJ : ClassId) (a0 : Array Value) (s0 : State) (x : Nat) (b : Nat → Nat) (sz : Nat) : Met l yRG_requireNotStarted [Cond.code yRG_requireNotStarted bRG_requireNotStarted 1 none] ({ frames := 0, cells := 0, slots := 0, locals := 0 } : Room) (zP zCl dC dI (zTY cI cZ cJ) a0 s0 [.ref x] sz [(x, .inr (0, [.ref (b 0), .ref (b 1), .ref (b 2), .ref (b 3), .ref (b 4), .ref (b 5), .int 0, .int 0, .int 0, .int 0, .int 0, .int 0, .int 0]))]) (zQo sz) 0 0 (zN sz) := by
  refine Met.ofW (cc := bRG_requireNotStarted) (maxL := 1) (ret := none) (by decide) rfl ?_
  intro p e s m args below meth c s₁ B hml hv
  obtain ⟨rfl, hsz, hP, hK, hD0, hB⟩ := hv
  have hx := B.exec
  have hb := B.bytes
  have hr := B.returns
  have hown : s.vm.findClass "RingGuard" = some m.cls := findClass_of_methodNamed B.named
  have hlocks := B.notSynchronized
  subst hsz
  have hD := hD0
  have hA0 : ∀ q, zN s.heap.size q → s0.heap.size ≤ q := zA1 hB
  have hAD : ∀ q, zN s0.heap.size q → s0.heap.size ≤ q := fun _ h => h
  have hA : ∀ q : Nat, s.heap.size ≤ q → zN s.heap.size q := fun _ h => h
  have hS : va_S (zN s.heap.size) s.heap s.heap [] := va_S.rf
  have hP : va_P (dC, dI) zCl [(x, .inr (0, [.ref (b 0), .ref (b 1), .ref (b 2), .ref (b 3), .ref (b 4), .ref (b 5), .int 0, .int 0, .int 0, .int 0, .int 0, .int 0, .int 0]))] s.heap := hP
  have hl := lv_entry ([.ref x]) (n := 1) (Nat.le_of_ble_eq_true rfl)
  rw [lg_entry_eq]
  generalize (lg_sl ([.ref x]) ++ List.replicate (1 - (lg_sl ([.ref x])).length) Slot.unset).toArray = ls at hl ⊢
  have hl : lv_has ls 1 [(0, .ref x)] := hl
  refine lv_aload_n hx hb dRG_requireNotStarted_0 rfl (lv_at hl 0 rfl) ?_
  have hu0 : ∀ w ∈ u_ws "RingGuard" T_RG 13, w.before ([.ref x] : List Value).toArray s = true := hB.words zU_RG
  refine va_get (D := (dC, dI)) (ci := 0) (v := .int 0) (C := "RingGuard") (T := T_RG) (N := 13) hx hb hu0 zid hown hK hP 0 rfl rfl 6 (by decide) (hB.word (zm2 k2_1) rfl) (fun _ h9 => h9) rfl dRG_requireNotStarted_1 ?_
  refine lv_if_eq (tgt := 17) hx hb dRG_requireNotStarted_4 (by decide) (fun _ => ?_) (fun c9 => absurd (by decide) c9)
  refine W.widen (k := 0) (n := 0) (Nat.le_of_ble_eq_true rfl) (Nat.le_of_ble_eq_true rfl) ?_
  exact W.vret hx hb hr (fun t ht hW => ⟨⟨(), rfl, trivial, trivial⟩, hS.F ht⟩) hS.2.2 dRG_requireNotStarted_17
set_option maxHeartbeats 4000000 in
set_option maxRecDepth 100000 in
theorem zt_requireStarted (l : Launch) (dC : Nat → ClassId) (dI : Nat → Nat → Nat) (cI cZ cJ : ClassId) (a0 : Array Value) (s0 : State) (hfl : l.flags = Jvm.pinnedFlags ++ [Jvm.noTraceFlag]) (x : Nat) (b : Nat → Nat) (sz : Nat) : tq_Met l yRG_requireStarted [Cond.code yRG_requireStarted bRG_requireStarted 1 none] ({ frames := 6, cells := 1, slots := 6, locals := 90 } : Room) (zP zCl dC dI (zTY cI cZ cJ) a0 s0 [.ref x] sz [(x, .inr (0, [.ref (b 0), .ref (b 1), .ref (b 2), .ref (b 3), .ref (b 4), .ref (b 5), .int 0, .int 0, .int 0, .int 0, .int 0, .int 0, .int 0]))]) (tq_Q "java/lang/IllegalStateException") 1 6 (zN sz) := by
  refine tq_ofW (cc := bRG_requireStarted) (maxL := 1) (ret := none) (by decide) rfl ?_
  intro p e s m args below meth c s₁ B hml htab hv
  obtain ⟨rfl, hsz, hP, hK, hD0, hB⟩ := hv
  have hx := B.exec
  have hb := B.bytes
  have hr := B.returns
  have hown : s.vm.findClass "RingGuard" = some m.cls := findClass_of_methodNamed B.named
  have hlocks := B.notSynchronized
  subst hsz
  have hD := hD0
  have hA0 : ∀ q, zN s.heap.size q → s0.heap.size ≤ q := zA1 hB
  have hAD : ∀ q, zN s0.heap.size q → s0.heap.size ≤ q := fun _ h => h
  have hA : ∀ q : Nat, s.heap.size ≤ q → zN s.heap.size q := fun _ h => h
  have hS : va_S (zN s.heap.size) s.heap s.heap [] := va_S.rf
  have hP : va_P (dC, dI) zCl [(x, .inr (0, [.ref (b 0), .ref (b 1), .ref (b 2), .ref (b 3), .ref (b 4), .ref (b 5), .int 0, .int 0, .int 0, .int 0, .int 0, .int 0, .int 0]))] s.heap := hP
  have hl := lv_entry ([.ref x]) (n := 1) (Nat.le_of_ble_eq_true rfl)
  rw [lg_entry_eq]
  generalize (lg_sl ([.ref x]) ++ List.replicate (1 - (lg_sl ([.ref x])).length) Slot.unset).toArray = ls at hl ⊢
  have hl : lv_has ls 1 [(0, .ref x)] := hl
  refine lv_aload_n hx hb dRG_requireStarted_0 rfl (lv_at hl 0 rfl) ?_
  have hu0 : ∀ w ∈ u_ws "RingGuard" T_RG 13, w.before ([.ref x] : List Value).toArray s = true := hB.words zU_RG
  refine va_get (D := (dC, dI)) (ci := 0) (v := .int 0) (C := "RingGuard") (T := T_RG) (N := 13) hx hb hu0 zid hown hK hP 0 rfl rfl 6 (by decide) (hB.word (zm2 k2_1) rfl) (fun _ h9 => h9) rfl dRG_requireStarted_1 ?_
  refine lv_if_ne (tgt := 17) hx hb dRG_requireStarted_4 (by decide) (fun c9 => absurd (by decide) c9) (fun _ => ?_)
  obtain ⟨qs, hZ⟩ := hB.str (zm3 k3_59)
  exact zthrow hfl hx hb hown (hB.word (zm2 k2_71) rfl) (hB.word (zm1 k1_13) rfl) hZ (by decide) (hB.words zO_66) (by rw [hml]; exact hl.1) htab hlocks dRG_requireStarted_7 dRG_requireStarted_10 dRG_requireStarted_11 dRG_requireStarted_13 dRG_requireStarted_16 (Nat.le_of_ble_eq_true rfl) (Nat.le_of_ble_eq_true rfl) (Nat.le_of_ble_eq_true rfl) (Nat.le_of_ble_eq_true rfl) hS rfl rfl
set_option maxHeartbeats 4000000 in
set_option maxRecDepth 100000 in
theorem zt_requirePort (l : Launch) (dC : Nat → ClassId) (dI : Nat → Nat → Nat) (cI cZ cJ : ClassId) (a0 : Array Value) (s0 : State) (hfl : l.flags = Jvm.pinnedFlags ++ [Jvm.noTraceFlag]) (x : Nat) (b : Nat → Nat) (sz : Nat) (v u : Int32) : tq_Met l yRG_requirePort [Cond.code yRG_requirePort bRG_requirePort 3 none] ({ frames := 7, cells := 1, slots := 6, locals := 111 } : Room) (zP zCl dC dI (zTY cI cZ cJ) a0 s0 [.ref x, .int v, .int u] sz [(x, .inr (0, [.ref (b 0), .ref (b 1), .ref (b 2), .ref (b 3), .ref (b 4), .ref (b 5), .int 0, .int 0, .int 0, .int 0, .int 0, .int 0, .int 0])), ((b 0), .inr (1, [.int 0, .int 0, .ref (b 10), .ref (b 11), .ref (b 12), .ref (b 13), .ref (b 14), .ref (b 15), .ref (b 16), .ref (b 17), .ref (b 18)]))]) (tq_Q "java/lang/IllegalArgumentException") 1 6 (zN sz) := by
  refine tq_ofW (cc := bRG_requirePort) (maxL := 3) (ret := none) (by decide) rfl ?_
  intro p e s m args below meth c s₁ B hml htab hv
  obtain ⟨rfl, hsz, hP, hK, hD0, hB⟩ := hv
  have hx := B.exec
  have hb := B.bytes
  have hr := B.returns
  have hown : s.vm.findClass "RingGuard" = some m.cls := findClass_of_methodNamed B.named
  have hlocks := B.notSynchronized
  subst hsz
  have hD := hD0
  have hA0 : ∀ q, zN s.heap.size q → s0.heap.size ≤ q := zA1 hB
  have hAD : ∀ q, zN s0.heap.size q → s0.heap.size ≤ q := fun _ h => h
  have hA : ∀ q : Nat, s.heap.size ≤ q → zN s.heap.size q := fun _ h => h
  have hS : va_S (zN s.heap.size) s.heap s.heap [] := va_S.rf
  have hP : va_P (dC, dI) zCl [(x, .inr (0, [.ref (b 0), .ref (b 1), .ref (b 2), .ref (b 3), .ref (b 4), .ref (b 5), .int 0, .int 0, .int 0, .int 0, .int 0, .int 0, .int 0])), ((b 0), .inr (1, [.int 0, .int 0, .ref (b 10), .ref (b 11), .ref (b 12), .ref (b 13), .ref (b 14), .ref (b 15), .ref (b 16), .ref (b 17), .ref (b 18)]))] s.heap := hP
  have hl := lv_entry ([.ref x, .int v, .int u]) (n := 3) (Nat.le_of_ble_eq_true rfl)
  rw [lg_entry_eq]
  generalize (lg_sl ([.ref x, .int v, .int u]) ++ List.replicate (3 - (lg_sl ([.ref x, .int v, .int u])).length) Slot.unset).toArray = ls at hl ⊢
  have hl : lv_has ls 3 [(0, .ref x), (1, .int v), (2, .int u)] := hl
  refine lv_aload_n hx hb dRG_requirePort_0 rfl (lv_at hl 0 rfl) ?_
  refine lv_iload_n hx hb dRG_requirePort_1 rfl (lv_at hl 1 rfl) ?_
  have hPc : va_P (dC, dI) zCl [(x, .inr (0, [.ref (b 0), .ref (b 1), .ref (b 2), .ref (b 3), .ref (b 4), .ref (b 5), .int 0, .int 0, .int 0, .int 0, .int 0, .int 0, .int 0])), ((b 0), .inr (1, [.int 0, .int 0, .ref (b 10), .ref (b 11), .ref (b 12), .ref (b 13), .ref (b 14), .ref (b 15), .ref (b 16), .ref (b 17), .ref (b 18)]))] s.heap := hP.sub [0, 1] rfl
  have hDc : va_D (zN s0.heap.size) [(x, .inr (0, [.ref (b 0), .ref (b 1), .ref (b 2), .ref (b 3), .ref (b 4), .ref (b 5), .int 0, .int 0, .int 0, .int 0, .int 0, .int 0, .int 0])), ((b 0), .inr (1, [.int 0, .int 0, .ref (b 10), .ref (b 11), .ref (b 12), .ref (b 13), .ref (b 14), .ref (b 15), .ref (b 16), .ref (b 17), .ref (b 18)]))] := hD.sub [0, 1] (by decide) rfl
  exact zpass (tq_runV (As := [.int v]) (rest := []) ⟨hx, hb, hml, hown, zno⟩ (zt_requireBridge l dC dI cI cZ cJ a0 s0 hfl x b s.heap.size v) (zcw 1 (hB.word (zm2 k2_150) rfl) (hB.word (zm1 k1_1) rfl) (hB.word (zm2 k2_147) rfl) (hB.word (zm2 k2_149) rfl) (k2_selects_private (by decide) (hB.word (zm1 k1_18) rfl) (hB.word (zm2 k2_148) rfl) (hB.word (zm2 k2_149) rfl)) rfl rfl (by decide +kernel) ⟨Nat.le_of_ble_eq_true rfl, Nat.le_of_ble_eq_true rfl⟩) ⟨zP_blind, va_recv hK hP (ci := 0) (q0 := 0) rfl rfl, zP_pre hPc hK hDc hAD (zB_on hB hA0 hS)⟩ rfl rfl hl.1 rfl (lv_room (Nat.le_of_ble_eq_true rfl)) dRG_requirePort_2 ⟨Nat.le_of_ble_eq_true rfl, Nat.le_of_ble_eq_true rfl⟩) htab hlocks hS (Nat.le_of_ble_eq_true rfl) (Nat.le_of_ble_eq_true rfl)
end
section
set_option maxHeartbeats 4000000 in
set_option maxRecDepth 100000 in
theorem zt_link (l : Launch) (dC : Nat → ClassId) (dI : Nat → Nat → Nat) (cI cZ cJ : ClassId) (a0 : Array Value) (s0 : State) (hfl : l.flags = Jvm.pinnedFlags ++ [Jvm.noTraceFlag]) (x : Nat) (b : Nat → Nat) (sz : Nat) (p0 p1 p2 : Int32) : tq_Met l yRG_link [Cond.code yRG_link bRG_link 4 (some .int)] ({ frames := 7, cells := 1, slots := 6, locals := 111 } : Room) (zP zCl dC dI (zTY cI cZ cJ) a0 s0 [.ref x, .int p0, .int p1, .int p2] sz [(x, .inr (0, [.ref (b 0), .ref (b 1), .ref (b 2), .ref (b 3), .ref (b 4), .ref (b 5), .int 0, .int 0, .int 0, .int 0, .int 0, .int 0, .int 0])), ((b 0), .inr (1, [.int 0, .int 0, .ref (b 10), .ref (b 11), .ref (b 12), .ref (b 13), .ref (b 14), .ref (b 15), .ref (b 16), .ref (b 17), .ref (b 18)]))]) (tq_Q "java/lang/IllegalArgumentException") 1 6 (zN sz) := by
  refine tq_ofW (cc := bRG_link) (maxL := 4) (ret := (some .int)) (by decide) rfl ?_
  intro p e s m args below meth c s₁ B hml htab hv
  obtain ⟨rfl, hsz, hP, hK, hD0, hB⟩ := hv
  have hx := B.exec
  have hb := B.bytes
  have hr := B.returns
  have hown : s.vm.findClass "RingGuard" = some m.cls := findClass_of_methodNamed B.named
  have hlocks := B.notSynchronized
  subst hsz
  have hD := hD0
  have hA0 : ∀ q, zN s.heap.size q → s0.heap.size ≤ q := zA1 hB
  have hAD : ∀ q, zN s0.heap.size q → s0.heap.size ≤ q := fun _ h => h
  have hA : ∀ q : Nat, s.heap.size ≤ q → zN s.heap.size q := fun _ h => h
  have hS : va_S (zN s.heap.size) s.heap s.heap [] := va_S.rf
  have hP : va_P (dC, dI) zCl [(x, .inr (0, [.ref (b 0), .ref (b 1), .ref (b 2), .ref (b 3), .ref (b 4), .ref (b 5), .int 0, .int 0, .int 0, .int 0, .int 0, .int 0, .int 0])), ((b 0), .inr (1, [.int 0, .int 0, .ref (b 10), .ref (b 11), .ref (b 12), .ref (b 13), .ref (b 14), .ref (b 15), .ref (b 16), .ref (b 17), .ref (b 18)]))] s.heap := hP
  have hl := lv_entry ([.ref x, .int p0, .int p1, .int p2]) (n := 4) (Nat.le_of_ble_eq_true rfl)
  rw [lg_entry_eq]
  generalize (lg_sl ([.ref x, .int p0, .int p1, .int p2]) ++ List.replicate (4 - (lg_sl ([.ref x, .int p0, .int p1, .int p2])).length) Slot.unset).toArray = ls at hl ⊢
  have hl : lv_has ls 4 [(0, .ref x), (1, .int p0), (2, .int p1), (3, .int p2)] := hl
  refine lv_aload_n hx hb dRG_link_0 rfl (lv_at hl 0 rfl) ?_
  refine lv_iload_n hx hb dRG_link_1 rfl (lv_at hl 1 rfl) ?_
  have hPc : va_P (dC, dI) zCl [(x, .inr (0, [.ref (b 0), .ref (b 1), .ref (b 2), .ref (b 3), .ref (b 4), .ref (b 5), .int 0, .int 0, .int 0, .int 0, .int 0, .int 0, .int 0])), ((b 0), .inr (1, [.int 0, .int 0, .ref (b 10), .ref (b 11), .ref (b 12), .ref (b 13), .ref (b 14), .ref (b 15), .ref (b 16), .ref (b 17), .ref (b 18)]))] s.heap := hP.sub [0, 1] rfl
  have hDc : va_D (zN s0.heap.size) [(x, .inr (0, [.ref (b 0), .ref (b 1), .ref (b 2), .ref (b 3), .ref (b 4), .ref (b 5), .int 0, .int 0, .int 0, .int 0, .int 0, .int 0, .int 0])), ((b 0), .inr (1, [.int 0, .int 0, .ref (b 10), .ref (b 11), .ref (b 12), .ref (b 13), .ref (b 14), .ref (b 15), .ref (b 16), .ref (b 17), .ref (b 18)]))] := hD.sub [0, 1] (by decide) rfl
  exact zpass (tq_runV (As := [.int p0]) (rest := []) ⟨hx, hb, hml, hown, zno⟩ (zt_requireBridge l dC dI cI cZ cJ a0 s0 hfl x b s.heap.size p0) (zcw 1 (hB.word (zm2 k2_150) rfl) (hB.word (zm1 k1_1) rfl) (hB.word (zm2 k2_147) rfl) (hB.word (zm2 k2_149) rfl) (k2_selects_private (by decide) (hB.word (zm1 k1_18) rfl) (hB.word (zm2 k2_148) rfl) (hB.word (zm2 k2_149) rfl)) rfl rfl (by decide +kernel) ⟨Nat.le_of_ble_eq_true rfl, Nat.le_of_ble_eq_true rfl⟩) ⟨zP_blind, va_recv hK hP (ci := 0) (q0 := 0) rfl rfl, zP_pre hPc hK hDc hAD (zB_on hB hA0 hS)⟩ rfl rfl hl.1 rfl (lv_room (Nat.le_of_ble_eq_true rfl)) dRG_link_2 ⟨Nat.le_of_ble_eq_true rfl, Nat.le_of_ble_eq_true rfl⟩) htab hlocks hS (Nat.le_of_ble_eq_true rfl) (Nat.le_of_ble_eq_true rfl)
set_option maxHeartbeats 4000000 in
set_option maxRecDepth 100000 in
theorem zt_owner (l : Launch) (dC : Nat → ClassId) (dI : Nat → Nat → Nat) (cI cZ cJ : ClassId) (a0 : Array Value) (s0 : State) (hfl : l.flags = Jvm.pinnedFlags ++ [Jvm.noTraceFlag]) (x : Nat) (b : Nat → Nat) (sz : Nat) (p0 p1 p2 : Int32) : tq_Met l yRG_owner [Cond.code yRG_owner bRG_owner 4 none] ({ frames := 7, cells := 1, slots := 6, locals := 111 } : Room) (zP zCl dC dI (zTY cI cZ cJ) a0 s0 [.ref x, .int p0, .int p1, .int p2] sz [(x, .inr (0, [.ref (b 0), .ref (b 1), .ref (b 2), .ref (b 3), .ref (b 4), .ref (b 5), .int 0, .int 0, .int 0, .int 0, .int 0, .int 0, .int 0])), ((b 0), .inr (1, [.int 0, .int 0, .ref (b 10), .ref (b 11), .ref (b 12), .ref (b 13), .ref (b 14), .ref (b 15), .ref (b 16), .ref (b 17), .ref (b 18)]))]) (tq_Q "java/lang/IllegalArgumentException") 1 6 (zN sz) := by
  refine tq_ofW (cc := bRG_owner) (maxL := 4) (ret := none) (by decide) rfl ?_
  intro p e s m args below meth c s₁ B hml htab hv
  obtain ⟨rfl, hsz, hP, hK, hD0, hB⟩ := hv
  have hx := B.exec
  have hb := B.bytes
  have hr := B.returns
  have hown : s.vm.findClass "RingGuard" = some m.cls := findClass_of_methodNamed B.named
  have hlocks := B.notSynchronized
  subst hsz
  have hD := hD0
  have hA0 : ∀ q, zN s.heap.size q → s0.heap.size ≤ q := zA1 hB
  have hAD : ∀ q, zN s0.heap.size q → s0.heap.size ≤ q := fun _ h => h
  have hA : ∀ q : Nat, s.heap.size ≤ q → zN s.heap.size q := fun _ h => h
  have hS : va_S (zN s.heap.size) s.heap s.heap [] := va_S.rf
  have hP : va_P (dC, dI) zCl [(x, .inr (0, [.ref (b 0), .ref (b 1), .ref (b 2), .ref (b 3), .ref (b 4), .ref (b 5), .int 0, .int 0, .int 0, .int 0, .int 0, .int 0, .int 0])), ((b 0), .inr (1, [.int 0, .int 0, .ref (b 10), .ref (b 11), .ref (b 12), .ref (b 13), .ref (b 14), .ref (b 15), .ref (b 16), .ref (b 17), .ref (b 18)]))] s.heap := hP
  have hl := lv_entry ([.ref x, .int p0, .int p1, .int p2]) (n := 4) (Nat.le_of_ble_eq_true rfl)
  rw [lg_entry_eq]
  generalize (lg_sl ([.ref x, .int p0, .int p1, .int p2]) ++ List.replicate (4 - (lg_sl ([.ref x, .int p0, .int p1, .int p2])).length) Slot.unset).toArray = ls at hl ⊢
  have hl : lv_has ls 4 [(0, .ref x), (1, .int p0), (2, .int p1), (3, .int p2)] := hl
  refine lv_aload_n hx hb dRG_owner_0 rfl (lv_at hl 0 rfl) ?_
  refine lv_iload_n hx hb dRG_owner_1 rfl (lv_at hl 1 rfl) ?_
  by_cases hy1 : ¬ p0 < 0 → ¬ p0 < 6
  · have hPc : va_P (dC, dI) zCl [(x, .inr (0, [.ref (b 0), .ref (b 1), .ref (b 2), .ref (b 3), .ref (b 4), .ref (b 5), .int 0, .int 0, .int 0, .int 0, .int 0, .int 0, .int 0]))] s.heap := hP.sub [0] rfl
    have hDc : va_D (zN s0.heap.size) [(x, .inr (0, [.ref (b 0), .ref (b 1), .ref (b 2), .ref (b 3), .ref (b 4), .ref (b 5), .int 0, .int 0, .int 0, .int 0, .int 0, .int 0, .int 0]))] := hD.sub [0] (by decide) rfl
    exact zpass (tq_runV (As := [.int p0]) (rest := []) ⟨hx, hb, hml, hown, zno⟩ (zt_requireRing l dC dI cI cZ cJ a0 s0 hfl x b s.heap.size p0 hy1) (zcw 1 (hB.word (zm2 k2_170) rfl) (hB.word (zm1 k1_1) rfl) (hB.word (zm2 k2_167) rfl) (hB.word (zm2 k2_169) rfl) (k2_selects_private (by decide) (hB.word (zm1 k1_18) rfl) (hB.word (zm2 k2_168) rfl) (hB.word (zm2 k2_169) rfl)) rfl rfl (by decide +kernel) ⟨Nat.le_of_ble_eq_true rfl, Nat.le_of_ble_eq_true rfl⟩) ⟨zP_blind, va_recv hK hP (ci := 0) (q0 := 0) rfl rfl, zP_pre hPc hK hDc hAD (zB_on hB hA0 hS)⟩ rfl rfl hl.1 rfl (lv_room (Nat.le_of_ble_eq_true rfl)) dRG_owner_2 ⟨Nat.le_of_ble_eq_true rfl, Nat.le_of_ble_eq_true rfl⟩) htab hlocks hS (Nat.le_of_ble_eq_true rfl) (Nat.le_of_ble_eq_true rfl)
  · have hy1a := (Classical.not_imp.mp hy1).1
    have hy1b := Classical.not_not.mp (Classical.not_imp.mp hy1).2
    have hPc : va_P (dC, dI) zCl [(x, .inr (0, [.ref (b 0), .ref (b 1), .ref (b 2), .ref (b 3), .ref (b 4), .ref (b 5), .int 0, .int 0, .int 0, .int 0, .int 0, .int 0, .int 0]))] s.heap := hP.sub [0] rfl
    have hDc : va_D (zN s0.heap.size) [(x, .inr (0, [.ref (b 0), .ref (b 1), .ref (b 2), .ref (b 3), .ref (b 4), .ref (b 5), .int 0, .int 0, .int 0, .int 0, .int 0, .int 0, .int 0]))] := hD.sub [0] (by decide) rfl
    refine zcallo (va_runV (As := [.int p0]) (rest := []) ⟨hx, hb, hml, hown, zno⟩ (zo_requireRing l dC dI cI cZ cJ a0 s0 x b s.heap.size p0 hy1a hy1b) (zcw 1 (hB.word (zm2 k2_170) rfl) (hB.word (zm1 k1_1) rfl) (hB.word (zm2 k2_167) rfl) (hB.word (zm2 k2_169) rfl) (k2_selects_private (by decide) (hB.word (zm1 k1_18) rfl) (hB.word (zm2 k2_168) rfl) (hB.word (zm2 k2_169) rfl)) rfl rfl (by decide +kernel) ⟨Nat.le_of_ble_eq_true rfl, Nat.le_of_ble_eq_true rfl⟩) ⟨zP_blind, va_recv hK hP (ci := 0) (q0 := 0) rfl rfl, zP_pre hPc hK hDc hAD (zB_on hB hA0 hS)⟩ rfl rfl hl.1 rfl (lv_room (Nat.le_of_ble_eq_true rfl)) dRG_owner_2 ⟨Nat.le_of_ble_eq_true rfl, Nat.le_of_ble_eq_true rfl⟩) hS hA (fun H1 locs hz1 hk1 hS => ?_)
    have hP := zKeep hP hk1
    generalize H1 = H at hP hS ⊢
    have hP : va_P (dC, dI) zCl [(x, .inr (0, [.ref (b 0), .ref (b 1), .ref (b 2), .ref (b 3), .ref (b 4), .ref (b 5), .int 0, .int 0, .int 0, .int 0, .int 0, .int 0, .int 0])), ((b 0), .inr (1, [.int 0, .int 0, .ref (b 10), .ref (b 11), .ref (b 12), .ref (b 13), .ref (b 14), .ref (b 15), .ref (b 16), .ref (b 17), .ref (b 18)]))] H := hP
    refine lv_aload_n hx hb dRG_owner_5 rfl (lv_at hl 0 rfl) ?_
    refine lv_iload_n hx hb dRG_owner_6 rfl (lv_at hl 2 rfl) ?_
    have hPc : va_P (dC, dI) zCl [(x, .inr (0, [.ref (b 0), .ref (b 1), .ref (b 2), .ref (b 3), .ref (b 4), .ref (b 5), .int 0, .int 0, .int 0, .int 0, .int 0, .int 0, .int 0])), ((b 0), .inr (1, [.int 0, .int 0, .ref (b 10), .ref (b 11), .ref (b 12), .ref (b 13), .ref (b 14), .ref (b 15), .ref (b 16), .ref (b 17), .ref (b 18)]))] H := hP.sub [0, 1] rfl
    have hDc : va_D (zN s0.heap.size) [(x, .inr (0, [.ref (b 0), .ref (b 1), .ref (b 2), .ref (b 3), .ref (b 4), .ref (b 5), .int 0, .int 0, .int 0, .int 0, .int 0, .int 0, .int 0])), ((b 0), .inr (1, [.int 0, .int 0, .ref (b 10), .ref (b 11), .ref (b 12), .ref (b 13), .ref (b 14), .ref (b 15), .ref (b 16), .ref (b 17), .ref (b 18)]))] := hD.sub [0, 1] (by decide) rfl
    exact zpass (tq_runV (As := [.int p1]) (rest := []) ⟨hx, hb, hml, hown, zno⟩ (zt_requireBridge l dC dI cI cZ cJ a0 s0 hfl x b H.size p1) (zcw 1 (hB.word (zm2 k2_150) rfl) (hB.word (zm1 k1_1) rfl) (hB.word (zm2 k2_147) rfl) (hB.word (zm2 k2_149) rfl) (k2_selects_private (by decide) (hB.word (zm1 k1_18) rfl) (hB.word (zm2 k2_148) rfl) (hB.word (zm2 k2_149) rfl)) rfl rfl (by decide +kernel) ⟨Nat.le_of_ble_eq_true rfl, Nat.le_of_ble_eq_true rfl⟩) ⟨zP_blind, va_recv hK hP (ci := 0) (q0 := 0) rfl rfl, zP_pre hPc hK hDc hAD (zB_on hB hA0 hS)⟩ rfl rfl hl.1 rfl (lv_room (Nat.le_of_ble_eq_true rfl)) dRG_owner_7 ⟨Nat.le_of_ble_eq_true rfl, Nat.le_of_ble_eq_true rfl⟩) htab hlocks hS (Nat.le_of_ble_eq_true rfl) (Nat.le_of_ble_eq_true rfl)
set_option maxHeartbeats 4000000 in
set_option maxRecDepth 100000 in
theorem zt_fail (l : Launch) (dC : Nat → ClassId) (dI : Nat → Nat → Nat) (cI cZ cJ : ClassId) (a0 : Array Value) (s0 : State) (hfl : l.flags = Jvm.pinnedFlags ++ [Jvm.noTraceFlag]) (x : Nat) (b : Nat → Nat) (sz : Nat) (p0 : Int32) : tq_Met l yRG_fail [Cond.code yRG_fail bRG_fail 3 (some .boolean)] ({ frames := 7, cells := 1, slots := 6, locals := 111 } : Room) (zP zCl dC dI (zTY cI cZ cJ) a0 s0 [.ref x, .int p0] sz [(x, .inr (0, [.ref (b 0), .ref (b 1), .ref (b 2), .ref (b 3), .ref (b 4), .ref (b 5), .int 0, .int 0, .int 0, .int 0, .int 0, .int 0, .int 0])), ((b 0), .inr (1, [.int 0, .int 0, .ref (b 10), .ref (b 11), .ref (b 12), .ref (b 13), .ref (b 14), .ref (b 15), .ref (b 16), .ref (b 17), .ref (b 18)]))]) (tq_Q "java/lang/IllegalArgumentException") 1 6 (zN sz) := by
  refine tq_ofW (cc := bRG_fail) (maxL := 3) (ret := (some .boolean)) (by decide) rfl ?_
  intro p e s m args below meth c s₁ B hml htab hv
  obtain ⟨rfl, hsz, hP, hK, hD0, hB⟩ := hv
  have hx := B.exec
  have hb := B.bytes
  have hr := B.returns
  have hown : s.vm.findClass "RingGuard" = some m.cls := findClass_of_methodNamed B.named
  have hlocks := B.notSynchronized
  subst hsz
  have hD := hD0
  have hA0 : ∀ q, zN s.heap.size q → s0.heap.size ≤ q := zA1 hB
  have hAD : ∀ q, zN s0.heap.size q → s0.heap.size ≤ q := fun _ h => h
  have hA : ∀ q : Nat, s.heap.size ≤ q → zN s.heap.size q := fun _ h => h
  have hS : va_S (zN s.heap.size) s.heap s.heap [] := va_S.rf
  have hP : va_P (dC, dI) zCl [(x, .inr (0, [.ref (b 0), .ref (b 1), .ref (b 2), .ref (b 3), .ref (b 4), .ref (b 5), .int 0, .int 0, .int 0, .int 0, .int 0, .int 0, .int 0])), ((b 0), .inr (1, [.int 0, .int 0, .ref (b 10), .ref (b 11), .ref (b 12), .ref (b 13), .ref (b 14), .ref (b 15), .ref (b 16), .ref (b 17), .ref (b 18)]))] s.heap := hP
  have hl := lv_entry ([.ref x, .int p0]) (n := 3) (Nat.le_of_ble_eq_true rfl)
  rw [lg_entry_eq]
  generalize (lg_sl ([.ref x, .int p0]) ++ List.replicate (3 - (lg_sl ([.ref x, .int p0])).length) Slot.unset).toArray = ls at hl ⊢
  have hl : lv_has ls 3 [(0, .ref x), (1, .int p0)] := hl
  refine lv_aload_n hx hb dRG_fail_0 rfl (lv_at hl 0 rfl) ?_
  refine lv_iload_n hx hb dRG_fail_1 rfl (lv_at hl 1 rfl) ?_
  have hPc : va_P (dC, dI) zCl [(x, .inr (0, [.ref (b 0), .ref (b 1), .ref (b 2), .ref (b 3), .ref (b 4), .ref (b 5), .int 0, .int 0, .int 0, .int 0, .int 0, .int 0, .int 0])), ((b 0), .inr (1, [.int 0, .int 0, .ref (b 10), .ref (b 11), .ref (b 12), .ref (b 13), .ref (b 14), .ref (b 15), .ref (b 16), .ref (b 17), .ref (b 18)]))] s.heap := hP.sub [0, 1] rfl
  have hDc : va_D (zN s0.heap.size) [(x, .inr (0, [.ref (b 0), .ref (b 1), .ref (b 2), .ref (b 3), .ref (b 4), .ref (b 5), .int 0, .int 0, .int 0, .int 0, .int 0, .int 0, .int 0])), ((b 0), .inr (1, [.int 0, .int 0, .ref (b 10), .ref (b 11), .ref (b 12), .ref (b 13), .ref (b 14), .ref (b 15), .ref (b 16), .ref (b 17), .ref (b 18)]))] := hD.sub [0, 1] (by decide) rfl
  exact zpass (tq_runV (As := [.int p0]) (rest := []) ⟨hx, hb, hml, hown, zno⟩ (zt_requireLink l dC dI cI cZ cJ a0 s0 hfl x b s.heap.size p0) (zcw 1 (hB.word (zm2 k2_188) rfl) (hB.word (zm1 k1_1) rfl) (hB.word (zm2 k2_185) rfl) (hB.word (zm2 k2_187) rfl) (k2_selects_private (by decide) (hB.word (zm1 k1_18) rfl) (hB.word (zm2 k2_186) rfl) (hB.word (zm2 k2_187) rfl)) rfl rfl (by decide +kernel) ⟨Nat.le_of_ble_eq_true rfl, Nat.le_of_ble_eq_true rfl⟩) ⟨zP_blind, va_recv hK hP (ci := 0) (q0 := 0) rfl rfl, zP_pre hPc hK hDc hAD (zB_on hB hA0 hS)⟩ rfl rfl hl.1 rfl (lv_room (Nat.le_of_ble_eq_true rfl)) dRG_fail_2 ⟨Nat.le_of_ble_eq_true rfl, Nat.le_of_ble_eq_true rfl⟩) htab hlocks hS (Nat.le_of_ble_eq_true rfl) (Nat.le_of_ble_eq_true rfl)
set_option maxHeartbeats 4000000 in
set_option maxRecDepth 100000 in
theorem zt_heal (l : Launch) (dC : Nat → ClassId) (dI : Nat → Nat → Nat) (cI cZ cJ : ClassId) (a0 : Array Value) (s0 : State) (hfl : l.flags = Jvm.pinnedFlags ++ [Jvm.noTraceFlag]) (x : Nat) (b : Nat → Nat) (sz : Nat) (p0 : Int32) : tq_Met l yRG_heal [Cond.code yRG_heal bRG_heal 3 (some .boolean)] ({ frames := 7, cells := 1, slots := 6, locals := 111 } : Room) (zP zCl dC dI (zTY cI cZ cJ) a0 s0 [.ref x, .int p0] sz [(x, .inr (0, [.ref (b 0), .ref (b 1), .ref (b 2), .ref (b 3), .ref (b 4), .ref (b 5), .int 0, .int 0, .int 0, .int 0, .int 0, .int 0, .int 0])), ((b 0), .inr (1, [.int 0, .int 0, .ref (b 10), .ref (b 11), .ref (b 12), .ref (b 13), .ref (b 14), .ref (b 15), .ref (b 16), .ref (b 17), .ref (b 18)]))]) (tq_Q "java/lang/IllegalArgumentException") 1 6 (zN sz) := by
  refine tq_ofW (cc := bRG_heal) (maxL := 3) (ret := (some .boolean)) (by decide) rfl ?_
  intro p e s m args below meth c s₁ B hml htab hv
  obtain ⟨rfl, hsz, hP, hK, hD0, hB⟩ := hv
  have hx := B.exec
  have hb := B.bytes
  have hr := B.returns
  have hown : s.vm.findClass "RingGuard" = some m.cls := findClass_of_methodNamed B.named
  have hlocks := B.notSynchronized
  subst hsz
  have hD := hD0
  have hA0 : ∀ q, zN s.heap.size q → s0.heap.size ≤ q := zA1 hB
  have hAD : ∀ q, zN s0.heap.size q → s0.heap.size ≤ q := fun _ h => h
  have hA : ∀ q : Nat, s.heap.size ≤ q → zN s.heap.size q := fun _ h => h
  have hS : va_S (zN s.heap.size) s.heap s.heap [] := va_S.rf
  have hP : va_P (dC, dI) zCl [(x, .inr (0, [.ref (b 0), .ref (b 1), .ref (b 2), .ref (b 3), .ref (b 4), .ref (b 5), .int 0, .int 0, .int 0, .int 0, .int 0, .int 0, .int 0])), ((b 0), .inr (1, [.int 0, .int 0, .ref (b 10), .ref (b 11), .ref (b 12), .ref (b 13), .ref (b 14), .ref (b 15), .ref (b 16), .ref (b 17), .ref (b 18)]))] s.heap := hP
  have hl := lv_entry ([.ref x, .int p0]) (n := 3) (Nat.le_of_ble_eq_true rfl)
  rw [lg_entry_eq]
  generalize (lg_sl ([.ref x, .int p0]) ++ List.replicate (3 - (lg_sl ([.ref x, .int p0])).length) Slot.unset).toArray = ls at hl ⊢
  have hl : lv_has ls 3 [(0, .ref x), (1, .int p0)] := hl
  refine lv_aload_n hx hb dRG_heal_0 rfl (lv_at hl 0 rfl) ?_
  refine lv_iload_n hx hb dRG_heal_1 rfl (lv_at hl 1 rfl) ?_
  have hPc : va_P (dC, dI) zCl [(x, .inr (0, [.ref (b 0), .ref (b 1), .ref (b 2), .ref (b 3), .ref (b 4), .ref (b 5), .int 0, .int 0, .int 0, .int 0, .int 0, .int 0, .int 0])), ((b 0), .inr (1, [.int 0, .int 0, .ref (b 10), .ref (b 11), .ref (b 12), .ref (b 13), .ref (b 14), .ref (b 15), .ref (b 16), .ref (b 17), .ref (b 18)]))] s.heap := hP.sub [0, 1] rfl
  have hDc : va_D (zN s0.heap.size) [(x, .inr (0, [.ref (b 0), .ref (b 1), .ref (b 2), .ref (b 3), .ref (b 4), .ref (b 5), .int 0, .int 0, .int 0, .int 0, .int 0, .int 0, .int 0])), ((b 0), .inr (1, [.int 0, .int 0, .ref (b 10), .ref (b 11), .ref (b 12), .ref (b 13), .ref (b 14), .ref (b 15), .ref (b 16), .ref (b 17), .ref (b 18)]))] := hD.sub [0, 1] (by decide) rfl
  exact zpass (tq_runV (As := [.int p0]) (rest := []) ⟨hx, hb, hml, hown, zno⟩ (zt_requireLink l dC dI cI cZ cJ a0 s0 hfl x b s.heap.size p0) (zcw 1 (hB.word (zm2 k2_188) rfl) (hB.word (zm1 k1_1) rfl) (hB.word (zm2 k2_185) rfl) (hB.word (zm2 k2_187) rfl) (k2_selects_private (by decide) (hB.word (zm1 k1_18) rfl) (hB.word (zm2 k2_186) rfl) (hB.word (zm2 k2_187) rfl)) rfl rfl (by decide +kernel) ⟨Nat.le_of_ble_eq_true rfl, Nat.le_of_ble_eq_true rfl⟩) ⟨zP_blind, va_recv hK hP (ci := 0) (q0 := 0) rfl rfl, zP_pre hPc hK hDc hAD (zB_on hB hA0 hS)⟩ rfl rfl hl.1 rfl (lv_room (Nat.le_of_ble_eq_true rfl)) dRG_heal_2 ⟨Nat.le_of_ble_eq_true rfl, Nat.le_of_ble_eq_true rfl⟩) htab hlocks hS (Nat.le_of_ble_eq_true rfl) (Nat.le_of_ble_eq_true rfl)
set_option maxHeartbeats 4000000 in
set_option maxRecDepth 100000 in
theorem zt_lose (l : Launch) (dC : Nat → ClassId) (dI : Nat → Nat → Nat) (cI cZ cJ : ClassId) (a0 : Array Value) (s0 : State) (hfl : l.flags = Jvm.pinnedFlags ++ [Jvm.noTraceFlag]) (x : Nat) (b : Nat → Nat) (sz : Nat) (p0 p1 : Int32) : tq_Met l yRG_lose [Cond.code yRG_lose bRG_lose 4 (some .int)] ({ frames := 7, cells := 1, slots := 6, locals := 111 } : Room) (zP zCl dC dI (zTY cI cZ cJ) a0 s0 [.ref x, .int p0, .int p1] sz [(x, .inr (0, [.ref (b 0), .ref (b 1), .ref (b 2), .ref (b 3), .ref (b 4), .ref (b 5), .int 0, .int 0, .int 0, .int 0, .int 0, .int 0, .int 0])), ((b 0), .inr (1, [.int 0, .int 0, .ref (b 10), .ref (b 11), .ref (b 12), .ref (b 13), .ref (b 14), .ref (b 15), .ref (b 16), .ref (b 17), .ref (b 18)]))]) (tq_Q "java/lang/IllegalArgumentException") 1 6 (zN sz) := by
  refine tq_ofW (cc := bRG_lose) (maxL := 4) (ret := (some .int)) (by decide) rfl ?_
  intro p e s m args below meth c s₁ B hml htab hv
  obtain ⟨rfl, hsz, hP, hK, hD0, hB⟩ := hv
  have hx := B.exec
  have hb := B.bytes
  have hr := B.returns
  have hown : s.vm.findClass "RingGuard" = some m.cls := findClass_of_methodNamed B.named
  have hlocks := B.notSynchronized
  subst hsz
  have hD := hD0
  have hA0 : ∀ q, zN s.heap.size q → s0.heap.size ≤ q := zA1 hB
  have hAD : ∀ q, zN s0.heap.size q → s0.heap.size ≤ q := fun _ h => h
  have hA : ∀ q : Nat, s.heap.size ≤ q → zN s.heap.size q := fun _ h => h
  have hS : va_S (zN s.heap.size) s.heap s.heap [] := va_S.rf
  have hP : va_P (dC, dI) zCl [(x, .inr (0, [.ref (b 0), .ref (b 1), .ref (b 2), .ref (b 3), .ref (b 4), .ref (b 5), .int 0, .int 0, .int 0, .int 0, .int 0, .int 0, .int 0])), ((b 0), .inr (1, [.int 0, .int 0, .ref (b 10), .ref (b 11), .ref (b 12), .ref (b 13), .ref (b 14), .ref (b 15), .ref (b 16), .ref (b 17), .ref (b 18)]))] s.heap := hP
  have hl := lv_entry ([.ref x, .int p0, .int p1]) (n := 4) (Nat.le_of_ble_eq_true rfl)
  rw [lg_entry_eq]
  generalize (lg_sl ([.ref x, .int p0, .int p1]) ++ List.replicate (4 - (lg_sl ([.ref x, .int p0, .int p1])).length) Slot.unset).toArray = ls at hl ⊢
  have hl : lv_has ls 4 [(0, .ref x), (1, .int p0), (2, .int p1)] := hl
  refine lv_aload_n hx hb dRG_lose_0 rfl (lv_at hl 0 rfl) ?_
  refine lv_iload_n hx hb dRG_lose_1 rfl (lv_at hl 1 rfl) ?_
  have hPc : va_P (dC, dI) zCl [(x, .inr (0, [.ref (b 0), .ref (b 1), .ref (b 2), .ref (b 3), .ref (b 4), .ref (b 5), .int 0, .int 0, .int 0, .int 0, .int 0, .int 0, .int 0])), ((b 0), .inr (1, [.int 0, .int 0, .ref (b 10), .ref (b 11), .ref (b 12), .ref (b 13), .ref (b 14), .ref (b 15), .ref (b 16), .ref (b 17), .ref (b 18)]))] s.heap := hP.sub [0, 1] rfl
  have hDc : va_D (zN s0.heap.size) [(x, .inr (0, [.ref (b 0), .ref (b 1), .ref (b 2), .ref (b 3), .ref (b 4), .ref (b 5), .int 0, .int 0, .int 0, .int 0, .int 0, .int 0, .int 0])), ((b 0), .inr (1, [.int 0, .int 0, .ref (b 10), .ref (b 11), .ref (b 12), .ref (b 13), .ref (b 14), .ref (b 15), .ref (b 16), .ref (b 17), .ref (b 18)]))] := hD.sub [0, 1] (by decide) rfl
  exact zpass (tq_runV (As := [.int p0]) (rest := []) ⟨hx, hb, hml, hown, zno⟩ (zt_requireLink l dC dI cI cZ cJ a0 s0 hfl x b s.heap.size p0) (zcw 1 (hB.word (zm2 k2_188) rfl) (hB.word (zm1 k1_1) rfl) (hB.word (zm2 k2_185) rfl) (hB.word (zm2 k2_187) rfl) (k2_selects_private (by decide) (hB.word (zm1 k1_18) rfl) (hB.word (zm2 k2_186) rfl) (hB.word (zm2 k2_187) rfl)) rfl rfl (by decide +kernel) ⟨Nat.le_of_ble_eq_true rfl, Nat.le_of_ble_eq_true rfl⟩) ⟨zP_blind, va_recv hK hP (ci := 0) (q0 := 0) rfl rfl, zP_pre hPc hK hDc hAD (zB_on hB hA0 hS)⟩ rfl rfl hl.1 rfl (lv_room (Nat.le_of_ble_eq_true rfl)) dRG_lose_2 ⟨Nat.le_of_ble_eq_true rfl, Nat.le_of_ble_eq_true rfl⟩) htab hlocks hS (Nat.le_of_ble_eq_true rfl) (Nat.le_of_ble_eq_true rfl)
set_option maxHeartbeats 4000000 in
set_option maxRecDepth 100000 in
theorem zt_order (l : Launch) (dC : Nat → ClassId) (dI : Nat → Nat → Nat) (cI cZ cJ : ClassId) (a0 : Array Value) (s0 : State) (hfl : l.flags = Jvm.pinnedFlags ++ [Jvm.noTraceFlag]) (x : Nat) (b : Nat → Nat) (sz : Nat) (p0 p1 p2 : Int32) : tq_Met l yRG_order [Cond.code yRG_order bRG_order 5 (some .boolean)] ({ frames := 8, cells := 1, slots := 6, locals := 133 } : Room) (zP zCl dC dI (zTY cI cZ cJ) a0 s0 [.ref x, .int p0, .int p1, .int p2] sz [(x, .inr (0, [.ref (b 0), .ref (b 1), .ref (b 2), .ref (b 3), .ref (b 4), .ref (b 5), .int 0, .int 0, .int 0, .int 0, .int 0, .int 0, .int 0])), ((b 0), .inr (1, [.int 0, .int 0, .ref (b 10), .ref (b 11), .ref (b 12), .ref (b 13), .ref (b 14), .ref (b 15), .ref (b 16), .ref (b 17), .ref (b 18)]))]) (tq_Q "java/lang/IllegalArgumentException") 1 6 (zN sz) := by
  refine tq_ofW (cc := bRG_order) (maxL := 5) (ret := (some .boolean)) (by decide) rfl ?_
  intro p e s m args below meth c s₁ B hml htab hv
  obtain ⟨rfl, hsz, hP, hK, hD0, hB⟩ := hv
  have hx := B.exec
  have hb := B.bytes
  have hr := B.returns
  have hown : s.vm.findClass "RingGuard" = some m.cls := findClass_of_methodNamed B.named
  have hlocks := B.notSynchronized
  subst hsz
  have hD := hD0
  have hA0 : ∀ q, zN s.heap.size q → s0.heap.size ≤ q := zA1 hB
  have hAD : ∀ q, zN s0.heap.size q → s0.heap.size ≤ q := fun _ h => h
  have hA : ∀ q : Nat, s.heap.size ≤ q → zN s.heap.size q := fun _ h => h
  have hS : va_S (zN s.heap.size) s.heap s.heap [] := va_S.rf
  have hP : va_P (dC, dI) zCl [(x, .inr (0, [.ref (b 0), .ref (b 1), .ref (b 2), .ref (b 3), .ref (b 4), .ref (b 5), .int 0, .int 0, .int 0, .int 0, .int 0, .int 0, .int 0])), ((b 0), .inr (1, [.int 0, .int 0, .ref (b 10), .ref (b 11), .ref (b 12), .ref (b 13), .ref (b 14), .ref (b 15), .ref (b 16), .ref (b 17), .ref (b 18)]))] s.heap := hP
  have hl := lv_entry ([.ref x, .int p0, .int p1, .int p2]) (n := 5) (Nat.le_of_ble_eq_true rfl)
  rw [lg_entry_eq]
  generalize (lg_sl ([.ref x, .int p0, .int p1, .int p2]) ++ List.replicate (5 - (lg_sl ([.ref x, .int p0, .int p1, .int p2])).length) Slot.unset).toArray = ls at hl ⊢
  have hl : lv_has ls 5 [(0, .ref x), (1, .int p0), (2, .int p1), (3, .int p2)] := hl
  refine lv_aload_n hx hb dRG_order_0 rfl (lv_at hl 0 rfl) ?_
  refine lv_iload_n hx hb dRG_order_1 rfl (lv_at hl 1 rfl) ?_
  refine lv_iload_n hx hb dRG_order_2 rfl (lv_at hl 2 rfl) ?_
  have hPc : va_P (dC, dI) zCl [(x, .inr (0, [.ref (b 0), .ref (b 1), .ref (b 2), .ref (b 3), .ref (b 4), .ref (b 5), .int 0, .int 0, .int 0, .int 0, .int 0, .int 0, .int 0])), ((b 0), .inr (1, [.int 0, .int 0, .ref (b 10), .ref (b 11), .ref (b 12), .ref (b 13), .ref (b 14), .ref (b 15), .ref (b 16), .ref (b 17), .ref (b 18)]))] s.heap := hP.sub [0, 1] rfl
  have hDc : va_D (zN s0.heap.size) [(x, .inr (0, [.ref (b 0), .ref (b 1), .ref (b 2), .ref (b 3), .ref (b 4), .ref (b 5), .int 0, .int 0, .int 0, .int 0, .int 0, .int 0, .int 0])), ((b 0), .inr (1, [.int 0, .int 0, .ref (b 10), .ref (b 11), .ref (b 12), .ref (b 13), .ref (b 14), .ref (b 15), .ref (b 16), .ref (b 17), .ref (b 18)]))] := hD.sub [0, 1] (by decide) rfl
  exact zpass (tq_runV (As := [.int p0, .int p1]) (rest := []) ⟨hx, hb, hml, hown, zno⟩ (zt_requirePort l dC dI cI cZ cJ a0 s0 hfl x b s.heap.size p0 p1) (zcw 2 (hB.word (zm3 k3_127) rfl) (hB.word (zm1 k1_1) rfl) (hB.word (zm3 k3_124) rfl) (hB.word (zm3 k3_126) rfl) (k2_selects_private (by decide) (hB.word (zm1 k1_18) rfl) (hB.word (zm3 k3_125) rfl) (hB.word (zm3 k3_126) rfl)) rfl rfl (by decide +kernel) ⟨Nat.le_of_ble_eq_true rfl, Nat.le_of_ble_eq_true rfl⟩) ⟨zP_blind, va_recv hK hP (ci := 0) (q0 := 0) rfl rfl, zP_pre hPc hK hDc hAD (zB_on hB hA0 hS)⟩ rfl rfl hl.1 rfl (lv_room (Nat.le_of_ble_eq_true rfl)) dRG_order_3 ⟨Nat.le_of_ble_eq_true rfl, Nat.le_of_ble_eq_true rfl⟩) htab hlocks hS (Nat.le_of_ble_eq_true rfl) (Nat.le_of_ble_eq_true rfl)
set_option maxHeartbeats 4000000 in
set_option maxRecDepth 100000 in
theorem zt_clear (l : Launch) (dC : Nat → ClassId) (dI : Nat → Nat → Nat) (cI cZ cJ : ClassId) (a0 : Array Value) (s0 : State) (hfl : l.flags = Jvm.pinnedFlags ++ [Jvm.noTraceFlag]) (x : Nat) (b : Nat → Nat) (sz : Nat) (p0 p1 : Int32) : tq_Met l yRG_clear [Cond.code yRG_clear bRG_clear 4 (some .boolean)] ({ frames := 7, cells := 1, slots := 6, locals := 111 } : Room) (zP zCl dC dI (zTY cI cZ cJ) a0 s0 [.ref x, .int p0, .int p1] sz [(x, .inr (0, [.ref (b 0), .ref (b 1), .ref (b 2), .ref (b 3), .ref (b 4), .ref (b 5), .int 0, .int 0, .int 0, .int 0, .int 0, .int 0, .int 0])), ((b 0), .inr (1, [.int 0, .int 0, .ref (b 10), .ref (b 11), .ref (b 12), .ref (b 13), .ref (b 14), .ref (b 15), .ref (b 16), .ref (b 17), .ref (b 18)]))]) (tq_Q "java/lang/IllegalArgumentException") 1 6 (zN sz) := by
  refine tq_ofW (cc := bRG_clear) (maxL := 4) (ret := (some .boolean)) (by decide) rfl ?_
  intro p e s m args below meth c s₁ B hml htab hv
  obtain ⟨rfl, hsz, hP, hK, hD0, hB⟩ := hv
  have hx := B.exec
  have hb := B.bytes
  have hr := B.returns
  have hown : s.vm.findClass "RingGuard" = some m.cls := findClass_of_methodNamed B.named
  have hlocks := B.notSynchronized
  subst hsz
  have hD := hD0
  have hA0 : ∀ q, zN s.heap.size q → s0.heap.size ≤ q := zA1 hB
  have hAD : ∀ q, zN s0.heap.size q → s0.heap.size ≤ q := fun _ h => h
  have hA : ∀ q : Nat, s.heap.size ≤ q → zN s.heap.size q := fun _ h => h
  have hS : va_S (zN s.heap.size) s.heap s.heap [] := va_S.rf
  have hP : va_P (dC, dI) zCl [(x, .inr (0, [.ref (b 0), .ref (b 1), .ref (b 2), .ref (b 3), .ref (b 4), .ref (b 5), .int 0, .int 0, .int 0, .int 0, .int 0, .int 0, .int 0])), ((b 0), .inr (1, [.int 0, .int 0, .ref (b 10), .ref (b 11), .ref (b 12), .ref (b 13), .ref (b 14), .ref (b 15), .ref (b 16), .ref (b 17), .ref (b 18)]))] s.heap := hP
  have hl := lv_entry ([.ref x, .int p0, .int p1]) (n := 4) (Nat.le_of_ble_eq_true rfl)
  rw [lg_entry_eq]
  generalize (lg_sl ([.ref x, .int p0, .int p1]) ++ List.replicate (4 - (lg_sl ([.ref x, .int p0, .int p1])).length) Slot.unset).toArray = ls at hl ⊢
  have hl : lv_has ls 4 [(0, .ref x), (1, .int p0), (2, .int p1)] := hl
  refine lv_aload_n hx hb dRG_clear_0 rfl (lv_at hl 0 rfl) ?_
  refine lv_iload_n hx hb dRG_clear_1 rfl (lv_at hl 1 rfl) ?_
  have hPc : va_P (dC, dI) zCl [(x, .inr (0, [.ref (b 0), .ref (b 1), .ref (b 2), .ref (b 3), .ref (b 4), .ref (b 5), .int 0, .int 0, .int 0, .int 0, .int 0, .int 0, .int 0])), ((b 0), .inr (1, [.int 0, .int 0, .ref (b 10), .ref (b 11), .ref (b 12), .ref (b 13), .ref (b 14), .ref (b 15), .ref (b 16), .ref (b 17), .ref (b 18)]))] s.heap := hP.sub [0, 1] rfl
  have hDc : va_D (zN s0.heap.size) [(x, .inr (0, [.ref (b 0), .ref (b 1), .ref (b 2), .ref (b 3), .ref (b 4), .ref (b 5), .int 0, .int 0, .int 0, .int 0, .int 0, .int 0, .int 0])), ((b 0), .inr (1, [.int 0, .int 0, .ref (b 10), .ref (b 11), .ref (b 12), .ref (b 13), .ref (b 14), .ref (b 15), .ref (b 16), .ref (b 17), .ref (b 18)]))] := hD.sub [0, 1] (by decide) rfl
  exact zpass (tq_runV (As := [.int p0]) (rest := []) ⟨hx, hb, hml, hown, zno⟩ (zt_requireBridge l dC dI cI cZ cJ a0 s0 hfl x b s.heap.size p0) (zcw 1 (hB.word (zm2 k2_150) rfl) (hB.word (zm1 k1_1) rfl) (hB.word (zm2 k2_147) rfl) (hB.word (zm2 k2_149) rfl) (k2_selects_private (by decide) (hB.word (zm1 k1_18) rfl) (hB.word (zm2 k2_148) rfl) (hB.word (zm2 k2_149) rfl)) rfl rfl (by decide +kernel) ⟨Nat.le_of_ble_eq_true rfl, Nat.le_of_ble_eq_true rfl⟩) ⟨zP_blind, va_recv hK hP (ci := 0) (q0 := 0) rfl rfl, zP_pre hPc hK hDc hAD (zB_on hB hA0 hS)⟩ rfl rfl hl.1 rfl (lv_room (Nat.le_of_ble_eq_true rfl)) dRG_clear_2 ⟨Nat.le_of_ble_eq_true rfl, Nat.le_of_ble_eq_true rfl⟩) htab hlocks hS (Nat.le_of_ble_eq_true rfl) (Nat.le_of_ble_eq_true rfl)
set_option maxHeartbeats 4000000 in
set_option maxRecDepth 100000 in
theorem zt_ticks1 (l : Launch) (dC : Nat → ClassId) (dI : Nat → Nat → Nat) (cI cZ cJ : ClassId) (a0 : Array Value) (s0 : State) (hfl : l.flags = Jvm.pinnedFlags ++ [Jvm.noTraceFlag]) (x : Nat) (b : Nat → Nat) (sz : Nat) (p0 : Int32) (hv : ¬ p0 < 1 → ¬ p0 ≤ 200) : tq_Met l yRG_ticks [Cond.code yRG_ticks bRG_ticks 4 (some .int)] ({ frames := 6, cells := 1, slots := 6, locals := 90 } : Room) (zP zCl dC dI (zTY cI cZ cJ) a0 s0 [.ref x, .int p0] sz [(x, .inr (0, [.ref (b 0), .ref (b 1), .ref (b 2), .ref (b 3), .ref (b 4), .ref (b 5), .int 0, .int 0, .int 0, .int 0, .int 0, .int 0, .int 0]))]) (tq_Q "java/lang/IllegalArgumentException") 1 6 (zN sz) := by
  refine tq_ofW (cc := bRG_ticks) (maxL := 4) (ret := (some .int)) (by decide) rfl ?_
  intro p e s m args below meth c s₁ B hml htab hv
  obtain ⟨rfl, hsz, hP, hK, hD0, hB⟩ := hv
  have hx := B.exec
  have hb := B.bytes
  have hr := B.returns
  have hown : s.vm.findClass "RingGuard" = some m.cls := findClass_of_methodNamed B.named
  have hlocks := B.notSynchronized
  subst hsz
  have hD := hD0
  have hA0 : ∀ q, zN s.heap.size q → s0.heap.size ≤ q := zA1 hB
  have hAD : ∀ q, zN s0.heap.size q → s0.heap.size ≤ q := fun _ h => h
  have hA : ∀ q : Nat, s.heap.size ≤ q → zN s.heap.size q := fun _ h => h
  have hS : va_S (zN s.heap.size) s.heap s.heap [] := va_S.rf
  have hP : va_P (dC, dI) zCl [(x, .inr (0, [.ref (b 0), .ref (b 1), .ref (b 2), .ref (b 3), .ref (b 4), .ref (b 5), .int 0, .int 0, .int 0, .int 0, .int 0, .int 0, .int 0]))] s.heap := hP
  have hl := lv_entry ([.ref x, .int p0]) (n := 4) (Nat.le_of_ble_eq_true rfl)
  rw [lg_entry_eq]
  generalize (lg_sl ([.ref x, .int p0]) ++ List.replicate (4 - (lg_sl ([.ref x, .int p0])).length) Slot.unset).toArray = ls at hl ⊢
  have hl : lv_has ls 4 [(0, .ref x), (1, .int p0)] := hl
  refine lv_iload_n hx hb dRG_ticks_0 rfl (lv_at hl 1 rfl) ?_
  refine lv_iconst (v := 1) hx hb dRG_ticks_1 (by decide) ?_
  refine lv_icmp_lt (tgt := 12) hx hb dRG_ticks_2 (by decide) (fun c_2 => ?_) (fun c_2 => ?_)
  · obtain ⟨qs, hZ⟩ := hB.str (zm3 k3_157)
    exact zthrow hfl hx hb hown (hB.word (zm2 k2_151) rfl) (hB.word (zm1 k1_14) rfl) hZ (by decide) (hB.words zO_80) (by rw [hml]; exact hl.1) htab hlocks dRG_ticks_12 dRG_ticks_15 dRG_ticks_16 dRG_ticks_18 dRG_ticks_21 (Nat.le_of_ble_eq_true rfl) (Nat.le_of_ble_eq_true rfl) (Nat.le_of_ble_eq_true rfl) (Nat.le_of_ble_eq_true rfl) hS rfl rfl
  · refine lv_iload_n hx hb dRG_ticks_5 rfl (lv_at hl 1 rfl) ?_
    refine lv_sipush (v := 200) hx hb dRG_ticks_6 (by decide) ?_
    refine lv_icmp_le (tgt := 22) hx hb dRG_ticks_9 (by decide) (fun c9 => absurd c9 (hv c_2)) (fun _ => ?_)
    obtain ⟨qs, hZ⟩ := hB.str (zm3 k3_157)
    exact zthrow hfl hx hb hown (hB.word (zm2 k2_151) rfl) (hB.word (zm1 k1_14) rfl) hZ (by decide) (hB.words zO_80) (by rw [hml]; exact hl.1) htab hlocks dRG_ticks_12 dRG_ticks_15 dRG_ticks_16 dRG_ticks_18 dRG_ticks_21 (Nat.le_of_ble_eq_true rfl) (Nat.le_of_ble_eq_true rfl) (Nat.le_of_ble_eq_true rfl) (Nat.le_of_ble_eq_true rfl) hS rfl rfl
set_option maxHeartbeats 4000000 in
set_option maxRecDepth 100000 in
theorem zt_ticks2 (l : Launch) (dC : Nat → ClassId) (dI : Nat → Nat → Nat) (cI cZ cJ : ClassId) (a0 : Array Value) (s0 : State) (hfl : l.flags = Jvm.pinnedFlags ++ [Jvm.noTraceFlag]) (x : Nat) (b : Nat → Nat) (sz : Nat) (p0 : Int32) (h0 : ¬ p0 < 1) (h1 : p0 ≤ 200) : tq_Met l yRG_ticks [Cond.code yRG_ticks bRG_ticks 4 (some .int)] ({ frames := 7, cells := 1, slots := 6, locals := 110 } : Room) (zP zCl dC dI (zTY cI cZ cJ) a0 s0 [.ref x, .int p0] sz [(x, .inr (0, [.ref (b 0), .ref (b 1), .ref (b 2), .ref (b 3), .ref (b 4), .ref (b 5), .int 0, .int 0, .int 0, .int 0, .int 0, .int 0, .int 0]))]) (tq_Q "java/lang/IllegalStateException") 1 6 (zN sz) := by
  refine tq_ofW (cc := bRG_ticks) (maxL := 4) (ret := (some .int)) (by decide) rfl ?_
  intro p e s m args below meth c s₁ B hml htab hv
  obtain ⟨rfl, hsz, hP, hK, hD0, hB⟩ := hv
  have hx := B.exec
  have hb := B.bytes
  have hr := B.returns
  have hown : s.vm.findClass "RingGuard" = some m.cls := findClass_of_methodNamed B.named
  have hlocks := B.notSynchronized
  subst hsz
  have hD := hD0
  have hA0 : ∀ q, zN s.heap.size q → s0.heap.size ≤ q := zA1 hB
  have hAD : ∀ q, zN s0.heap.size q → s0.heap.size ≤ q := fun _ h => h
  have hA : ∀ q : Nat, s.heap.size ≤ q → zN s.heap.size q := fun _ h => h
  have hS : va_S (zN s.heap.size) s.heap s.heap [] := va_S.rf
  have hP : va_P (dC, dI) zCl [(x, .inr (0, [.ref (b 0), .ref (b 1), .ref (b 2), .ref (b 3), .ref (b 4), .ref (b 5), .int 0, .int 0, .int 0, .int 0, .int 0, .int 0, .int 0]))] s.heap := hP
  have hl := lv_entry ([.ref x, .int p0]) (n := 4) (Nat.le_of_ble_eq_true rfl)
  rw [lg_entry_eq]
  generalize (lg_sl ([.ref x, .int p0]) ++ List.replicate (4 - (lg_sl ([.ref x, .int p0])).length) Slot.unset).toArray = ls at hl ⊢
  have hl : lv_has ls 4 [(0, .ref x), (1, .int p0)] := hl
  refine lv_iload_n hx hb dRG_ticks_0 rfl (lv_at hl 1 rfl) ?_
  refine lv_iconst (v := 1) hx hb dRG_ticks_1 (by decide) ?_
  refine lv_icmp_lt (tgt := 12) hx hb dRG_ticks_2 (by decide) (fun c9 => absurd c9 h0) (fun _ => ?_)
  refine lv_iload_n hx hb dRG_ticks_5 rfl (lv_at hl 1 rfl) ?_
  refine lv_sipush (v := 200) hx hb dRG_ticks_6 (by decide) ?_
  refine lv_icmp_le (tgt := 22) hx hb dRG_ticks_9 (by decide) (fun _ => ?_) (fun c9 => absurd h1 c9)
  refine lv_aload_n hx hb dRG_ticks_22 rfl (lv_at hl 0 rfl) ?_
  have hPc : va_P (dC, dI) zCl [(x, .inr (0, [.ref (b 0), .ref (b 1), .ref (b 2), .ref (b 3), .ref (b 4), .ref (b 5), .int 0, .int 0, .int 0, .int 0, .int 0, .int 0, .int 0]))] s.heap := hP.sub [0] rfl
  have hDc : va_D (zN s0.heap.size) [(x, .inr (0, [.ref (b 0), .ref (b 1), .ref (b 2), .ref (b 3), .ref (b 4), .ref (b 5), .int 0, .int 0, .int 0, .int 0, .int 0, .int 0, .int 0]))] := hD.sub [0] (by decide) rfl
  exact zpass (tq_runV (As := []) (rest := []) ⟨hx, hb, hml, hown, zno⟩ (zt_requireStarted l dC dI cI cZ cJ a0 s0 hfl x b s.heap.size) (zcw 0 (hB.word (zm3 k3_58) rfl) (hB.word (zm1 k1_1) rfl) (hB.word (zm3 k3_55) rfl) (hB.word (zm3 k3_57) rfl) (k2_selects_private (by decide) (hB.word (zm1 k1_18) rfl) (hB.word (zm3 k3_56) rfl) (hB.word (zm3 k3_57) rfl)) rfl rfl (by decide +kernel) ⟨Nat.le_of_ble_eq_true rfl, Nat.le_of_ble_eq_true rfl⟩) ⟨zP_blind, va_recv hK hP (ci := 0) (q0 := 0) rfl rfl, zP_pre hPc hK hDc hAD (zB_on hB hA0 hS)⟩ rfl rfl hl.1 rfl (lv_room (Nat.le_of_ble_eq_true rfl)) dRG_ticks_23 ⟨Nat.le_of_ble_eq_true rfl, Nat.le_of_ble_eq_true rfl⟩) htab hlocks hS (Nat.le_of_ble_eq_true rfl) (Nat.le_of_ble_eq_true rfl)
set_option maxHeartbeats 4000000 in
set_option maxRecDepth 100000 in
theorem zt_host (l : Launch) (dC : Nat → ClassId) (dI : Nat → Nat → Nat) (cI cZ cJ : ClassId) (a0 : Array Value) (s0 : State) (hfl : l.flags = Jvm.pinnedFlags ++ [Jvm.noTraceFlag]) (x : Nat) (b : Nat → Nat) (sz : Nat) (p0 p1 : Int32) : tq_Met l yRG_host [Cond.code yRG_host bRG_host 4 (some .int)] ({ frames := 7, cells := 1, slots := 6, locals := 111 } : Room) (zP zCl dC dI (zTY cI cZ cJ) a0 s0 [.ref x, .int p0, .int p1] sz [(x, .inr (0, [.ref (b 0), .ref (b 1), .ref (b 2), .ref (b 3), .ref (b 4), .ref (b 5), .int 0, .int 0, .int 0, .int 0, .int 0, .int 0, .int 0])), ((b 0), .inr (1, [.int 0, .int 0, .ref (b 10), .ref (b 11), .ref (b 12), .ref (b 13), .ref (b 14), .ref (b 15), .ref (b 16), .ref (b 17), .ref (b 18)]))]) (tq_Q "java/lang/IllegalArgumentException") 1 6 (zN sz) := by
  refine tq_ofW (cc := bRG_host) (maxL := 4) (ret := (some .int)) (by decide) rfl ?_
  intro p e s m args below meth c s₁ B hml htab hv
  obtain ⟨rfl, hsz, hP, hK, hD0, hB⟩ := hv
  have hx := B.exec
  have hb := B.bytes
  have hr := B.returns
  have hown : s.vm.findClass "RingGuard" = some m.cls := findClass_of_methodNamed B.named
  have hlocks := B.notSynchronized
  subst hsz
  have hD := hD0
  have hA0 : ∀ q, zN s.heap.size q → s0.heap.size ≤ q := zA1 hB
  have hAD : ∀ q, zN s0.heap.size q → s0.heap.size ≤ q := fun _ h => h
  have hA : ∀ q : Nat, s.heap.size ≤ q → zN s.heap.size q := fun _ h => h
  have hS : va_S (zN s.heap.size) s.heap s.heap [] := va_S.rf
  have hP : va_P (dC, dI) zCl [(x, .inr (0, [.ref (b 0), .ref (b 1), .ref (b 2), .ref (b 3), .ref (b 4), .ref (b 5), .int 0, .int 0, .int 0, .int 0, .int 0, .int 0, .int 0])), ((b 0), .inr (1, [.int 0, .int 0, .ref (b 10), .ref (b 11), .ref (b 12), .ref (b 13), .ref (b 14), .ref (b 15), .ref (b 16), .ref (b 17), .ref (b 18)]))] s.heap := hP
  have hl := lv_entry ([.ref x, .int p0, .int p1]) (n := 4) (Nat.le_of_ble_eq_true rfl)
  rw [lg_entry_eq]
  generalize (lg_sl ([.ref x, .int p0, .int p1]) ++ List.replicate (4 - (lg_sl ([.ref x, .int p0, .int p1])).length) Slot.unset).toArray = ls at hl ⊢
  have hl : lv_has ls 4 [(0, .ref x), (1, .int p0), (2, .int p1)] := hl
  refine lv_aload_n hx hb dRG_host_0 rfl (lv_at hl 0 rfl) ?_
  refine lv_iload_n hx hb dRG_host_1 rfl (lv_at hl 1 rfl) ?_
  by_cases hy1 : ¬ p0 < 0 → ¬ p0 < 64
  · have hPc : va_P (dC, dI) zCl [(x, .inr (0, [.ref (b 0), .ref (b 1), .ref (b 2), .ref (b 3), .ref (b 4), .ref (b 5), .int 0, .int 0, .int 0, .int 0, .int 0, .int 0, .int 0]))] s.heap := hP.sub [0] rfl
    have hDc : va_D (zN s0.heap.size) [(x, .inr (0, [.ref (b 0), .ref (b 1), .ref (b 2), .ref (b 3), .ref (b 4), .ref (b 5), .int 0, .int 0, .int 0, .int 0, .int 0, .int 0, .int 0]))] := hD.sub [0] (by decide) rfl
    exact zpass (tq_runV (As := [.int p0]) (rest := []) ⟨hx, hb, hml, hown, zno⟩ (zt_requireHost l dC dI cI cZ cJ a0 s0 hfl x b s.heap.size p0 hy1) (zcw 1 (hB.word (zm4 k4_30) rfl) (hB.word (zm1 k1_1) rfl) (hB.word (zm4 k4_27) rfl) (hB.word (zm4 k4_29) rfl) (k2_selects_private (by decide) (hB.word (zm1 k1_18) rfl) (hB.word (zm4 k4_28) rfl) (hB.word (zm4 k4_29) rfl)) rfl rfl (by decide +kernel) ⟨Nat.le_of_ble_eq_true rfl, Nat.le_of_ble_eq_true rfl⟩) ⟨zP_blind, va_recv hK hP (ci := 0) (q0 := 0) rfl rfl, zP_pre hPc hK hDc hAD (zB_on hB hA0 hS)⟩ rfl rfl hl.1 rfl (lv_room (Nat.le_of_ble_eq_true rfl)) dRG_host_2 ⟨Nat.le_of_ble_eq_true rfl, Nat.le_of_ble_eq_true rfl⟩) htab hlocks hS (Nat.le_of_ble_eq_true rfl) (Nat.le_of_ble_eq_true rfl)
  · have hy1a := (Classical.not_imp.mp hy1).1
    have hy1b := Classical.not_not.mp (Classical.not_imp.mp hy1).2
    have hPc : va_P (dC, dI) zCl [(x, .inr (0, [.ref (b 0), .ref (b 1), .ref (b 2), .ref (b 3), .ref (b 4), .ref (b 5), .int 0, .int 0, .int 0, .int 0, .int 0, .int 0, .int 0]))] s.heap := hP.sub [0] rfl
    have hDc : va_D (zN s0.heap.size) [(x, .inr (0, [.ref (b 0), .ref (b 1), .ref (b 2), .ref (b 3), .ref (b 4), .ref (b 5), .int 0, .int 0, .int 0, .int 0, .int 0, .int 0, .int 0]))] := hD.sub [0] (by decide) rfl
    refine zcallo (va_runV (As := [.int p0]) (rest := []) ⟨hx, hb, hml, hown, zno⟩ (zo_requireHost l dC dI cI cZ cJ a0 s0 x b s.heap.size p0 hy1a hy1b) (zcw 1 (hB.word (zm4 k4_30) rfl) (hB.word (zm1 k1_1) rfl) (hB.word (zm4 k4_27) rfl) (hB.word (zm4 k4_29) rfl) (k2_selects_private (by decide) (hB.word (zm1 k1_18) rfl) (hB.word (zm4 k4_28) rfl) (hB.word (zm4 k4_29) rfl)) rfl rfl (by decide +kernel) ⟨Nat.le_of_ble_eq_true rfl, Nat.le_of_ble_eq_true rfl⟩) ⟨zP_blind, va_recv hK hP (ci := 0) (q0 := 0) rfl rfl, zP_pre hPc hK hDc hAD (zB_on hB hA0 hS)⟩ rfl rfl hl.1 rfl (lv_room (Nat.le_of_ble_eq_true rfl)) dRG_host_2 ⟨Nat.le_of_ble_eq_true rfl, Nat.le_of_ble_eq_true rfl⟩) hS hA (fun H1 locs hz1 hk1 hS => ?_)
    have hP := zKeep hP hk1
    generalize H1 = H at hP hS ⊢
    have hP : va_P (dC, dI) zCl [(x, .inr (0, [.ref (b 0), .ref (b 1), .ref (b 2), .ref (b 3), .ref (b 4), .ref (b 5), .int 0, .int 0, .int 0, .int 0, .int 0, .int 0, .int 0])), ((b 0), .inr (1, [.int 0, .int 0, .ref (b 10), .ref (b 11), .ref (b 12), .ref (b 13), .ref (b 14), .ref (b 15), .ref (b 16), .ref (b 17), .ref (b 18)]))] H := hP
    refine lv_aload_n hx hb dRG_host_5 rfl (lv_at hl 0 rfl) ?_
    refine lv_iload_n hx hb dRG_host_6 rfl (lv_at hl 2 rfl) ?_
    have hPc : va_P (dC, dI) zCl [(x, .inr (0, [.ref (b 0), .ref (b 1), .ref (b 2), .ref (b 3), .ref (b 4), .ref (b 5), .int 0, .int 0, .int 0, .int 0, .int 0, .int 0, .int 0])), ((b 0), .inr (1, [.int 0, .int 0, .ref (b 10), .ref (b 11), .ref (b 12), .ref (b 13), .ref (b 14), .ref (b 15), .ref (b 16), .ref (b 17), .ref (b 18)]))] H := hP.sub [0, 1] rfl
    have hDc : va_D (zN s0.heap.size) [(x, .inr (0, [.ref (b 0), .ref (b 1), .ref (b 2), .ref (b 3), .ref (b 4), .ref (b 5), .int 0, .int 0, .int 0, .int 0, .int 0, .int 0, .int 0])), ((b 0), .inr (1, [.int 0, .int 0, .ref (b 10), .ref (b 11), .ref (b 12), .ref (b 13), .ref (b 14), .ref (b 15), .ref (b 16), .ref (b 17), .ref (b 18)]))] := hD.sub [0, 1] (by decide) rfl
    exact zpass (tq_runV (As := [.int p1]) (rest := []) ⟨hx, hb, hml, hown, zno⟩ (zt_requireBridge l dC dI cI cZ cJ a0 s0 hfl x b H.size p1) (zcw 1 (hB.word (zm2 k2_150) rfl) (hB.word (zm1 k1_1) rfl) (hB.word (zm2 k2_147) rfl) (hB.word (zm2 k2_149) rfl) (k2_selects_private (by decide) (hB.word (zm1 k1_18) rfl) (hB.word (zm2 k2_148) rfl) (hB.word (zm2 k2_149) rfl)) rfl rfl (by decide +kernel) ⟨Nat.le_of_ble_eq_true rfl, Nat.le_of_ble_eq_true rfl⟩) ⟨zP_blind, va_recv hK hP (ci := 0) (q0 := 0) rfl rfl, zP_pre hPc hK hDc hAD (zB_on hB hA0 hS)⟩ rfl rfl hl.1 rfl (lv_room (Nat.le_of_ble_eq_true rfl)) dRG_host_7 ⟨Nat.le_of_ble_eq_true rfl, Nat.le_of_ble_eq_true rfl⟩) htab hlocks hS (Nat.le_of_ble_eq_true rfl) (Nat.le_of_ble_eq_true rfl)
set_option maxHeartbeats 4000000 in
set_option maxRecDepth 100000 in
theorem zt_send (l : Launch) (dC : Nat → ClassId) (dI : Nat → Nat → Nat) (cI cZ cJ : ClassId) (a0 : Array Value) (s0 : State) (hfl : l.flags = Jvm.pinnedFlags ++ [Jvm.noTraceFlag]) (x : Nat) (b : Nat → Nat) (sz : Nat) (fh : Nat → Int32) (p0 p1 p2 : Int32) (hf : ∀ j, j < 64 → fh j = -1) : tq_Met l yRG_send [Cond.code yRG_send bRG_send 4 (some .int)] ({ frames := 7, cells := 1, slots := 6, locals := 111 } : Room) (zP zCl dC dI (zTY cI cZ cJ) a0 s0 [.ref x, .int p0, .int p1, .int p2] sz [(x, .inr (0, [.ref (b 0), .ref (b 1), .ref (b 2), .ref (b 3), .ref (b 4), .ref (b 5), .int 0, .int 0, .int 0, .int 0, .int 0, .int 0, .int 0])), ((b 4), .inr (5, [.ref (b 0), .ref (b 3), .ref (b 2), .ref (b 20), .ref (b 21), .ref (b 22), .int 0, .ref (b 23), .int 0])), ((b 20), .inl (cI, 64, .inl fh))]) (tq_Q "java/lang/IllegalArgumentException") 1 6 (zN sz) := by
  refine tq_ofW (cc := bRG_send) (maxL := 4) (ret := (some .int)) (by decide) rfl ?_
  intro p e s m args below meth c s₁ B hml htab hv
  obtain ⟨rfl, hsz, hP, hK, hD0, hB⟩ := hv
  have hx := B.exec
  have hb := B.bytes
  have hr := B.returns
  have hown : s.vm.findClass "RingGuard" = some m.cls := findClass_of_methodNamed B.named
  have hlocks := B.notSynchronized
  subst hsz
  have hD := hD0
  have hA0 : ∀ q, zN s.heap.size q → s0.heap.size ≤ q := zA1 hB
  have hAD : ∀ q, zN s0.heap.size q → s0.heap.size ≤ q := fun _ h => h
  have hA : ∀ q : Nat, s.heap.size ≤ q → zN s.heap.size q := fun _ h => h
  have hS : va_S (zN s.heap.size) s.heap s.heap [] := va_S.rf
  have hP : va_P (dC, dI) zCl [(x, .inr (0, [.ref (b 0), .ref (b 1), .ref (b 2), .ref (b 3), .ref (b 4), .ref (b 5), .int 0, .int 0, .int 0, .int 0, .int 0, .int 0, .int 0])), ((b 4), .inr (5, [.ref (b 0), .ref (b 3), .ref (b 2), .ref (b 20), .ref (b 21), .ref (b 22), .int 0, .ref (b 23), .int 0])), ((b 20), .inl (cI, 64, .inl fh))] s.heap := hP
  have hl := lv_entry ([.ref x, .int p0, .int p1, .int p2]) (n := 4) (Nat.le_of_ble_eq_true rfl)
  rw [lg_entry_eq]
  generalize (lg_sl ([.ref x, .int p0, .int p1, .int p2]) ++ List.replicate (4 - (lg_sl ([.ref x, .int p0, .int p1, .int p2])).length) Slot.unset).toArray = ls at hl ⊢
  have hl : lv_has ls 4 [(0, .ref x), (1, .int p0), (2, .int p1), (3, .int p2)] := hl
  refine lv_aload_n hx hb dRG_send_0 rfl (lv_at hl 0 rfl) ?_
  refine lv_iload_n hx hb dRG_send_1 rfl (lv_at hl 1 rfl) ?_
  by_cases hy1 : ¬ p0 < 0 → ¬ p0 < 64
  · have hPc : va_P (dC, dI) zCl [(x, .inr (0, [.ref (b 0), .ref (b 1), .ref (b 2), .ref (b 3), .ref (b 4), .ref (b 5), .int 0, .int 0, .int 0, .int 0, .int 0, .int 0, .int 0]))] s.heap := hP.sub [0] rfl
    have hDc : va_D (zN s0.heap.size) [(x, .inr (0, [.ref (b 0), .ref (b 1), .ref (b 2), .ref (b 3), .ref (b 4), .ref (b 5), .int 0, .int 0, .int 0, .int 0, .int 0, .int 0, .int 0]))] := hD.sub [0] (by decide) rfl
    exact zpass (tq_runV (As := [.int p0]) (rest := []) ⟨hx, hb, hml, hown, zno⟩ (zt_requireHost l dC dI cI cZ cJ a0 s0 hfl x b s.heap.size p0 hy1) (zcw 1 (hB.word (zm4 k4_30) rfl) (hB.word (zm1 k1_1) rfl) (hB.word (zm4 k4_27) rfl) (hB.word (zm4 k4_29) rfl) (k2_selects_private (by decide) (hB.word (zm1 k1_18) rfl) (hB.word (zm4 k4_28) rfl) (hB.word (zm4 k4_29) rfl)) rfl rfl (by decide +kernel) ⟨Nat.le_of_ble_eq_true rfl, Nat.le_of_ble_eq_true rfl⟩) ⟨zP_blind, va_recv hK hP (ci := 0) (q0 := 0) rfl rfl, zP_pre hPc hK hDc hAD (zB_on hB hA0 hS)⟩ rfl rfl hl.1 rfl (lv_room (Nat.le_of_ble_eq_true rfl)) dRG_send_2 ⟨Nat.le_of_ble_eq_true rfl, Nat.le_of_ble_eq_true rfl⟩) htab hlocks hS (Nat.le_of_ble_eq_true rfl) (Nat.le_of_ble_eq_true rfl)
  · have hy1a := (Classical.not_imp.mp hy1).1
    have hy1b := Classical.not_not.mp (Classical.not_imp.mp hy1).2
    have hPc : va_P (dC, dI) zCl [(x, .inr (0, [.ref (b 0), .ref (b 1), .ref (b 2), .ref (b 3), .ref (b 4), .ref (b 5), .int 0, .int 0, .int 0, .int 0, .int 0, .int 0, .int 0]))] s.heap := hP.sub [0] rfl
    have hDc : va_D (zN s0.heap.size) [(x, .inr (0, [.ref (b 0), .ref (b 1), .ref (b 2), .ref (b 3), .ref (b 4), .ref (b 5), .int 0, .int 0, .int 0, .int 0, .int 0, .int 0, .int 0]))] := hD.sub [0] (by decide) rfl
    refine zcallo (va_runV (As := [.int p0]) (rest := []) ⟨hx, hb, hml, hown, zno⟩ (zo_requireHost l dC dI cI cZ cJ a0 s0 x b s.heap.size p0 hy1a hy1b) (zcw 1 (hB.word (zm4 k4_30) rfl) (hB.word (zm1 k1_1) rfl) (hB.word (zm4 k4_27) rfl) (hB.word (zm4 k4_29) rfl) (k2_selects_private (by decide) (hB.word (zm1 k1_18) rfl) (hB.word (zm4 k4_28) rfl) (hB.word (zm4 k4_29) rfl)) rfl rfl (by decide +kernel) ⟨Nat.le_of_ble_eq_true rfl, Nat.le_of_ble_eq_true rfl⟩) ⟨zP_blind, va_recv hK hP (ci := 0) (q0 := 0) rfl rfl, zP_pre hPc hK hDc hAD (zB_on hB hA0 hS)⟩ rfl rfl hl.1 rfl (lv_room (Nat.le_of_ble_eq_true rfl)) dRG_send_2 ⟨Nat.le_of_ble_eq_true rfl, Nat.le_of_ble_eq_true rfl⟩) hS hA (fun H1 locs hz1 hk1 hS => ?_)
    have hP := zKeep hP hk1
    generalize H1 = H at hP hS ⊢
    have hP : va_P (dC, dI) zCl [(x, .inr (0, [.ref (b 0), .ref (b 1), .ref (b 2), .ref (b 3), .ref (b 4), .ref (b 5), .int 0, .int 0, .int 0, .int 0, .int 0, .int 0, .int 0])), ((b 4), .inr (5, [.ref (b 0), .ref (b 3), .ref (b 2), .ref (b 20), .ref (b 21), .ref (b 22), .int 0, .ref (b 23), .int 0])), ((b 20), .inl (cI, 64, .inl fh))] H := hP
    refine lv_aload_n hx hb dRG_send_5 rfl (lv_at hl 0 rfl) ?_
    refine lv_iload_n hx hb dRG_send_6 rfl (lv_at hl 2 rfl) ?_
    by_cases hy3 : ¬ p1 < 0 → ¬ p1 < 64
    · have hPc : va_P (dC, dI) zCl [(x, .inr (0, [.ref (b 0), .ref (b 1), .ref (b 2), .ref (b 3), .ref (b 4), .ref (b 5), .int 0, .int 0, .int 0, .int 0, .int 0, .int 0, .int 0]))] H := hP.sub [0] rfl
      have hDc : va_D (zN s0.heap.size) [(x, .inr (0, [.ref (b 0), .ref (b 1), .ref (b 2), .ref (b 3), .ref (b 4), .ref (b 5), .int 0, .int 0, .int 0, .int 0, .int 0, .int 0, .int 0]))] := hD.sub [0] (by decide) rfl
      exact zpass (tq_runV (As := [.int p1]) (rest := []) ⟨hx, hb, hml, hown, zno⟩ (zt_requireHost l dC dI cI cZ cJ a0 s0 hfl x b H.size p1 hy3) (zcw 1 (hB.word (zm4 k4_30) rfl) (hB.word (zm1 k1_1) rfl) (hB.word (zm4 k4_27) rfl) (hB.word (zm4 k4_29) rfl) (k2_selects_private (by decide) (hB.word (zm1 k1_18) rfl) (hB.word (zm4 k4_28) rfl) (hB.word (zm4 k4_29) rfl)) rfl rfl (by decide +kernel) ⟨Nat.le_of_ble_eq_true rfl, Nat.le_of_ble_eq_true rfl⟩) ⟨zP_blind, va_recv hK hP (ci := 0) (q0 := 0) rfl rfl, zP_pre hPc hK hDc hAD (zB_on hB hA0 hS)⟩ rfl rfl hl.1 rfl (lv_room (Nat.le_of_ble_eq_true rfl)) dRG_send_7 ⟨Nat.le_of_ble_eq_true rfl, Nat.le_of_ble_eq_true rfl⟩) htab hlocks hS (Nat.le_of_ble_eq_true rfl) (Nat.le_of_ble_eq_true rfl)
    · have hy3a := (Classical.not_imp.mp hy3).1
      have hy3b := Classical.not_not.mp (Classical.not_imp.mp hy3).2
      have hPc : va_P (dC, dI) zCl [(x, .inr (0, [.ref (b 0), .ref (b 1), .ref (b 2), .ref (b 3), .ref (b 4), .ref (b 5), .int 0, .int 0, .int 0, .int 0, .int 0, .int 0, .int 0]))] H := hP.sub [0] rfl
      have hDc : va_D (zN s0.heap.size) [(x, .inr (0, [.ref (b 0), .ref (b 1), .ref (b 2), .ref (b 3), .ref (b 4), .ref (b 5), .int 0, .int 0, .int 0, .int 0, .int 0, .int 0, .int 0]))] := hD.sub [0] (by decide) rfl
      refine zcallo (va_runV (As := [.int p1]) (rest := []) ⟨hx, hb, hml, hown, zno⟩ (zo_requireHost l dC dI cI cZ cJ a0 s0 x b H.size p1 hy3a hy3b) (zcw 1 (hB.word (zm4 k4_30) rfl) (hB.word (zm1 k1_1) rfl) (hB.word (zm4 k4_27) rfl) (hB.word (zm4 k4_29) rfl) (k2_selects_private (by decide) (hB.word (zm1 k1_18) rfl) (hB.word (zm4 k4_28) rfl) (hB.word (zm4 k4_29) rfl)) rfl rfl (by decide +kernel) ⟨Nat.le_of_ble_eq_true rfl, Nat.le_of_ble_eq_true rfl⟩) ⟨zP_blind, va_recv hK hP (ci := 0) (q0 := 0) rfl rfl, zP_pre hPc hK hDc hAD (zB_on hB hA0 hS)⟩ rfl rfl hl.1 rfl (lv_room (Nat.le_of_ble_eq_true rfl)) dRG_send_7 ⟨Nat.le_of_ble_eq_true rfl, Nat.le_of_ble_eq_true rfl⟩) hS hA (fun H1 locs hz1 hk1 hS => ?_)
      have hP := zKeep hP hk1
      generalize H1 = H at hP hS ⊢
      have hP : va_P (dC, dI) zCl [(x, .inr (0, [.ref (b 0), .ref (b 1), .ref (b 2), .ref (b 3), .ref (b 4), .ref (b 5), .int 0, .int 0, .int 0, .int 0, .int 0, .int 0, .int 0])), ((b 4), .inr (5, [.ref (b 0), .ref (b 3), .ref (b 2), .ref (b 20), .ref (b 21), .ref (b 22), .int 0, .ref (b 23), .int 0])), ((b 20), .inl (cI, 64, .inl fh))] H := hP
      refine lv_aload_n hx hb dRG_send_10 rfl (lv_at hl 0 rfl) ?_
      refine lv_iload_n hx hb dRG_send_11 rfl (lv_at hl 3 rfl) ?_
      by_cases hy5 : ¬ p2 < 0 → ¬ p2 < 4
      · have hPc : va_P (dC, dI) zCl [(x, .inr (0, [.ref (b 0), .ref (b 1), .ref (b 2), .ref (b 3), .ref (b 4), .ref (b 5), .int 0, .int 0, .int 0, .int 0, .int 0, .int 0, .int 0]))] H := hP.sub [0] rfl
        have hDc : va_D (zN s0.heap.size) [(x, .inr (0, [.ref (b 0), .ref (b 1), .ref (b 2), .ref (b 3), .ref (b 4), .ref (b 5), .int 0, .int 0, .int 0, .int 0, .int 0, .int 0, .int 0]))] := hD.sub [0] (by decide) rfl
        exact zpass (tq_runV (As := [.int p2]) (rest := []) ⟨hx, hb, hml, hown, zno⟩ (zt_requireTag l dC dI cI cZ cJ a0 s0 hfl x b H.size p2 hy5) (zcw 1 (hB.word (zm4 k4_46) rfl) (hB.word (zm1 k1_1) rfl) (hB.word (zm4 k4_43) rfl) (hB.word (zm4 k4_45) rfl) (k2_selects_private (by decide) (hB.word (zm1 k1_18) rfl) (hB.word (zm4 k4_44) rfl) (hB.word (zm4 k4_45) rfl)) rfl rfl (by decide +kernel) ⟨Nat.le_of_ble_eq_true rfl, Nat.le_of_ble_eq_true rfl⟩) ⟨zP_blind, va_recv hK hP (ci := 0) (q0 := 0) rfl rfl, zP_pre hPc hK hDc hAD (zB_on hB hA0 hS)⟩ rfl rfl hl.1 rfl (lv_room (Nat.le_of_ble_eq_true rfl)) dRG_send_12 ⟨Nat.le_of_ble_eq_true rfl, Nat.le_of_ble_eq_true rfl⟩) htab hlocks hS (Nat.le_of_ble_eq_true rfl) (Nat.le_of_ble_eq_true rfl)
      · have hy5a := (Classical.not_imp.mp hy5).1
        have hy5b := Classical.not_not.mp (Classical.not_imp.mp hy5).2
        have hPc : va_P (dC, dI) zCl [(x, .inr (0, [.ref (b 0), .ref (b 1), .ref (b 2), .ref (b 3), .ref (b 4), .ref (b 5), .int 0, .int 0, .int 0, .int 0, .int 0, .int 0, .int 0]))] H := hP.sub [0] rfl
        have hDc : va_D (zN s0.heap.size) [(x, .inr (0, [.ref (b 0), .ref (b 1), .ref (b 2), .ref (b 3), .ref (b 4), .ref (b 5), .int 0, .int 0, .int 0, .int 0, .int 0, .int 0, .int 0]))] := hD.sub [0] (by decide) rfl
        refine zcallo (va_runV (As := [.int p2]) (rest := []) ⟨hx, hb, hml, hown, zno⟩ (zo_requireTag l dC dI cI cZ cJ a0 s0 x b H.size p2 hy5a hy5b) (zcw 1 (hB.word (zm4 k4_46) rfl) (hB.word (zm1 k1_1) rfl) (hB.word (zm4 k4_43) rfl) (hB.word (zm4 k4_45) rfl) (k2_selects_private (by decide) (hB.word (zm1 k1_18) rfl) (hB.word (zm4 k4_44) rfl) (hB.word (zm4 k4_45) rfl)) rfl rfl (by decide +kernel) ⟨Nat.le_of_ble_eq_true rfl, Nat.le_of_ble_eq_true rfl⟩) ⟨zP_blind, va_recv hK hP (ci := 0) (q0 := 0) rfl rfl, zP_pre hPc hK hDc hAD (zB_on hB hA0 hS)⟩ rfl rfl hl.1 rfl (lv_room (Nat.le_of_ble_eq_true rfl)) dRG_send_12 ⟨Nat.le_of_ble_eq_true rfl, Nat.le_of_ble_eq_true rfl⟩) hS hA (fun H1 locs hz1 hk1 hS => ?_)
        have hP := zKeep hP hk1
        generalize H1 = H at hP hS ⊢
        have hP : va_P (dC, dI) zCl [(x, .inr (0, [.ref (b 0), .ref (b 1), .ref (b 2), .ref (b 3), .ref (b 4), .ref (b 5), .int 0, .int 0, .int 0, .int 0, .int 0, .int 0, .int 0])), ((b 4), .inr (5, [.ref (b 0), .ref (b 3), .ref (b 2), .ref (b 20), .ref (b 21), .ref (b 22), .int 0, .ref (b 23), .int 0])), ((b 20), .inl (cI, 64, .inl fh))] H := hP
        refine lv_iload_n hx hb dRG_send_15 rfl (lv_at hl 1 rfl) ?_
        refine lv_iload_n hx hb dRG_send_16 rfl (lv_at hl 2 rfl) ?_
        refine lv_icmp_eq (tgt := 46) hx hb dRG_send_17 (by decide) (fun c_17 => ?_) (fun c_17 => ?_)
        · obtain ⟨qs, hZ⟩ := hB.str (zm4 k4_48)
          exact zthrow hfl hx hb hown (hB.word (zm2 k2_151) rfl) (hB.word (zm1 k1_14) rfl) hZ (by decide) (hB.words zO_80) (by rw [hml]; exact hl.1) htab hlocks dRG_send_46 dRG_send_49 dRG_send_50 dRG_send_52 dRG_send_55 (Nat.le_of_ble_eq_true rfl) (Nat.le_of_ble_eq_true rfl) (Nat.le_of_ble_eq_true rfl) (Nat.le_of_ble_eq_true rfl) hS rfl rfl
        · refine lv_aload_n hx hb dRG_send_20 rfl (lv_at hl 0 rfl) ?_
          have hu0 : ∀ w ∈ u_ws "RingGuard" T_RG 13, w.before ([.ref x, .int p0, .int p1, .int p2] : List Value).toArray s = true := hB.words zU_RG
          refine va_get (D := (dC, dI)) (ci := 0) (v := .ref (b 4)) (C := "RingGuard") (T := T_RG) (N := 13) hx hb hu0 zid hown hK hP 0 rfl rfl 4 (by decide) (hB.word (zm1 k1_239) rfl) (fun _ h9 => h9) rfl dRG_send_21 ?_
          have hu5 : ∀ w ∈ u_ws "RingGuard$Frames" T_FR 9, w.before ([.ref x, .int p0, .int p1, .int p2] : List Value).toArray s = true := hB.words zU_FR
          refine va_get (D := (dC, dI)) (ci := 5) (v := .ref (b 20)) (C := "RingGuard$Frames") (T := T_FR) (N := 9) hx hb hu5 zid hown hK hP 1 rfl rfl 3 (by decide) (hB.word (zm1 k1_190) rfl) (fun _ h9 => h9) rfl dRG_send_24 ?_
          refine lv_iload_n hx hb dRG_send_27 rfl (lv_at hl 1 rfl) ?_
          refine va_iald hx hb hK hP 2 0 rfl rfl (i := p0) (zin hy1a hy1b) dRG_send_28 ?_
          refine lv_topi (fun k7 ek7 => ?_)
          refine lv_iconst (v := (-1)) hx hb dRG_send_29 (by decide) ?_
          refine lv_icmp_eq (tgt := 46) hx hb dRG_send_30 (by decide) (fun _ => ?_) (fun c9 => absurd (ek7.trans (hf _ (zlt hy1a hy1b))) c9)
          obtain ⟨qs, hZ⟩ := hB.str (zm4 k4_48)
          exact zthrow hfl hx hb hown (hB.word (zm2 k2_151) rfl) (hB.word (zm1 k1_14) rfl) hZ (by decide) (hB.words zO_80) (by rw [hml]; exact hl.1) htab hlocks dRG_send_46 dRG_send_49 dRG_send_50 dRG_send_52 dRG_send_55 (Nat.le_of_ble_eq_true rfl) (Nat.le_of_ble_eq_true rfl) (Nat.le_of_ble_eq_true rfl) (Nat.le_of_ble_eq_true rfl) hS rfl rfl
set_option maxHeartbeats 4000000 in
set_option maxRecDepth 100000 in
theorem zt_holds (l : Launch) (dC : Nat → ClassId) (dI : Nat → Nat → Nat) (cI cZ cJ : ClassId) (a0 : Array Value) (s0 : State) (hfl : l.flags = Jvm.pinnedFlags ++ [Jvm.noTraceFlag]) (x : Nat) (b : Nat → Nat) (sz : Nat) (p0 p1 : Int32) : tq_Met l yRG_holds [Cond.code yRG_holds bRG_holds 3 (some .int)] ({ frames := 8, cells := 1, slots := 6, locals := 133 } : Room) (zP zCl dC dI (zTY cI cZ cJ) a0 s0 [.ref x, .int p0, .int p1] sz [(x, .inr (0, [.ref (b 0), .ref (b 1), .ref (b 2), .ref (b 3), .ref (b 4), .ref (b 5), .int 0, .int 0, .int 0, .int 0, .int 0, .int 0, .int 0])), ((b 0), .inr (1, [.int 0, .int 0, .ref (b 10), .ref (b 11), .ref (b 12), .ref (b 13), .ref (b 14), .ref (b 15), .ref (b 16), .ref (b 17), .ref (b 18)]))]) (tq_Q "java/lang/IllegalArgumentException") 1 6 (zN sz) := by
  refine tq_ofW (cc := bRG_holds) (maxL := 3) (ret := (some .int)) (by decide) rfl ?_
  intro p e s m args below meth c s₁ B hml htab hv
  obtain ⟨rfl, hsz, hP, hK, hD0, hB⟩ := hv
  have hx := B.exec
  have hb := B.bytes
  have hr := B.returns
  have hown : s.vm.findClass "RingGuard" = some m.cls := findClass_of_methodNamed B.named
  have hlocks := B.notSynchronized
  subst hsz
  have hD := hD0
  have hA0 : ∀ q, zN s.heap.size q → s0.heap.size ≤ q := zA1 hB
  have hAD : ∀ q, zN s0.heap.size q → s0.heap.size ≤ q := fun _ h => h
  have hA : ∀ q : Nat, s.heap.size ≤ q → zN s.heap.size q := fun _ h => h
  have hS : va_S (zN s.heap.size) s.heap s.heap [] := va_S.rf
  have hP : va_P (dC, dI) zCl [(x, .inr (0, [.ref (b 0), .ref (b 1), .ref (b 2), .ref (b 3), .ref (b 4), .ref (b 5), .int 0, .int 0, .int 0, .int 0, .int 0, .int 0, .int 0])), ((b 0), .inr (1, [.int 0, .int 0, .ref (b 10), .ref (b 11), .ref (b 12), .ref (b 13), .ref (b 14), .ref (b 15), .ref (b 16), .ref (b 17), .ref (b 18)]))] s.heap := hP
  have hl := lv_entry ([.ref x, .int p0, .int p1]) (n := 3) (Nat.le_of_ble_eq_true rfl)
  rw [lg_entry_eq]
  generalize (lg_sl ([.ref x, .int p0, .int p1]) ++ List.replicate (3 - (lg_sl ([.ref x, .int p0, .int p1])).length) Slot.unset).toArray = ls at hl ⊢
  have hl : lv_has ls 3 [(0, .ref x), (1, .int p0), (2, .int p1)] := hl
  refine lv_aload_n hx hb dRG_holds_0 rfl (lv_at hl 0 rfl) ?_
  refine lv_iload_n hx hb dRG_holds_1 rfl (lv_at hl 1 rfl) ?_
  refine lv_iload_n hx hb dRG_holds_2 rfl (lv_at hl 2 rfl) ?_
  have hPc : va_P (dC, dI) zCl [(x, .inr (0, [.ref (b 0), .ref (b 1), .ref (b 2), .ref (b 3), .ref (b 4), .ref (b 5), .int 0, .int 0, .int 0, .int 0, .int 0, .int 0, .int 0])), ((b 0), .inr (1, [.int 0, .int 0, .ref (b 10), .ref (b 11), .ref (b 12), .ref (b 13), .ref (b 14), .ref (b 15), .ref (b 16), .ref (b 17), .ref (b 18)]))] s.heap := hP.sub [0, 1] rfl
  have hDc : va_D (zN s0.heap.size) [(x, .inr (0, [.ref (b 0), .ref (b 1), .ref (b 2), .ref (b 3), .ref (b 4), .ref (b 5), .int 0, .int 0, .int 0, .int 0, .int 0, .int 0, .int 0])), ((b 0), .inr (1, [.int 0, .int 0, .ref (b 10), .ref (b 11), .ref (b 12), .ref (b 13), .ref (b 14), .ref (b 15), .ref (b 16), .ref (b 17), .ref (b 18)]))] := hD.sub [0, 1] (by decide) rfl
  exact zpass (tq_runV (As := [.int p0, .int p1]) (rest := []) ⟨hx, hb, hml, hown, zno⟩ (zt_requirePort l dC dI cI cZ cJ a0 s0 hfl x b s.heap.size p0 p1) (zcw 2 (hB.word (zm3 k3_127) rfl) (hB.word (zm1 k1_1) rfl) (hB.word (zm3 k3_124) rfl) (hB.word (zm3 k3_126) rfl) (k2_selects_private (by decide) (hB.word (zm1 k1_18) rfl) (hB.word (zm3 k3_125) rfl) (hB.word (zm3 k3_126) rfl)) rfl rfl (by decide +kernel) ⟨Nat.le_of_ble_eq_true rfl, Nat.le_of_ble_eq_true rfl⟩) ⟨zP_blind, va_recv hK hP (ci := 0) (q0 := 0) rfl rfl, zP_pre hPc hK hDc hAD (zB_on hB hA0 hS)⟩ rfl rfl hl.1 rfl (lv_room (Nat.le_of_ble_eq_true rfl)) dRG_holds_3 ⟨Nat.le_of_ble_eq_true rfl, Nat.le_of_ble_eq_true rfl⟩) htab hlocks hS (Nat.le_of_ble_eq_true rfl) (Nat.le_of_ble_eq_true rfl)
set_option maxHeartbeats 4000000 in
set_option maxRecDepth 100000 in
theorem zt_told (l : Launch) (dC : Nat → ClassId) (dI : Nat → Nat → Nat) (cI cZ cJ : ClassId) (a0 : Array Value) (s0 : State) (hfl : l.flags = Jvm.pinnedFlags ++ [Jvm.noTraceFlag]) (x : Nat) (b : Nat → Nat) (sz : Nat) (p0 p1 p2 : Int32) : tq_Met l yRG_told [Cond.code yRG_told bRG_told 4 (some .int)] ({ frames := 7, cells := 1, slots := 6, locals := 111 } : Room) (zP zCl dC dI (zTY cI cZ cJ) a0 s0 [.ref x, .int p0, .int p1, .int p2] sz [(x, .inr (0, [.ref (b 0), .ref (b 1), .ref (b 2), .ref (b 3), .ref (b 4), .ref (b 5), .int 0, .int 0, .int 0, .int 0, .int 0, .int 0, .int 0])), ((b 0), .inr (1, [.int 0, .int 0, .ref (b 10), .ref (b 11), .ref (b 12), .ref (b 13), .ref (b 14), .ref (b 15), .ref (b 16), .ref (b 17), .ref (b 18)]))]) (tq_Q "java/lang/IllegalArgumentException") 1 6 (zN sz) := by
  refine tq_ofW (cc := bRG_told) (maxL := 4) (ret := (some .int)) (by decide) rfl ?_
  intro p e s m args below meth c s₁ B hml htab hv
  obtain ⟨rfl, hsz, hP, hK, hD0, hB⟩ := hv
  have hx := B.exec
  have hb := B.bytes
  have hr := B.returns
  have hown : s.vm.findClass "RingGuard" = some m.cls := findClass_of_methodNamed B.named
  have hlocks := B.notSynchronized
  subst hsz
  have hD := hD0
  have hA0 : ∀ q, zN s.heap.size q → s0.heap.size ≤ q := zA1 hB
  have hAD : ∀ q, zN s0.heap.size q → s0.heap.size ≤ q := fun _ h => h
  have hA : ∀ q : Nat, s.heap.size ≤ q → zN s.heap.size q := fun _ h => h
  have hS : va_S (zN s.heap.size) s.heap s.heap [] := va_S.rf
  have hP : va_P (dC, dI) zCl [(x, .inr (0, [.ref (b 0), .ref (b 1), .ref (b 2), .ref (b 3), .ref (b 4), .ref (b 5), .int 0, .int 0, .int 0, .int 0, .int 0, .int 0, .int 0])), ((b 0), .inr (1, [.int 0, .int 0, .ref (b 10), .ref (b 11), .ref (b 12), .ref (b 13), .ref (b 14), .ref (b 15), .ref (b 16), .ref (b 17), .ref (b 18)]))] s.heap := hP
  have hl := lv_entry ([.ref x, .int p0, .int p1, .int p2]) (n := 4) (Nat.le_of_ble_eq_true rfl)
  rw [lg_entry_eq]
  generalize (lg_sl ([.ref x, .int p0, .int p1, .int p2]) ++ List.replicate (4 - (lg_sl ([.ref x, .int p0, .int p1, .int p2])).length) Slot.unset).toArray = ls at hl ⊢
  have hl : lv_has ls 4 [(0, .ref x), (1, .int p0), (2, .int p1), (3, .int p2)] := hl
  refine lv_aload_n hx hb dRG_told_0 rfl (lv_at hl 0 rfl) ?_
  refine lv_iload_n hx hb dRG_told_1 rfl (lv_at hl 1 rfl) ?_
  have hPc : va_P (dC, dI) zCl [(x, .inr (0, [.ref (b 0), .ref (b 1), .ref (b 2), .ref (b 3), .ref (b 4), .ref (b 5), .int 0, .int 0, .int 0, .int 0, .int 0, .int 0, .int 0])), ((b 0), .inr (1, [.int 0, .int 0, .ref (b 10), .ref (b 11), .ref (b 12), .ref (b 13), .ref (b 14), .ref (b 15), .ref (b 16), .ref (b 17), .ref (b 18)]))] s.heap := hP.sub [0, 1] rfl
  have hDc : va_D (zN s0.heap.size) [(x, .inr (0, [.ref (b 0), .ref (b 1), .ref (b 2), .ref (b 3), .ref (b 4), .ref (b 5), .int 0, .int 0, .int 0, .int 0, .int 0, .int 0, .int 0])), ((b 0), .inr (1, [.int 0, .int 0, .ref (b 10), .ref (b 11), .ref (b 12), .ref (b 13), .ref (b 14), .ref (b 15), .ref (b 16), .ref (b 17), .ref (b 18)]))] := hD.sub [0, 1] (by decide) rfl
  exact zpass (tq_runV (As := [.int p0]) (rest := []) ⟨hx, hb, hml, hown, zno⟩ (zt_requireBridge l dC dI cI cZ cJ a0 s0 hfl x b s.heap.size p0) (zcw 1 (hB.word (zm2 k2_150) rfl) (hB.word (zm1 k1_1) rfl) (hB.word (zm2 k2_147) rfl) (hB.word (zm2 k2_149) rfl) (k2_selects_private (by decide) (hB.word (zm1 k1_18) rfl) (hB.word (zm2 k2_148) rfl) (hB.word (zm2 k2_149) rfl)) rfl rfl (by decide +kernel) ⟨Nat.le_of_ble_eq_true rfl, Nat.le_of_ble_eq_true rfl⟩) ⟨zP_blind, va_recv hK hP (ci := 0) (q0 := 0) rfl rfl, zP_pre hPc hK hDc hAD (zB_on hB hA0 hS)⟩ rfl rfl hl.1 rfl (lv_room (Nat.le_of_ble_eq_true rfl)) dRG_told_2 ⟨Nat.le_of_ble_eq_true rfl, Nat.le_of_ble_eq_true rfl⟩) htab hlocks hS (Nat.le_of_ble_eq_true rfl) (Nat.le_of_ble_eq_true rfl)
set_option maxHeartbeats 4000000 in
set_option maxRecDepth 100000 in
theorem zt_learned (l : Launch) (dC : Nat → ClassId) (dI : Nat → Nat → Nat) (cI cZ cJ : ClassId) (a0 : Array Value) (s0 : State) (hfl : l.flags = Jvm.pinnedFlags ++ [Jvm.noTraceFlag]) (x : Nat) (b : Nat → Nat) (sz : Nat) (p0 p1 p2 : Int32) : tq_Met l yRG_learned [Cond.code yRG_learned bRG_learned 4 (some .int)] ({ frames := 7, cells := 1, slots := 6, locals := 111 } : Room) (zP zCl dC dI (zTY cI cZ cJ) a0 s0 [.ref x, .int p0, .int p1, .int p2] sz [(x, .inr (0, [.ref (b 0), .ref (b 1), .ref (b 2), .ref (b 3), .ref (b 4), .ref (b 5), .int 0, .int 0, .int 0, .int 0, .int 0, .int 0, .int 0])), ((b 0), .inr (1, [.int 0, .int 0, .ref (b 10), .ref (b 11), .ref (b 12), .ref (b 13), .ref (b 14), .ref (b 15), .ref (b 16), .ref (b 17), .ref (b 18)]))]) (tq_Q "java/lang/IllegalArgumentException") 1 6 (zN sz) := by
  refine tq_ofW (cc := bRG_learned) (maxL := 4) (ret := (some .int)) (by decide) rfl ?_
  intro p e s m args below meth c s₁ B hml htab hv
  obtain ⟨rfl, hsz, hP, hK, hD0, hB⟩ := hv
  have hx := B.exec
  have hb := B.bytes
  have hr := B.returns
  have hown : s.vm.findClass "RingGuard" = some m.cls := findClass_of_methodNamed B.named
  have hlocks := B.notSynchronized
  subst hsz
  have hD := hD0
  have hA0 : ∀ q, zN s.heap.size q → s0.heap.size ≤ q := zA1 hB
  have hAD : ∀ q, zN s0.heap.size q → s0.heap.size ≤ q := fun _ h => h
  have hA : ∀ q : Nat, s.heap.size ≤ q → zN s.heap.size q := fun _ h => h
  have hS : va_S (zN s.heap.size) s.heap s.heap [] := va_S.rf
  have hP : va_P (dC, dI) zCl [(x, .inr (0, [.ref (b 0), .ref (b 1), .ref (b 2), .ref (b 3), .ref (b 4), .ref (b 5), .int 0, .int 0, .int 0, .int 0, .int 0, .int 0, .int 0])), ((b 0), .inr (1, [.int 0, .int 0, .ref (b 10), .ref (b 11), .ref (b 12), .ref (b 13), .ref (b 14), .ref (b 15), .ref (b 16), .ref (b 17), .ref (b 18)]))] s.heap := hP
  have hl := lv_entry ([.ref x, .int p0, .int p1, .int p2]) (n := 4) (Nat.le_of_ble_eq_true rfl)
  rw [lg_entry_eq]
  generalize (lg_sl ([.ref x, .int p0, .int p1, .int p2]) ++ List.replicate (4 - (lg_sl ([.ref x, .int p0, .int p1, .int p2])).length) Slot.unset).toArray = ls at hl ⊢
  have hl : lv_has ls 4 [(0, .ref x), (1, .int p0), (2, .int p1), (3, .int p2)] := hl
  refine lv_aload_n hx hb dRG_learned_0 rfl (lv_at hl 0 rfl) ?_
  refine lv_iload_n hx hb dRG_learned_1 rfl (lv_at hl 1 rfl) ?_
  have hPc : va_P (dC, dI) zCl [(x, .inr (0, [.ref (b 0), .ref (b 1), .ref (b 2), .ref (b 3), .ref (b 4), .ref (b 5), .int 0, .int 0, .int 0, .int 0, .int 0, .int 0, .int 0])), ((b 0), .inr (1, [.int 0, .int 0, .ref (b 10), .ref (b 11), .ref (b 12), .ref (b 13), .ref (b 14), .ref (b 15), .ref (b 16), .ref (b 17), .ref (b 18)]))] s.heap := hP.sub [0, 1] rfl
  have hDc : va_D (zN s0.heap.size) [(x, .inr (0, [.ref (b 0), .ref (b 1), .ref (b 2), .ref (b 3), .ref (b 4), .ref (b 5), .int 0, .int 0, .int 0, .int 0, .int 0, .int 0, .int 0])), ((b 0), .inr (1, [.int 0, .int 0, .ref (b 10), .ref (b 11), .ref (b 12), .ref (b 13), .ref (b 14), .ref (b 15), .ref (b 16), .ref (b 17), .ref (b 18)]))] := hD.sub [0, 1] (by decide) rfl
  exact zpass (tq_runV (As := [.int p0]) (rest := []) ⟨hx, hb, hml, hown, zno⟩ (zt_requireBridge l dC dI cI cZ cJ a0 s0 hfl x b s.heap.size p0) (zcw 1 (hB.word (zm2 k2_150) rfl) (hB.word (zm1 k1_1) rfl) (hB.word (zm2 k2_147) rfl) (hB.word (zm2 k2_149) rfl) (k2_selects_private (by decide) (hB.word (zm1 k1_18) rfl) (hB.word (zm2 k2_148) rfl) (hB.word (zm2 k2_149) rfl)) rfl rfl (by decide +kernel) ⟨Nat.le_of_ble_eq_true rfl, Nat.le_of_ble_eq_true rfl⟩) ⟨zP_blind, va_recv hK hP (ci := 0) (q0 := 0) rfl rfl, zP_pre hPc hK hDc hAD (zB_on hB hA0 hS)⟩ rfl rfl hl.1 rfl (lv_room (Nat.le_of_ble_eq_true rfl)) dRG_learned_2 ⟨Nat.le_of_ble_eq_true rfl, Nat.le_of_ble_eq_true rfl⟩) htab hlocks hS (Nat.le_of_ble_eq_true rfl) (Nat.le_of_ble_eq_true rfl)
set_option maxHeartbeats 4000000 in
set_option maxRecDepth 100000 in
theorem zt_joined (l : Launch) (dC : Nat → ClassId) (dI : Nat → Nat → Nat) (cI cZ cJ : ClassId) (a0 : Array Value) (s0 : State) (hfl : l.flags = Jvm.pinnedFlags ++ [Jvm.noTraceFlag]) (x : Nat) (b : Nat → Nat) (sz : Nat) (p0 p1 : Int32) : tq_Met l yRG_joined [Cond.code yRG_joined bRG_joined 3 (some .boolean)] ({ frames := 7, cells := 1, slots := 6, locals := 111 } : Room) (zP zCl dC dI (zTY cI cZ cJ) a0 s0 [.ref x, .int p0, .int p1] sz [(x, .inr (0, [.ref (b 0), .ref (b 1), .ref (b 2), .ref (b 3), .ref (b 4), .ref (b 5), .int 0, .int 0, .int 0, .int 0, .int 0, .int 0, .int 0])), ((b 0), .inr (1, [.int 0, .int 0, .ref (b 10), .ref (b 11), .ref (b 12), .ref (b 13), .ref (b 14), .ref (b 15), .ref (b 16), .ref (b 17), .ref (b 18)]))]) (tq_Q "java/lang/IllegalArgumentException") 1 6 (zN sz) := by
  refine tq_ofW (cc := bRG_joined) (maxL := 3) (ret := (some .boolean)) (by decide) rfl ?_
  intro p e s m args below meth c s₁ B hml htab hv
  obtain ⟨rfl, hsz, hP, hK, hD0, hB⟩ := hv
  have hx := B.exec
  have hb := B.bytes
  have hr := B.returns
  have hown : s.vm.findClass "RingGuard" = some m.cls := findClass_of_methodNamed B.named
  have hlocks := B.notSynchronized
  subst hsz
  have hD := hD0
  have hA0 : ∀ q, zN s.heap.size q → s0.heap.size ≤ q := zA1 hB
  have hAD : ∀ q, zN s0.heap.size q → s0.heap.size ≤ q := fun _ h => h
  have hA : ∀ q : Nat, s.heap.size ≤ q → zN s.heap.size q := fun _ h => h
  have hS : va_S (zN s.heap.size) s.heap s.heap [] := va_S.rf
  have hP : va_P (dC, dI) zCl [(x, .inr (0, [.ref (b 0), .ref (b 1), .ref (b 2), .ref (b 3), .ref (b 4), .ref (b 5), .int 0, .int 0, .int 0, .int 0, .int 0, .int 0, .int 0])), ((b 0), .inr (1, [.int 0, .int 0, .ref (b 10), .ref (b 11), .ref (b 12), .ref (b 13), .ref (b 14), .ref (b 15), .ref (b 16), .ref (b 17), .ref (b 18)]))] s.heap := hP
  have hl := lv_entry ([.ref x, .int p0, .int p1]) (n := 3) (Nat.le_of_ble_eq_true rfl)
  rw [lg_entry_eq]
  generalize (lg_sl ([.ref x, .int p0, .int p1]) ++ List.replicate (3 - (lg_sl ([.ref x, .int p0, .int p1])).length) Slot.unset).toArray = ls at hl ⊢
  have hl : lv_has ls 3 [(0, .ref x), (1, .int p0), (2, .int p1)] := hl
  refine lv_aload_n hx hb dRG_joined_0 rfl (lv_at hl 0 rfl) ?_
  refine lv_iload_n hx hb dRG_joined_1 rfl (lv_at hl 1 rfl) ?_
  have hPc : va_P (dC, dI) zCl [(x, .inr (0, [.ref (b 0), .ref (b 1), .ref (b 2), .ref (b 3), .ref (b 4), .ref (b 5), .int 0, .int 0, .int 0, .int 0, .int 0, .int 0, .int 0])), ((b 0), .inr (1, [.int 0, .int 0, .ref (b 10), .ref (b 11), .ref (b 12), .ref (b 13), .ref (b 14), .ref (b 15), .ref (b 16), .ref (b 17), .ref (b 18)]))] s.heap := hP.sub [0, 1] rfl
  have hDc : va_D (zN s0.heap.size) [(x, .inr (0, [.ref (b 0), .ref (b 1), .ref (b 2), .ref (b 3), .ref (b 4), .ref (b 5), .int 0, .int 0, .int 0, .int 0, .int 0, .int 0, .int 0])), ((b 0), .inr (1, [.int 0, .int 0, .ref (b 10), .ref (b 11), .ref (b 12), .ref (b 13), .ref (b 14), .ref (b 15), .ref (b 16), .ref (b 17), .ref (b 18)]))] := hD.sub [0, 1] (by decide) rfl
  exact zpass (tq_runV (As := [.int p0]) (rest := []) ⟨hx, hb, hml, hown, zno⟩ (zt_requireBridge l dC dI cI cZ cJ a0 s0 hfl x b s.heap.size p0) (zcw 1 (hB.word (zm2 k2_150) rfl) (hB.word (zm1 k1_1) rfl) (hB.word (zm2 k2_147) rfl) (hB.word (zm2 k2_149) rfl) (k2_selects_private (by decide) (hB.word (zm1 k1_18) rfl) (hB.word (zm2 k2_148) rfl) (hB.word (zm2 k2_149) rfl)) rfl rfl (by decide +kernel) ⟨Nat.le_of_ble_eq_true rfl, Nat.le_of_ble_eq_true rfl⟩) ⟨zP_blind, va_recv hK hP (ci := 0) (q0 := 0) rfl rfl, zP_pre hPc hK hDc hAD (zB_on hB hA0 hS)⟩ rfl rfl hl.1 rfl (lv_room (Nat.le_of_ble_eq_true rfl)) dRG_joined_2 ⟨Nat.le_of_ble_eq_true rfl, Nat.le_of_ble_eq_true rfl⟩) htab hlocks hS (Nat.le_of_ble_eq_true rfl) (Nat.le_of_ble_eq_true rfl)
end
section
set_option maxHeartbeats 4000000 in
set_option maxRecDepth 100000 in
theorem zi_bridge (l : Launch) (dC : Nat → ClassId) (dI : Nat → Nat → Nat) (cI cZ cJ : ClassId) (a0 : Array Value) (s0 : State) (x : Nat) (b : Nat → Nat) (sz : Nat) : Met l yRG_bridge [Cond.code yRG_bridge bRG_bridge 2 (some .int)] ({ frames := 1, cells := 0, slots := 0, locals := 20 } : Room) (zP zCl dC dI (zTY cI cZ cJ) a0 s0 [.ref x] sz [(x, .inr (0, [.ref (b 0), .ref (b 1), .ref (b 2), .ref (b 3), .ref (b 4), .ref (b 5), .int 0, .int 0, .int 0, .int 0, .int 0, .int 0, .int 0])), ((b 0), .inr (1, [.int 0, .int 0, .ref (b 10), .ref (b 11), .ref (b 12), .ref (b 13), .ref (b 14), .ref (b 15), .ref (b 16), .ref (b 17), .ref (b 18)]))]) (zQi zCl dC dI (fun r => r = 0) [(x, .inr (0, [.ref (b 0), .ref (b 1), .ref (b 2), .ref (b 3), .ref (b 4), .ref (b 5), .int 0, .int 0, .int 0, .int 0, .int 0, .int 0, .int 0])), ((b 0), .inr (1, [.int 1, .int 0, .ref (b 10), .ref (b 11), .ref (b 12), .ref (b 13), .ref (b 14), .ref (b 15), .ref (b 16), .ref (b 17), .ref (b 18)]))] (va_A [(x, .inr (0, [.ref (b 0), .ref (b 1), .ref (b 2), .ref (b 3), .ref (b 4), .ref (b 5), .int 0, .int 0, .int 0, .int 0, .int 0, .int 0, .int 0])), ((b 0), .inr (1, [.int 0, .int 0, .ref (b 10), .ref (b 11), .ref (b 12), .ref (b 13), .ref (b 14), .ref (b 15), .ref (b 16), .ref (b 17), .ref (b 18)]))] sz)) 0 0 (va_A [(x, .inr (0, [.ref (b 0), .ref (b 1), .ref (b 2), .ref (b 3), .ref (b 4), .ref (b 5), .int 0, .int 0, .int 0, .int 0, .int 0, .int 0, .int 0])), ((b 0), .inr (1, [.int 0, .int 0, .ref (b 10), .ref (b 11), .ref (b 12), .ref (b 13), .ref (b 14), .ref (b 15), .ref (b 16), .ref (b 17), .ref (b 18)]))] sz) := by
  refine Met.ofW (cc := bRG_bridge) (maxL := 2) (ret := (some .int)) (by decide) rfl ?_
  intro p e s m args below meth c s₁ B hml hv
  obtain ⟨rfl, hsz, hP, hK, hD0, hB⟩ := hv
  have hx := B.exec
  have hb := B.bytes
  have hr := B.returns
  have hown : s.vm.findClass "RingGuard" = some m.cls := findClass_of_methodNamed B.named
  have hlocks := B.notSynchronized
  subst hsz
  have hD := hD0.self (sz := s.heap.size)
  have hA0 := zA0 hD0 hB
  generalize hAe : va_A [(x, .inr (0, [.ref (b 0), .ref (b 1), .ref (b 2), .ref (b 3), .ref (b 4), .ref (b 5), .int 0, .int 0, .int 0, .int 0, .int 0, .int 0, .int 0])), ((b 0), .inr (1, [.int 0, .int 0, .ref (b 10), .ref (b 11), .ref (b 12), .ref (b 13), .ref (b 14), .ref (b 15), .ref (b 16), .ref (b 17), .ref (b 18)]))] s.heap.size = A at hD hA0 ⊢
  have hAD := hA0
  have hA : ∀ q : Nat, s.heap.size ≤ q → A q := fun q h => by rw [← hAe]; exact Or.inr h
  have hS : va_S A s.heap s.heap [] := va_S.rf
  have hP : va_P (dC, dI) zCl [(x, .inr (0, [.ref (b 0), .ref (b 1), .ref (b 2), .ref (b 3), .ref (b 4), .ref (b 5), .int 0, .int 0, .int 0, .int 0, .int 0, .int 0, .int 0])), ((b 0), .inr (1, [.int 0, .int 0, .ref (b 10), .ref (b 11), .ref (b 12), .ref (b 13), .ref (b 14), .ref (b 15), .ref (b 16), .ref (b 17), .ref (b 18)]))] s.heap := hP
  have hl := lv_entry ([.ref x]) (n := 2) (Nat.le_of_ble_eq_true rfl)
  rw [lg_entry_eq]
  generalize (lg_sl ([.ref x]) ++ List.replicate (2 - (lg_sl ([.ref x])).length) Slot.unset).toArray = ls at hl ⊢
  have hl : lv_has ls 2 [(0, .ref x)] := hl
  refine lv_aload_n hx hb dRG_bridge_0 rfl (lv_at hl 0 rfl) ?_
  have hPc : va_P (dC, dI) zCl [(x, .inr (0, [.ref (b 0), .ref (b 1), .ref (b 2), .ref (b 3), .ref (b 4), .ref (b 5), .int 0, .int 0, .int 0, .int 0, .int 0, .int 0, .int 0]))] s.heap := hP.sub [0] rfl
  have hDc : va_D A [(x, .inr (0, [.ref (b 0), .ref (b 1), .ref (b 2), .ref (b 3), .ref (b 4), .ref (b 5), .int 0, .int 0, .int 0, .int 0, .int 0, .int 0, .int 0]))] := hD.sub [0] (by decide) rfl
  refine zcallo (va_runV (As := []) (rest := []) ⟨hx, hb, hml, hown, zno⟩ (zo_requireNotStarted l dC dI cI cZ cJ a0 s0 x b s.heap.size) (zcw 0 (hB.word (zm2 k2_70) rfl) (hB.word (zm1 k1_1) rfl) (hB.word (zm2 k2_67) rfl) (hB.word (zm2 k2_69) rfl) (k2_selects_private (by decide) (hB.word (zm1 k1_18) rfl) (hB.word (zm2 k2_68) rfl) (hB.word (zm2 k2_69) rfl)) rfl rfl (by decide +kernel) ⟨Nat.le_of_ble_eq_true rfl, Nat.le_of_ble_eq_true rfl⟩) ⟨zP_blind, va_recv hK hP (ci := 0) (q0 := 0) rfl rfl, zP_pre hPc hK hDc hAD (zB_on hB hA0 hS)⟩ rfl rfl hl.1 rfl (lv_room (Nat.le_of_ble_eq_true rfl)) dRG_bridge_1 ⟨Nat.le_of_ble_eq_true rfl, Nat.le_of_ble_eq_true rfl⟩) hS hA (fun H1 locs hz1 hk1 hS => ?_)
  have hP := zKeep hP hk1
  generalize H1 = H at hP hS ⊢
  have hP : va_P (dC, dI) zCl [(x, .inr (0, [.ref (b 0), .ref (b 1), .ref (b 2), .ref (b 3), .ref (b 4), .ref (b 5), .int 0, .int 0, .int 0, .int 0, .int 0, .int 0, .int 0])), ((b 0), .inr (1, [.int 0, .int 0, .ref (b 10), .ref (b 11), .ref (b 12), .ref (b 13), .ref (b 14), .ref (b 15), .ref (b 16), .ref (b 17), .ref (b 18)]))] H := hP
  refine lv_aload_n hx hb dRG_bridge_4 rfl (lv_at hl 0 rfl) ?_
  have hu0 : ∀ w ∈ u_ws "RingGuard" T_RG 13, w.before ([.ref x] : List Value).toArray s = true := hB.words zU_RG
  refine va_get (D := (dC, dI)) (ci := 0) (v := .ref (b 0)) (C := "RingGuard") (T := T_RG) (N := 13) hx hb hu0 zid hown hK hP 0 rfl rfl 0 (by decide) (hB.word (zm1 k1_235) rfl) (fun _ h9 => h9) rfl dRG_bridge_5 ?_
  have hu1 : ∀ w ∈ u_ws "RingGuard$Plan" T_PL 11, w.before ([.ref x] : List Value).toArray s = true := hB.words zU_PL
  refine va_get (D := (dC, dI)) (ci := 1) (v := .int 0) (C := "RingGuard$Plan") (T := T_PL) (N := 11) hx hb hu1 zid hown hK hP 1 rfl rfl 0 (by decide) (hB.word (zm1 k1_34) rfl) (fun _ h9 => h9) rfl dRG_bridge_8 ?_
  refine lv_bipush (v := 48) hx hb dRG_bridge_11 (by decide) ?_
  refine lv_icmp_lt (tgt := 26) hx hb dRG_bridge_13 (by decide) (fun _ => ?_) (fun c9 => absurd (by decide) c9)
  refine lv_aload_n hx hb dRG_bridge_26 rfl (lv_at hl 0 rfl) ?_
  refine va_get (D := (dC, dI)) (ci := 0) (v := .ref (b 0)) (C := "RingGuard") (T := T_RG) (N := 13) hx hb hu0 zid hown hK hP 0 rfl rfl 0 (by decide) (hB.word (zm1 k1_235) rfl) (fun _ h9 => h9) rfl dRG_bridge_27 ?_
  refine va_get (D := (dC, dI)) (ci := 1) (v := .int 0) (C := "RingGuard$Plan") (T := T_PL) (N := 11) hx hb hu1 zid hown hK hP 1 rfl rfl 0 (by decide) (hB.word (zm1 k1_34) rfl) (fun _ h9 => h9) rfl dRG_bridge_30 ?_
  refine lv_istore_n (lv' := [(1, .int 0), (0, .ref x)]) hx hb dRG_bridge_33 rfl hl (by decide) rfl (fun ls hl => ?_)
  refine lv_aload_n hx hb dRG_bridge_34 rfl (lv_at hl 1 rfl) ?_
  refine va_get (D := (dC, dI)) (ci := 0) (v := .ref (b 0)) (C := "RingGuard") (T := T_RG) (N := 13) hx hb hu0 zid hown hK hP 0 rfl rfl 0 (by decide) (hB.word (zm1 k1_235) rfl) (fun _ h9 => h9) rfl dRG_bridge_35 ?_
  refine lv_iload_n hx hb dRG_bridge_38 rfl (lv_at hl 0 rfl) ?_
  refine lv_iconst (v := 1) hx hb dRG_bridge_39 (by decide) ?_
  refine lv_iadd hx hb dRG_bridge_40 ?_
  refine lv_topi (fun k2 ek2 => ?_)
  have ek2 : k2 = 1 := ek2.trans (by decide)
  subst ek2
  refine va_put (D := (dC, dI)) (ci := 1) (v := .int 1) (ty := .int) (C := "RingGuard$Plan") (T := T_PL) (N := 11) hx hb hu1 zid ty_PL ok_PL nm_PL hown hK hP hD hS 1 rfl rfl 0 (by decide) (hB.word (zm1 k1_34) rfl) (fun _ h9 => h9) rfl (by decide +kernel) rfl rfl (Nat.le_of_ble_eq_true rfl) dRG_bridge_41 (fun H locs hP hD hS => ?_)
  have hP : va_P (dC, dI) zCl [(x, .inr (0, [.ref (b 0), .ref (b 1), .ref (b 2), .ref (b 3), .ref (b 4), .ref (b 5), .int 0, .int 0, .int 0, .int 0, .int 0, .int 0, .int 0])), ((b 0), .inr (1, [.int 1, .int 0, .ref (b 10), .ref (b 11), .ref (b 12), .ref (b 13), .ref (b 14), .ref (b 15), .ref (b 16), .ref (b 17), .ref (b 18)]))] H := hP
  have hD : va_D A [(x, .inr (0, [.ref (b 0), .ref (b 1), .ref (b 2), .ref (b 3), .ref (b 4), .ref (b 5), .int 0, .int 0, .int 0, .int 0, .int 0, .int 0, .int 0])), ((b 0), .inr (1, [.int 1, .int 0, .ref (b 10), .ref (b 11), .ref (b 12), .ref (b 13), .ref (b 14), .ref (b 15), .ref (b 16), .ref (b 17), .ref (b 18)]))] := hD
  refine lv_iload_n hx hb dRG_bridge_44 rfl (lv_at hl 0 rfl) ?_
  refine W.widen (k := 0) (n := 0) (Nat.le_of_ble_eq_true rfl) (Nat.le_of_ble_eq_true rfl) ?_
  have hP9 : va_P (dC, dI) zCl [(x, .inr (0, [.ref (b 0), .ref (b 1), .ref (b 2), .ref (b 3), .ref (b 4), .ref (b 5), .int 0, .int 0, .int 0, .int 0, .int 0, .int 0, .int 0])), ((b 0), .inr (1, [.int 1, .int 0, .ref (b 10), .ref (b 11), .ref (b 12), .ref (b 13), .ref (b 14), .ref (b 15), .ref (b 16), .ref (b 17), .ref (b 18)]))] H := hP.sub [0, 1] rfl
  have hD9 : va_D A [(x, .inr (0, [.ref (b 0), .ref (b 1), .ref (b 2), .ref (b 3), .ref (b 4), .ref (b 5), .int 0, .int 0, .int 0, .int 0, .int 0, .int 0, .int 0])), ((b 0), .inr (1, [.int 1, .int 0, .ref (b 10), .ref (b 11), .ref (b 12), .ref (b 13), .ref (b 14), .ref (b 15), .ref (b 16), .ref (b 17), .ref (b 18)]))] := hD.sub [0, 1] (by decide) rfl
  exact W.iret (v := 0) hx hb hr (fun t ht hW => ⟨⟨0, (), rfl, rfl, by rw [ht]; exact hP9, hD9⟩, hS.F ht⟩) hS.2.2 dRG_bridge_45
set_option maxHeartbeats 4000000 in
set_option maxRecDepth 100000 in
theorem zp_firstFault (l : Launch) (dC : Nat → ClassId) (dI : Nat → Nat → Nat) (cI cZ cJ : ClassId) (a0 : Array Value) (s0 : State) (x : Nat) (b : Nat → Nat) (sz : Nat) : Met l yPL_firstFault [Cond.code yPL_firstFault bPL_firstFault 4 (some .int)] ({ frames := 0, cells := 0, slots := 0, locals := 0 } : Room) (zP zCl dC dI (zTY cI cZ cJ) a0 s0 [.ref (b 0), .ref (b 5)] sz [((b 0), .inr (1, [.int 0, .int 0, .ref (b 10), .ref (b 11), .ref (b 12), .ref (b 13), .ref (b 14), .ref (b 15), .ref (b 16), .ref (b 17), .ref (b 18)]))]) (zQp (fun r => r = 7) sz) 0 0 (zN sz) := by
  refine Met.ofW (cc := bPL_firstFault) (maxL := 4) (ret := (some .int)) (by decide) rfl ?_
  intro p e s m args below meth c s₁ B hml hv
  obtain ⟨rfl, hsz, hP, hK, hD0, hB⟩ := hv
  have hx := B.exec
  have hb := B.bytes
  have hr := B.returns
  have hown : s.vm.findClass "RingGuard$Plan" = some m.cls := findClass_of_methodNamed B.named
  have hlocks := B.notSynchronized
  subst hsz
  have hD := hD0
  have hA0 : ∀ q, zN s.heap.size q → s0.heap.size ≤ q := zA1 hB
  have hAD : ∀ q, zN s0.heap.size q → s0.heap.size ≤ q := fun _ h => h
  have hA : ∀ q : Nat, s.heap.size ≤ q → zN s.heap.size q := fun _ h => h
  have hS : va_S (zN s.heap.size) s.heap s.heap [] := va_S.rf
  have hP : va_P (dC, dI) zCl [((b 0), .inr (1, [.int 0, .int 0, .ref (b 10), .ref (b 11), .ref (b 12), .ref (b 13), .ref (b 14), .ref (b 15), .ref (b 16), .ref (b 17), .ref (b 18)]))] s.heap := hP
  have hl := lv_entry ([.ref (b 0), .ref (b 5)]) (n := 4) (Nat.le_of_ble_eq_true rfl)
  rw [lg_entry_eq]
  generalize (lg_sl ([.ref (b 0), .ref (b 5)]) ++ List.replicate (4 - (lg_sl ([.ref (b 0), .ref (b 5)])).length) Slot.unset).toArray = ls at hl ⊢
  have hl : lv_has ls 4 [(0, .ref (b 0)), (1, .ref (b 5))] := hl
  refine lv_aload_n hx hb dPL_firstFault_0 rfl (lv_at hl 0 rfl) ?_
  have hu1 : ∀ w ∈ u_ws "RingGuard$Plan" T_PL 11, w.before ([.ref (b 0), .ref (b 5)] : List Value).toArray s = true := hB.words zU_PL
  refine va_get (D := (dC, dI)) (ci := 1) (v := .int 0) (C := "RingGuard$Plan") (T := T_PL) (N := 11) hx hb hu1 zid hown hK hP 0 rfl rfl 1 (by decide) (hB.word (zm1 k1_37) rfl) (fun _ h9 => h9) rfl dPL_firstFault_1 ?_
  refine lv_if_eq (tgt := 14) hx hb dPL_firstFault_4 (by decide) (fun _ => ?_) (fun c9 => absurd (by decide) c9)
  refine lv_bipush (v := 7) hx hb dPL_firstFault_14 (by decide) ?_
  refine W.widen (k := 0) (n := 0) (Nat.le_of_ble_eq_true rfl) (Nat.le_of_ble_eq_true rfl) ?_
  exact W.iret (v := 7) hx hb hr (fun t ht hW => ⟨⟨7, (), rfl, rfl, trivial⟩, hS.F ht⟩) hS.2.2 dPL_firstFault_16
set_option maxHeartbeats 4000000 in
set_option maxRecDepth 100000 in
theorem zp_start (l : Launch) (dC : Nat → ClassId) (dI : Nat → Nat → Nat) (cI cZ cJ : ClassId) (a0 : Array Value) (s0 : State) (x : Nat) (b : Nat → Nat) (sz : Nat) : Met l yRG_start [Cond.code yRG_start bRG_start 2 (some .int)] ({ frames := 1, cells := 0, slots := 0, locals := 23 } : Room) (zP zCl dC dI (zTY cI cZ cJ) a0 s0 [.ref x] sz [(x, .inr (0, [.ref (b 0), .ref (b 1), .ref (b 2), .ref (b 3), .ref (b 4), .ref (b 5), .int 0, .int 0, .int 0, .int 0, .int 0, .int 0, .int 0])), ((b 0), .inr (1, [.int 0, .int 0, .ref (b 10), .ref (b 11), .ref (b 12), .ref (b 13), .ref (b 14), .ref (b 15), .ref (b 16), .ref (b 17), .ref (b 18)]))]) (zQp (fun r => r = 7) sz) 0 0 (zN sz) := by
  refine Met.ofW (cc := bRG_start) (maxL := 2) (ret := (some .int)) (by decide) rfl ?_
  intro p e s m args below meth c s₁ B hml hv
  obtain ⟨rfl, hsz, hP, hK, hD0, hB⟩ := hv
  have hx := B.exec
  have hb := B.bytes
  have hr := B.returns
  have hown : s.vm.findClass "RingGuard" = some m.cls := findClass_of_methodNamed B.named
  have hlocks := B.notSynchronized
  subst hsz
  have hD := hD0
  have hA0 : ∀ q, zN s.heap.size q → s0.heap.size ≤ q := zA1 hB
  have hAD : ∀ q, zN s0.heap.size q → s0.heap.size ≤ q := fun _ h => h
  have hA : ∀ q : Nat, s.heap.size ≤ q → zN s.heap.size q := fun _ h => h
  have hS : va_S (zN s.heap.size) s.heap s.heap [] := va_S.rf
  have hP : va_P (dC, dI) zCl [(x, .inr (0, [.ref (b 0), .ref (b 1), .ref (b 2), .ref (b 3), .ref (b 4), .ref (b 5), .int 0, .int 0, .int 0, .int 0, .int 0, .int 0, .int 0])), ((b 0), .inr (1, [.int 0, .int 0, .ref (b 10), .ref (b 11), .ref (b 12), .ref (b 13), .ref (b 14), .ref (b 15), .ref (b 16), .ref (b 17), .ref (b 18)]))] s.heap := hP
  have hl := lv_entry ([.ref x]) (n := 2) (Nat.le_of_ble_eq_true rfl)
  rw [lg_entry_eq]
  generalize (lg_sl ([.ref x]) ++ List.replicate (2 - (lg_sl ([.ref x])).length) Slot.unset).toArray = ls at hl ⊢
  have hl : lv_has ls 2 [(0, .ref x)] := hl
  refine lv_aload_n hx hb dRG_start_0 rfl (lv_at hl 0 rfl) ?_
  have hPc : va_P (dC, dI) zCl [(x, .inr (0, [.ref (b 0), .ref (b 1), .ref (b 2), .ref (b 3), .ref (b 4), .ref (b 5), .int 0, .int 0, .int 0, .int 0, .int 0, .int 0, .int 0]))] s.heap := hP.sub [0] rfl
  have hDc : va_D (zN s0.heap.size) [(x, .inr (0, [.ref (b 0), .ref (b 1), .ref (b 2), .ref (b 3), .ref (b 4), .ref (b 5), .int 0, .int 0, .int 0, .int 0, .int 0, .int 0, .int 0]))] := hD.sub [0] (by decide) rfl
  refine zcallo (va_runV (As := []) (rest := []) ⟨hx, hb, hml, hown, zno⟩ (zo_requireNotStarted l dC dI cI cZ cJ a0 s0 x b s.heap.size) (zcw 0 (hB.word (zm2 k2_70) rfl) (hB.word (zm1 k1_1) rfl) (hB.word (zm2 k2_67) rfl) (hB.word (zm2 k2_69) rfl) (k2_selects_private (by decide) (hB.word (zm1 k1_18) rfl) (hB.word (zm2 k2_68) rfl) (hB.word (zm2 k2_69) rfl)) rfl rfl (by decide +kernel) ⟨Nat.le_of_ble_eq_true rfl, Nat.le_of_ble_eq_true rfl⟩) ⟨zP_blind, va_recv hK hP (ci := 0) (q0 := 0) rfl rfl, zP_pre hPc hK hDc hAD (zB_on hB hA0 hS)⟩ rfl rfl hl.1 rfl (lv_room (Nat.le_of_ble_eq_true rfl)) dRG_start_1 ⟨Nat.le_of_ble_eq_true rfl, Nat.le_of_ble_eq_true rfl⟩) hS hA (fun H1 locs hz1 hk1 hS => ?_)
  have hP := zKeep hP hk1
  generalize H1 = H at hP hS ⊢
  have hP : va_P (dC, dI) zCl [(x, .inr (0, [.ref (b 0), .ref (b 1), .ref (b 2), .ref (b 3), .ref (b 4), .ref (b 5), .int 0, .int 0, .int 0, .int 0, .int 0, .int 0, .int 0])), ((b 0), .inr (1, [.int 0, .int 0, .ref (b 10), .ref (b 11), .ref (b 12), .ref (b 13), .ref (b 14), .ref (b 15), .ref (b 16), .ref (b 17), .ref (b 18)]))] H := hP
  refine lv_aload_n hx hb dRG_start_4 rfl (lv_at hl 0 rfl) ?_
  have hu0 : ∀ w ∈ u_ws "RingGuard" T_RG 13, w.before ([.ref x] : List Value).toArray s = true := hB.words zU_RG
  refine va_get (D := (dC, dI)) (ci := 0) (v := .ref (b 0)) (C := "RingGuard") (T := T_RG) (N := 13) hx hb hu0 zid hown hK hP 0 rfl rfl 0 (by decide) (hB.word (zm1 k1_235) rfl) (fun _ h9 => h9) rfl dRG_start_5 ?_
  refine lv_aload_n hx hb dRG_start_8 rfl (lv_at hl 0 rfl) ?_
  refine va_get (D := (dC, dI)) (ci := 0) (v := .ref (b 5)) (C := "RingGuard") (T := T_RG) (N := 13) hx hb hu0 zid hown hK hP 0 rfl rfl 5 (by decide) (hB.word (zm2 k2_0) rfl) (fun _ h9 => h9) rfl dRG_start_9 ?_
  have hPc : va_P (dC, dI) zCl [((b 0), .inr (1, [.int 0, .int 0, .ref (b 10), .ref (b 11), .ref (b 12), .ref (b 13), .ref (b 14), .ref (b 15), .ref (b 16), .ref (b 17), .ref (b 18)]))] H := hP.sub [1] rfl
  have hDc : va_D (zN s0.heap.size) [((b 0), .inr (1, [.int 0, .int 0, .ref (b 10), .ref (b 11), .ref (b 12), .ref (b 13), .ref (b 14), .ref (b 15), .ref (b 16), .ref (b 17), .ref (b 18)]))] := hD.sub [1] (by decide) rfl
  refine zcallp (va_runV (As := [.ref (b 5)]) (rest := []) ⟨hx, hb, hml, hown, zno⟩ (zp_firstFault l dC dI cI cZ cJ a0 s0 x b H.size) (zcw 1 (hB.word (zm2 k2_200) rfl) (hB.word (zm1 k1_2) rfl) (hB.word (zm2 k2_197) rfl) (hB.word (zm2 k2_198) rfl) (hB.word (zm2 k2_199) rfl) rfl rfl (by decide +kernel) ⟨Nat.le_of_ble_eq_true rfl, Nat.le_of_ble_eq_true rfl⟩) ⟨zP_blind, va_recv hK hP (ci := 1) (q0 := 1) rfl rfl, zP_pre hPc hK hDc hAD (zB_on hB hA0 hS)⟩ rfl rfl hl.1 rfl (lv_room (Nat.le_of_ble_eq_true rfl)) dRG_start_12 ⟨Nat.le_of_ble_eq_true rfl, Nat.le_of_ble_eq_true rfl⟩) hS hA (fun r2 H1 locs hr2 hz1 hk1 hS => ?_)
  have hP := zKeep hP hk1
  generalize H1 = H at hP hS ⊢
  have hP : va_P (dC, dI) zCl [(x, .inr (0, [.ref (b 0), .ref (b 1), .ref (b 2), .ref (b 3), .ref (b 4), .ref (b 5), .int 0, .int 0, .int 0, .int 0, .int 0, .int 0, .int 0])), ((b 0), .inr (1, [.int 0, .int 0, .ref (b 10), .ref (b 11), .ref (b 12), .ref (b 13), .ref (b 14), .ref (b 15), .ref (b 16), .ref (b 17), .ref (b 18)]))] H := hP
  subst hr2
  refine lv_istore_n (lv' := [(1, .int 7), (0, .ref x)]) hx hb dRG_start_15 rfl hl (by decide) rfl (fun ls hl => ?_)
  refine lv_iload_n hx hb dRG_start_16 rfl (lv_at hl 0 rfl) ?_
  refine lv_if_ne (tgt := 39) hx hb dRG_start_17 (by decide) (fun _ => ?_) (fun c9 => absurd c9 (by decide))
  refine lv_iload_n hx hb dRG_start_39 rfl (lv_at hl 0 rfl) ?_
  refine W.widen (k := 0) (n := 0) (Nat.le_of_ble_eq_true rfl) (Nat.le_of_ble_eq_true rfl) ?_
  exact W.iret (v := 7) hx hb hr (fun t ht hW => ⟨⟨7, (), rfl, rfl, trivial⟩, hS.F ht⟩) hS.2.2 dRG_start_40
set_option maxHeartbeats 4000000 in
set_option maxRecDepth 100000 in
theorem zp_visits (l : Launch) (dC : Nat → ClassId) (dI : Nat → Nat → Nat) (cI cZ cJ : ClassId) (a0 : Array Value) (s0 : State) (x : Nat) (b : Nat → Nat) (sz : Nat) : Met l yRG_visits [Cond.code yRG_visits bRG_visits 1 (some .int)] ({ frames := 0, cells := 0, slots := 0, locals := 0 } : Room) (zP zCl dC dI (zTY cI cZ cJ) a0 s0 [.ref x] sz [(x, .inr (0, [.ref (b 0), .ref (b 1), .ref (b 2), .ref (b 3), .ref (b 4), .ref (b 5), .int 0, .int 0, .int 0, .int 0, .int 0, .int 0, .int 0])), ((b 4), .inr (5, [.ref (b 0), .ref (b 3), .ref (b 2), .ref (b 20), .ref (b 21), .ref (b 22), .int 0, .ref (b 23), .int 0]))]) (zQp (fun r => r = 0) sz) 0 0 (zN sz) := by
  refine Met.ofW (cc := bRG_visits) (maxL := 1) (ret := (some .int)) (by decide) rfl ?_
  intro p e s m args below meth c s₁ B hml hv
  obtain ⟨rfl, hsz, hP, hK, hD0, hB⟩ := hv
  have hx := B.exec
  have hb := B.bytes
  have hr := B.returns
  have hown : s.vm.findClass "RingGuard" = some m.cls := findClass_of_methodNamed B.named
  have hlocks := B.notSynchronized
  subst hsz
  have hD := hD0
  have hA0 : ∀ q, zN s.heap.size q → s0.heap.size ≤ q := zA1 hB
  have hAD : ∀ q, zN s0.heap.size q → s0.heap.size ≤ q := fun _ h => h
  have hA : ∀ q : Nat, s.heap.size ≤ q → zN s.heap.size q := fun _ h => h
  have hS : va_S (zN s.heap.size) s.heap s.heap [] := va_S.rf
  have hP : va_P (dC, dI) zCl [(x, .inr (0, [.ref (b 0), .ref (b 1), .ref (b 2), .ref (b 3), .ref (b 4), .ref (b 5), .int 0, .int 0, .int 0, .int 0, .int 0, .int 0, .int 0])), ((b 4), .inr (5, [.ref (b 0), .ref (b 3), .ref (b 2), .ref (b 20), .ref (b 21), .ref (b 22), .int 0, .ref (b 23), .int 0]))] s.heap := hP
  have hl := lv_entry ([.ref x]) (n := 1) (Nat.le_of_ble_eq_true rfl)
  rw [lg_entry_eq]
  generalize (lg_sl ([.ref x]) ++ List.replicate (1 - (lg_sl ([.ref x])).length) Slot.unset).toArray = ls at hl ⊢
  have hl : lv_has ls 1 [(0, .ref x)] := hl
  refine lv_aload_n hx hb dRG_visits_0 rfl (lv_at hl 0 rfl) ?_
  have hu0 : ∀ w ∈ u_ws "RingGuard" T_RG 13, w.before ([.ref x] : List Value).toArray s = true := hB.words zU_RG
  refine va_get (D := (dC, dI)) (ci := 0) (v := .ref (b 4)) (C := "RingGuard") (T := T_RG) (N := 13) hx hb hu0 zid hown hK hP 0 rfl rfl 4 (by decide) (hB.word (zm1 k1_239) rfl) (fun _ h9 => h9) rfl dRG_visits_1 ?_
  have hu5 : ∀ w ∈ u_ws "RingGuard$Frames" T_FR 9, w.before ([.ref x] : List Value).toArray s = true := hB.words zU_FR
  refine va_get (D := (dC, dI)) (ci := 5) (v := .int 0) (C := "RingGuard$Frames") (T := T_FR) (N := 9) hx hb hu5 zid hown hK hP 1 rfl rfl 8 (by decide) (hB.word (zm1 k1_196) rfl) (fun _ h9 => h9) rfl dRG_visits_4 ?_
  refine W.widen (k := 0) (n := 0) (Nat.le_of_ble_eq_true rfl) (Nat.le_of_ble_eq_true rfl) ?_
  exact W.iret (v := 0) hx hb hr (fun t ht hW => ⟨⟨0, (), rfl, rfl, trivial⟩, hS.F ht⟩) hS.2.2 dRG_visits_7
set_option maxHeartbeats 4000000 in
set_option maxRecDepth 100000 in
theorem zp_lost (l : Launch) (dC : Nat → ClassId) (dI : Nat → Nat → Nat) (cI cZ cJ : ClassId) (a0 : Array Value) (s0 : State) (x : Nat) (b : Nat → Nat) (sz : Nat) : Met l yRG_lost [Cond.code yRG_lost bRG_lost 1 (some .int)] ({ frames := 0, cells := 0, slots := 0, locals := 0 } : Room) (zP zCl dC dI (zTY cI cZ cJ) a0 s0 [.ref x] sz [(x, .inr (0, [.ref (b 0), .ref (b 1), .ref (b 2), .ref (b 3), .ref (b 4), .ref (b 5), .int 0, .int 0, .int 0, .int 0, .int 0, .int 0, .int 0])), ((b 1), .inr (2, [.ref (b 24), .ref (b 25), .ref (b 26), .ref (b 27), .ref (b 28), .int 0]))]) (zQp (fun r => r = 0) sz) 0 0 (zN sz) := by
  refine Met.ofW (cc := bRG_lost) (maxL := 1) (ret := (some .int)) (by decide) rfl ?_
  intro p e s m args below meth c s₁ B hml hv
  obtain ⟨rfl, hsz, hP, hK, hD0, hB⟩ := hv
  have hx := B.exec
  have hb := B.bytes
  have hr := B.returns
  have hown : s.vm.findClass "RingGuard" = some m.cls := findClass_of_methodNamed B.named
  have hlocks := B.notSynchronized
  subst hsz
  have hD := hD0
  have hA0 : ∀ q, zN s.heap.size q → s0.heap.size ≤ q := zA1 hB
  have hAD : ∀ q, zN s0.heap.size q → s0.heap.size ≤ q := fun _ h => h
  have hA : ∀ q : Nat, s.heap.size ≤ q → zN s.heap.size q := fun _ h => h
  have hS : va_S (zN s.heap.size) s.heap s.heap [] := va_S.rf
  have hP : va_P (dC, dI) zCl [(x, .inr (0, [.ref (b 0), .ref (b 1), .ref (b 2), .ref (b 3), .ref (b 4), .ref (b 5), .int 0, .int 0, .int 0, .int 0, .int 0, .int 0, .int 0])), ((b 1), .inr (2, [.ref (b 24), .ref (b 25), .ref (b 26), .ref (b 27), .ref (b 28), .int 0]))] s.heap := hP
  have hl := lv_entry ([.ref x]) (n := 1) (Nat.le_of_ble_eq_true rfl)
  rw [lg_entry_eq]
  generalize (lg_sl ([.ref x]) ++ List.replicate (1 - (lg_sl ([.ref x])).length) Slot.unset).toArray = ls at hl ⊢
  have hl : lv_has ls 1 [(0, .ref x)] := hl
  refine lv_aload_n hx hb dRG_lost_0 rfl (lv_at hl 0 rfl) ?_
  have hu0 : ∀ w ∈ u_ws "RingGuard" T_RG 13, w.before ([.ref x] : List Value).toArray s = true := hB.words zU_RG
  refine va_get (D := (dC, dI)) (ci := 0) (v := .ref (b 1)) (C := "RingGuard") (T := T_RG) (N := 13) hx hb hu0 zid hown hK hP 0 rfl rfl 1 (by decide) (hB.word (zm1 k1_236) rfl) (fun _ h9 => h9) rfl dRG_lost_1 ?_
  have hu2 : ∀ w ∈ u_ws "RingGuard$Wires" T_WI 6, w.before ([.ref x] : List Value).toArray s = true := hB.words zU_WI
  refine va_get (D := (dC, dI)) (ci := 2) (v := .int 0) (C := "RingGuard$Wires") (T := T_WI) (N := 6) hx hb hu2 zid hown hK hP 1 rfl rfl 5 (by decide) (hB.word (zm1 k1_97) rfl) (fun _ h9 => h9) rfl dRG_lost_4 ?_
  refine W.widen (k := 0) (n := 0) (Nat.le_of_ble_eq_true rfl) (Nat.le_of_ble_eq_true rfl) ?_
  exact W.iret (v := 0) hx hb hr (fun t ht hW => ⟨⟨0, (), rfl, rfl, trivial⟩, hS.F ht⟩) hS.2.2 dRG_lost_7
set_option maxHeartbeats 4000000 in
set_option maxRecDepth 100000 in
theorem zp_circles (l : Launch) (dC : Nat → ClassId) (dI : Nat → Nat → Nat) (cI cZ cJ : ClassId) (a0 : Array Value) (s0 : State) (x : Nat) (b : Nat → Nat) (sz : Nat) : Met l yRG_circles [Cond.code yRG_circles bRG_circles 1 (some .int)] ({ frames := 0, cells := 0, slots := 0, locals := 0 } : Room) (zP zCl dC dI (zTY cI cZ cJ) a0 s0 [.ref x] sz [(x, .inr (0, [.ref (b 0), .ref (b 1), .ref (b 2), .ref (b 3), .ref (b 4), .ref (b 5), .int 0, .int 0, .int 0, .int 0, .int 0, .int 0, .int 0]))]) (zQp (fun r => r = 0) sz) 0 0 (zN sz) := by
  refine Met.ofW (cc := bRG_circles) (maxL := 1) (ret := (some .int)) (by decide) rfl ?_
  intro p e s m args below meth c s₁ B hml hv
  obtain ⟨rfl, hsz, hP, hK, hD0, hB⟩ := hv
  have hx := B.exec
  have hb := B.bytes
  have hr := B.returns
  have hown : s.vm.findClass "RingGuard" = some m.cls := findClass_of_methodNamed B.named
  have hlocks := B.notSynchronized
  subst hsz
  have hD := hD0
  have hA0 : ∀ q, zN s.heap.size q → s0.heap.size ≤ q := zA1 hB
  have hAD : ∀ q, zN s0.heap.size q → s0.heap.size ≤ q := fun _ h => h
  have hA : ∀ q : Nat, s.heap.size ≤ q → zN s.heap.size q := fun _ h => h
  have hS : va_S (zN s.heap.size) s.heap s.heap [] := va_S.rf
  have hP : va_P (dC, dI) zCl [(x, .inr (0, [.ref (b 0), .ref (b 1), .ref (b 2), .ref (b 3), .ref (b 4), .ref (b 5), .int 0, .int 0, .int 0, .int 0, .int 0, .int 0, .int 0]))] s.heap := hP
  have hl := lv_entry ([.ref x]) (n := 1) (Nat.le_of_ble_eq_true rfl)
  rw [lg_entry_eq]
  generalize (lg_sl ([.ref x]) ++ List.replicate (1 - (lg_sl ([.ref x])).length) Slot.unset).toArray = ls at hl ⊢
  have hl : lv_has ls 1 [(0, .ref x)] := hl
  refine lv_aload_n hx hb dRG_circles_0 rfl (lv_at hl 0 rfl) ?_
  have hu0 : ∀ w ∈ u_ws "RingGuard" T_RG 13, w.before ([.ref x] : List Value).toArray s = true := hB.words zU_RG
  refine va_get (D := (dC, dI)) (ci := 0) (v := .int 0) (C := "RingGuard") (T := T_RG) (N := 13) hx hb hu0 zid hown hK hP 0 rfl rfl 11 (by decide) (hB.word (zm2 k2_6) rfl) (fun _ h9 => h9) rfl dRG_circles_1 ?_
  refine W.widen (k := 0) (n := 0) (Nat.le_of_ble_eq_true rfl) (Nat.le_of_ble_eq_true rfl) ?_
  exact W.iret (v := 0) hx hb hr (fun t ht hW => ⟨⟨0, (), rfl, rfl, trivial⟩, hS.F ht⟩) hS.2.2 dRG_circles_4
set_option maxHeartbeats 4000000 in
set_option maxRecDepth 100000 in
theorem zp_apart (l : Launch) (dC : Nat → ClassId) (dI : Nat → Nat → Nat) (cI cZ cJ : ClassId) (a0 : Array Value) (s0 : State) (x : Nat) (b : Nat → Nat) (sz : Nat) : Met l yRG_apart [Cond.code yRG_apart bRG_apart 1 (some .int)] ({ frames := 0, cells := 0, slots := 0, locals := 0 } : Room) (zP zCl dC dI (zTY cI cZ cJ) a0 s0 [.ref x] sz [(x, .inr (0, [.ref (b 0), .ref (b 1), .ref (b 2), .ref (b 3), .ref (b 4), .ref (b 5), .int 0, .int 0, .int 0, .int 0, .int 0, .int 0, .int 0]))]) (zQp (fun r => r = 0) sz) 0 0 (zN sz) := by
  refine Met.ofW (cc := bRG_apart) (maxL := 1) (ret := (some .int)) (by decide) rfl ?_
  intro p e s m args below meth c s₁ B hml hv
  obtain ⟨rfl, hsz, hP, hK, hD0, hB⟩ := hv
  have hx := B.exec
  have hb := B.bytes
  have hr := B.returns
  have hown : s.vm.findClass "RingGuard" = some m.cls := findClass_of_methodNamed B.named
  have hlocks := B.notSynchronized
  subst hsz
  have hD := hD0
  have hA0 : ∀ q, zN s.heap.size q → s0.heap.size ≤ q := zA1 hB
  have hAD : ∀ q, zN s0.heap.size q → s0.heap.size ≤ q := fun _ h => h
  have hA : ∀ q : Nat, s.heap.size ≤ q → zN s.heap.size q := fun _ h => h
  have hS : va_S (zN s.heap.size) s.heap s.heap [] := va_S.rf
  have hP : va_P (dC, dI) zCl [(x, .inr (0, [.ref (b 0), .ref (b 1), .ref (b 2), .ref (b 3), .ref (b 4), .ref (b 5), .int 0, .int 0, .int 0, .int 0, .int 0, .int 0, .int 0]))] s.heap := hP
  have hl := lv_entry ([.ref x]) (n := 1) (Nat.le_of_ble_eq_true rfl)
  rw [lg_entry_eq]
  generalize (lg_sl ([.ref x]) ++ List.replicate (1 - (lg_sl ([.ref x])).length) Slot.unset).toArray = ls at hl ⊢
  have hl : lv_has ls 1 [(0, .ref x)] := hl
  refine lv_aload_n hx hb dRG_apart_0 rfl (lv_at hl 0 rfl) ?_
  have hu0 : ∀ w ∈ u_ws "RingGuard" T_RG 13, w.before ([.ref x] : List Value).toArray s = true := hB.words zU_RG
  refine va_get (D := (dC, dI)) (ci := 0) (v := .int 0) (C := "RingGuard") (T := T_RG) (N := 13) hx hb hu0 zid hown hK hP 0 rfl rfl 12 (by decide) (hB.word (zm2 k2_7) rfl) (fun _ h9 => h9) rfl dRG_apart_1 ?_
  refine W.widen (k := 0) (n := 0) (Nat.le_of_ble_eq_true rfl) (Nat.le_of_ble_eq_true rfl) ?_
  exact W.iret (v := 0) hx hb hr (fun t ht hW => ⟨⟨0, (), rfl, rfl, trivial⟩, hS.F ht⟩) hS.2.2 dRG_apart_4
end
section
set_option maxHeartbeats 4000000 in
set_option maxRecDepth 100000 in
theorem zh_link (l : Launch) (dC : Nat → ClassId) (dI : Nat → Nat → Nat) (cI cZ cJ : ClassId) (a0 : Array Value) (s0 : State) (hfl : l.flags = Jvm.pinnedFlags ++ [Jvm.noTraceFlag]) (x : Nat) (b : Nat → Nat) (o sz : Nat) (p0 p1 p2 : Int32) : Met l yLA_link [Cond.codeWith yLA_link bLA_link 6 (some .int) [(0, 12, 15, 19), (0, 12, 19, 13)]] ({ frames := 8, cells := 1, slots := 6, locals := 134 } : Room) (zP zCl dC dI (zTY cI cZ cJ) a0 s0 [.ref x, .int p0, .int p1, .int p2, .ref o] sz [(x, .inr (0, [.ref (b 0), .ref (b 1), .ref (b 2), .ref (b 3), .ref (b 4), .ref (b 5), .int 0, .int 0, .int 0, .int 0, .int 0, .int 0, .int 0])), ((b 0), .inr (1, [.int 0, .int 0, .ref (b 10), .ref (b 11), .ref (b 12), .ref (b 13), .ref (b 14), .ref (b 15), .ref (b 16), .ref (b 17), .ref (b 18)]))]) (zQp (fun r => r = 1) sz) 1 6 (zN sz) := by
  refine tq_ofWith (cc := bLA_link) (maxL := 6) (ret := (some .int)) (hs := [(0, 12, 15, 19), (0, 12, 19, 13)]) (by decide) rfl ?_
  intro p e s m args below meth c s₁ B hml htab hv
  obtain ⟨rfl, hsz, hP, hK, hD0, hB⟩ := hv
  have hx := B.exec
  have hb := B.bytes
  have hr := B.returns
  have hown : s.vm.findClass "RingGuardLaw" = some m.cls := findClass_of_methodNamed B.named
  have hlocks := B.notSynchronized
  subst hsz
  have hD := hD0
  have hA0 : ∀ q, zN s.heap.size q → s0.heap.size ≤ q := zA1 hB
  have hAD : ∀ q, zN s0.heap.size q → s0.heap.size ≤ q := fun _ h => h
  have hA : ∀ q : Nat, s.heap.size ≤ q → zN s.heap.size q := fun _ h => h
  have hS : va_S (zN s.heap.size) s.heap s.heap [] := va_S.rf
  have hP : va_P (dC, dI) zCl [(x, .inr (0, [.ref (b 0), .ref (b 1), .ref (b 2), .ref (b 3), .ref (b 4), .ref (b 5), .int 0, .int 0, .int 0, .int 0, .int 0, .int 0, .int 0])), ((b 0), .inr (1, [.int 0, .int 0, .ref (b 10), .ref (b 11), .ref (b 12), .ref (b 13), .ref (b 14), .ref (b 15), .ref (b 16), .ref (b 17), .ref (b 18)]))] s.heap := hP
  have hl := lv_entry ([.ref x, .int p0, .int p1, .int p2, .ref o]) (n := 6) (Nat.le_of_ble_eq_true rfl)
  rw [lg_entry_eq]
  generalize (lg_sl ([.ref x, .int p0, .int p1, .int p2, .ref o]) ++ List.replicate (6 - (lg_sl ([.ref x, .int p0, .int p1, .int p2, .ref o])).length) Slot.unset).toArray = ls at hl ⊢
  have hl : lv_has ls 6 [(0, .ref x), (1, .int p0), (2, .int p1), (3, .int p2), (4, .ref o)] := hl
  refine lv_aload hx hb dLA_link_0 (lv_at hl 4 rfl) ?_
  refine lv_iconst (v := 0) hx hb dLA_link_2 (by decide) ?_
  refine lv_aload_n hx hb dLA_link_3 rfl (lv_at hl 0 rfl) ?_
  refine lv_iload_n hx hb dLA_link_4 rfl (lv_at hl 1 rfl) ?_
  refine lv_iload_n hx hb dLA_link_5 rfl (lv_at hl 2 rfl) ?_
  refine lv_iload_n hx hb dLA_link_6 rfl (lv_at hl 3 rfl) ?_
  have hPc : va_P (dC, dI) zCl [(x, .inr (0, [.ref (b 0), .ref (b 1), .ref (b 2), .ref (b 3), .ref (b 4), .ref (b 5), .int 0, .int 0, .int 0, .int 0, .int 0, .int 0, .int 0])), ((b 0), .inr (1, [.int 0, .int 0, .ref (b 10), .ref (b 11), .ref (b 12), .ref (b 13), .ref (b 14), .ref (b 15), .ref (b 16), .ref (b 17), .ref (b 18)]))] s.heap := hP.sub [0, 1] rfl
  have hDc : va_D (zN s0.heap.size) [(x, .inr (0, [.ref (b 0), .ref (b 1), .ref (b 2), .ref (b 3), .ref (b 4), .ref (b 5), .int 0, .int 0, .int 0, .int 0, .int 0, .int 0, .int 0])), ((b 0), .inr (1, [.int 0, .int 0, .ref (b 10), .ref (b 11), .ref (b 12), .ref (b 13), .ref (b 14), .ref (b 15), .ref (b 16), .ref (b 17), .ref (b 18)]))] := hD.sub [0, 1] (by decide) rfl
  refine tq_catch (hp := 15) (tq_runV (As := [.int p0, .int p1, .int p2]) (rest := [.int 0, .ref o]) ⟨hx, hb, hml, hown, zno⟩ (zt_link l dC dI cI cZ cJ a0 s0 hfl x b s.heap.size p0 p1 p2) (zcw 3 (hB.word (zm2 k2_146) rfl) (hB.word (zm1 k1_1) rfl) (hB.word (zm2 k2_143) rfl) (hB.word (zm2 k2_144) rfl) (hB.word (zm2 k2_145) rfl) rfl rfl (by decide +kernel) ⟨Nat.le_of_ble_eq_true rfl, Nat.le_of_ble_eq_true rfl⟩) ⟨zP_blind, va_recv hK hP (ci := 0) (q0 := 0) rfl rfl, zP_pre hPc hK hDc hAD (zB_on hB hA0 hS)⟩ rfl rfl hl.1 rfl (lv_room (Nat.le_of_ble_eq_true rfl)) dLA_link_7 ⟨Nat.le_of_ble_eq_true rfl, Nat.le_of_ble_eq_true rfl⟩) hown htab (zsel1 (by decide) (by decide) (hB.word (zm2 k2_142) rfl) (zfit (args := #[]) (hB.word (zm2 k2_153) rfl))) hS (fun q h => hA q (Nat.le_trans hS.1 h)) (fun xq H1 locs hz1 hk1 hS => ?_)
  have hP := zKeep hP hk1
  generalize H1 = H at hP hS ⊢
  have hP : va_P (dC, dI) zCl [(x, .inr (0, [.ref (b 0), .ref (b 1), .ref (b 2), .ref (b 3), .ref (b 4), .ref (b 5), .int 0, .int 0, .int 0, .int 0, .int 0, .int 0, .int 0])), ((b 0), .inr (1, [.int 0, .int 0, .ref (b 10), .ref (b 11), .ref (b 12), .ref (b 13), .ref (b 14), .ref (b 15), .ref (b 16), .ref (b 17), .ref (b 18)]))] H := hP
  refine lv_astore (lv' := [(5, .ref xq), (0, .ref x), (1, .int p0), (2, .int p1), (3, .int p2), (4, .ref o)]) hx hb dLA_link_15 hl (by decide) rfl (fun ls hl => ?_)
  refine lv_iconst (v := 1) hx hb dLA_link_17 (by decide) ?_
  refine W.widen (k := 1) (n := 6) (Nat.le_of_ble_eq_true rfl) (Nat.le_of_ble_eq_true rfl) ?_
  exact W.iret (v := 1) hx hb hr (fun t ht hW => ⟨⟨1, (), rfl, rfl, trivial⟩, hS.F ht⟩) hS.2.2 dLA_link_18
set_option maxHeartbeats 4000000 in
set_option maxRecDepth 100000 in
theorem zh_owner (l : Launch) (dC : Nat → ClassId) (dI : Nat → Nat → Nat) (cI cZ cJ : ClassId) (a0 : Array Value) (s0 : State) (hfl : l.flags = Jvm.pinnedFlags ++ [Jvm.noTraceFlag]) (x : Nat) (b : Nat → Nat) (o sz : Nat) (p0 p1 p2 : Int32) : Met l yLA_owner [Cond.codeWith yLA_owner bLA_owner 5 (some .int) [(0, 7, 10, 19), (0, 7, 14, 13)]] ({ frames := 8, cells := 1, slots := 6, locals := 134 } : Room) (zP zCl dC dI (zTY cI cZ cJ) a0 s0 [.ref x, .int p0, .int p1, .int p2] sz [(x, .inr (0, [.ref (b 0), .ref (b 1), .ref (b 2), .ref (b 3), .ref (b 4), .ref (b 5), .int 0, .int 0, .int 0, .int 0, .int 0, .int 0, .int 0])), ((b 0), .inr (1, [.int 0, .int 0, .ref (b 10), .ref (b 11), .ref (b 12), .ref (b 13), .ref (b 14), .ref (b 15), .ref (b 16), .ref (b 17), .ref (b 18)]))]) (zQp (fun r => r = 1) sz) 1 6 (zN sz) := by
  refine tq_ofWith (cc := bLA_owner) (maxL := 5) (ret := (some .int)) (hs := [(0, 7, 10, 19), (0, 7, 14, 13)]) (by decide) rfl ?_
  intro p e s m args below meth c s₁ B hml htab hv
  obtain ⟨rfl, hsz, hP, hK, hD0, hB⟩ := hv
  have hx := B.exec
  have hb := B.bytes
  have hr := B.returns
  have hown : s.vm.findClass "RingGuardLaw" = some m.cls := findClass_of_methodNamed B.named
  have hlocks := B.notSynchronized
  subst hsz
  have hD := hD0
  have hA0 : ∀ q, zN s.heap.size q → s0.heap.size ≤ q := zA1 hB
  have hAD : ∀ q, zN s0.heap.size q → s0.heap.size ≤ q := fun _ h => h
  have hA : ∀ q : Nat, s.heap.size ≤ q → zN s.heap.size q := fun _ h => h
  have hS : va_S (zN s.heap.size) s.heap s.heap [] := va_S.rf
  have hP : va_P (dC, dI) zCl [(x, .inr (0, [.ref (b 0), .ref (b 1), .ref (b 2), .ref (b 3), .ref (b 4), .ref (b 5), .int 0, .int 0, .int 0, .int 0, .int 0, .int 0, .int 0])), ((b 0), .inr (1, [.int 0, .int 0, .ref (b 10), .ref (b 11), .ref (b 12), .ref (b 13), .ref (b 14), .ref (b 15), .ref (b 16), .ref (b 17), .ref (b 18)]))] s.heap := hP
  have hl := lv_entry ([.ref x, .int p0, .int p1, .int p2]) (n := 5) (Nat.le_of_ble_eq_true rfl)
  rw [lg_entry_eq]
  generalize (lg_sl ([.ref x, .int p0, .int p1, .int p2]) ++ List.replicate (5 - (lg_sl ([.ref x, .int p0, .int p1, .int p2])).length) Slot.unset).toArray = ls at hl ⊢
  have hl : lv_has ls 5 [(0, .ref x), (1, .int p0), (2, .int p1), (3, .int p2)] := hl
  refine lv_aload_n hx hb dLA_owner_0 rfl (lv_at hl 0 rfl) ?_
  refine lv_iload_n hx hb dLA_owner_1 rfl (lv_at hl 1 rfl) ?_
  refine lv_iload_n hx hb dLA_owner_2 rfl (lv_at hl 2 rfl) ?_
  refine lv_iload_n hx hb dLA_owner_3 rfl (lv_at hl 3 rfl) ?_
  have hPc : va_P (dC, dI) zCl [(x, .inr (0, [.ref (b 0), .ref (b 1), .ref (b 2), .ref (b 3), .ref (b 4), .ref (b 5), .int 0, .int 0, .int 0, .int 0, .int 0, .int 0, .int 0])), ((b 0), .inr (1, [.int 0, .int 0, .ref (b 10), .ref (b 11), .ref (b 12), .ref (b 13), .ref (b 14), .ref (b 15), .ref (b 16), .ref (b 17), .ref (b 18)]))] s.heap := hP.sub [0, 1] rfl
  have hDc : va_D (zN s0.heap.size) [(x, .inr (0, [.ref (b 0), .ref (b 1), .ref (b 2), .ref (b 3), .ref (b 4), .ref (b 5), .int 0, .int 0, .int 0, .int 0, .int 0, .int 0, .int 0])), ((b 0), .inr (1, [.int 0, .int 0, .ref (b 10), .ref (b 11), .ref (b 12), .ref (b 13), .ref (b 14), .ref (b 15), .ref (b 16), .ref (b 17), .ref (b 18)]))] := hD.sub [0, 1] (by decide) rfl
  refine tq_catch (hp := 10) (tq_runV (As := [.int p0, .int p1, .int p2]) (rest := []) ⟨hx, hb, hml, hown, zno⟩ (zt_owner l dC dI cI cZ cJ a0 s0 hfl x b s.heap.size p0 p1 p2) (zcw 3 (hB.word (zm2 k2_184) rfl) (hB.word (zm1 k1_1) rfl) (hB.word (zm2 k2_181) rfl) (hB.word (zm2 k2_182) rfl) (hB.word (zm2 k2_183) rfl) rfl rfl (by decide +kernel) ⟨Nat.le_of_ble_eq_true rfl, Nat.le_of_ble_eq_true rfl⟩) ⟨zP_blind, va_recv hK hP (ci := 0) (q0 := 0) rfl rfl, zP_pre hPc hK hDc hAD (zB_on hB hA0 hS)⟩ rfl rfl hl.1 rfl (lv_room (Nat.le_of_ble_eq_true rfl)) dLA_owner_4 ⟨Nat.le_of_ble_eq_true rfl, Nat.le_of_ble_eq_true rfl⟩) hown htab (zsel1 (by decide) (by decide) (hB.word (zm2 k2_142) rfl) (zfit (args := #[]) (hB.word (zm2 k2_153) rfl))) hS (fun q h => hA q (Nat.le_trans hS.1 h)) (fun xq H1 locs hz1 hk1 hS => ?_)
  have hP := zKeep hP hk1
  generalize H1 = H at hP hS ⊢
  have hP : va_P (dC, dI) zCl [(x, .inr (0, [.ref (b 0), .ref (b 1), .ref (b 2), .ref (b 3), .ref (b 4), .ref (b 5), .int 0, .int 0, .int 0, .int 0, .int 0, .int 0, .int 0])), ((b 0), .inr (1, [.int 0, .int 0, .ref (b 10), .ref (b 11), .ref (b 12), .ref (b 13), .ref (b 14), .ref (b 15), .ref (b 16), .ref (b 17), .ref (b 18)]))] H := hP
  refine lv_astore (lv' := [(4, .ref xq), (0, .ref x), (1, .int p0), (2, .int p1), (3, .int p2)]) hx hb dLA_owner_10 hl (by decide) rfl (fun ls hl => ?_)
  refine lv_iconst (v := 1) hx hb dLA_owner_12 (by decide) ?_
  refine W.widen (k := 1) (n := 6) (Nat.le_of_ble_eq_true rfl) (Nat.le_of_ble_eq_true rfl) ?_
  exact W.iret (v := 1) hx hb hr (fun t ht hW => ⟨⟨1, (), rfl, rfl, trivial⟩, hS.F ht⟩) hS.2.2 dLA_owner_13
set_option maxHeartbeats 4000000 in
set_option maxRecDepth 100000 in
theorem zh_fail (l : Launch) (dC : Nat → ClassId) (dI : Nat → Nat → Nat) (cI cZ cJ : ClassId) (a0 : Array Value) (s0 : State) (hfl : l.flags = Jvm.pinnedFlags ++ [Jvm.noTraceFlag]) (x : Nat) (b : Nat → Nat) (o sz : Nat) (p0 : Int32) : Met l yLA_fail [Cond.codeWith yLA_fail bLA_fail 4 (some .int) [(0, 16, 19, 19), (0, 16, 22, 13)]] ({ frames := 8, cells := 1, slots := 6, locals := 133 } : Room) (zP zCl dC dI (zTY cI cZ cJ) a0 s0 [.ref x, .int p0, .ref o] sz [(x, .inr (0, [.ref (b 0), .ref (b 1), .ref (b 2), .ref (b 3), .ref (b 4), .ref (b 5), .int 0, .int 0, .int 0, .int 0, .int 0, .int 0, .int 0])), ((b 0), .inr (1, [.int 0, .int 0, .ref (b 10), .ref (b 11), .ref (b 12), .ref (b 13), .ref (b 14), .ref (b 15), .ref (b 16), .ref (b 17), .ref (b 18)]))]) (zQp (fun r => r = 1) sz) 1 6 (zN sz) := by
  refine tq_ofWith (cc := bLA_fail) (maxL := 4) (ret := (some .int)) (hs := [(0, 16, 19, 19), (0, 16, 22, 13)]) (by decide) rfl ?_
  intro p e s m args below meth c s₁ B hml htab hv
  obtain ⟨rfl, hsz, hP, hK, hD0, hB⟩ := hv
  have hx := B.exec
  have hb := B.bytes
  have hr := B.returns
  have hown : s.vm.findClass "RingGuardLaw" = some m.cls := findClass_of_methodNamed B.named
  have hlocks := B.notSynchronized
  subst hsz
  have hD := hD0
  have hA0 : ∀ q, zN s.heap.size q → s0.heap.size ≤ q := zA1 hB
  have hAD : ∀ q, zN s0.heap.size q → s0.heap.size ≤ q := fun _ h => h
  have hA : ∀ q : Nat, s.heap.size ≤ q → zN s.heap.size q := fun _ h => h
  have hS : va_S (zN s.heap.size) s.heap s.heap [] := va_S.rf
  have hP : va_P (dC, dI) zCl [(x, .inr (0, [.ref (b 0), .ref (b 1), .ref (b 2), .ref (b 3), .ref (b 4), .ref (b 5), .int 0, .int 0, .int 0, .int 0, .int 0, .int 0, .int 0])), ((b 0), .inr (1, [.int 0, .int 0, .ref (b 10), .ref (b 11), .ref (b 12), .ref (b 13), .ref (b 14), .ref (b 15), .ref (b 16), .ref (b 17), .ref (b 18)]))] s.heap := hP
  have hl := lv_entry ([.ref x, .int p0, .ref o]) (n := 4) (Nat.le_of_ble_eq_true rfl)
  rw [lg_entry_eq]
  generalize (lg_sl ([.ref x, .int p0, .ref o]) ++ List.replicate (4 - (lg_sl ([.ref x, .int p0, .ref o])).length) Slot.unset).toArray = ls at hl ⊢
  have hl : lv_has ls 4 [(0, .ref x), (1, .int p0), (2, .ref o)] := hl
  refine lv_aload_n hx hb dLA_fail_0 rfl (lv_at hl 2 rfl) ?_
  refine lv_iconst (v := 0) hx hb dLA_fail_1 (by decide) ?_
  refine lv_aload_n hx hb dLA_fail_2 rfl (lv_at hl 0 rfl) ?_
  refine lv_iload_n hx hb dLA_fail_3 rfl (lv_at hl 1 rfl) ?_
  have hPc : va_P (dC, dI) zCl [(x, .inr (0, [.ref (b 0), .ref (b 1), .ref (b 2), .ref (b 3), .ref (b 4), .ref (b 5), .int 0, .int 0, .int 0, .int 0, .int 0, .int 0, .int 0])), ((b 0), .inr (1, [.int 0, .int 0, .ref (b 10), .ref (b 11), .ref (b 12), .ref (b 13), .ref (b 14), .ref (b 15), .ref (b 16), .ref (b 17), .ref (b 18)]))] s.heap := hP.sub [0, 1] rfl
  have hDc : va_D (zN s0.heap.size) [(x, .inr (0, [.ref (b 0), .ref (b 1), .ref (b 2), .ref (b 3), .ref (b 4), .ref (b 5), .int 0, .int 0, .int 0, .int 0, .int 0, .int 0, .int 0])), ((b 0), .inr (1, [.int 0, .int 0, .ref (b 10), .ref (b 11), .ref (b 12), .ref (b 13), .ref (b 14), .ref (b 15), .ref (b 16), .ref (b 17), .ref (b 18)]))] := hD.sub [0, 1] (by decide) rfl
  refine tq_catch (hp := 19) (tq_runV (As := [.int p0]) (rest := [.int 0, .ref o]) ⟨hx, hb, hml, hown, zno⟩ (zt_fail l dC dI cI cZ cJ a0 s0 hfl x b s.heap.size p0) (zcw 1 (hB.word (zm3 k3_54) rfl) (hB.word (zm1 k1_1) rfl) (hB.word (zm3 k3_51) rfl) (hB.word (zm3 k3_52) rfl) (hB.word (zm3 k3_53) rfl) rfl rfl (by decide +kernel) ⟨Nat.le_of_ble_eq_true rfl, Nat.le_of_ble_eq_true rfl⟩) ⟨zP_blind, va_recv hK hP (ci := 0) (q0 := 0) rfl rfl, zP_pre hPc hK hDc hAD (zB_on hB hA0 hS)⟩ rfl rfl hl.1 rfl (lv_room (Nat.le_of_ble_eq_true rfl)) dLA_fail_4 ⟨Nat.le_of_ble_eq_true rfl, Nat.le_of_ble_eq_true rfl⟩) hown htab (zsel1 (by decide) (by decide) (hB.word (zm2 k2_142) rfl) (zfit (args := #[]) (hB.word (zm2 k2_153) rfl))) hS (fun q h => hA q (Nat.le_trans hS.1 h)) (fun xq H1 locs hz1 hk1 hS => ?_)
  have hP := zKeep hP hk1
  generalize H1 = H at hP hS ⊢
  have hP : va_P (dC, dI) zCl [(x, .inr (0, [.ref (b 0), .ref (b 1), .ref (b 2), .ref (b 3), .ref (b 4), .ref (b 5), .int 0, .int 0, .int 0, .int 0, .int 0, .int 0, .int 0])), ((b 0), .inr (1, [.int 0, .int 0, .ref (b 10), .ref (b 11), .ref (b 12), .ref (b 13), .ref (b 14), .ref (b 15), .ref (b 16), .ref (b 17), .ref (b 18)]))] H := hP
  refine lv_astore_n (lv' := [(3, .ref xq), (0, .ref x), (1, .int p0), (2, .ref o)]) hx hb dLA_fail_19 rfl hl (by decide) rfl (fun ls hl => ?_)
  refine lv_iconst (v := 1) hx hb dLA_fail_20 (by decide) ?_
  refine W.widen (k := 1) (n := 6) (Nat.le_of_ble_eq_true rfl) (Nat.le_of_ble_eq_true rfl) ?_
  exact W.iret (v := 1) hx hb hr (fun t ht hW => ⟨⟨1, (), rfl, rfl, trivial⟩, hS.F ht⟩) hS.2.2 dLA_fail_21
set_option maxHeartbeats 4000000 in
set_option maxRecDepth 100000 in
theorem zh_heal (l : Launch) (dC : Nat → ClassId) (dI : Nat → Nat → Nat) (cI cZ cJ : ClassId) (a0 : Array Value) (s0 : State) (hfl : l.flags = Jvm.pinnedFlags ++ [Jvm.noTraceFlag]) (x : Nat) (b : Nat → Nat) (o sz : Nat) (p0 : Int32) : Met l yLA_heal [Cond.codeWith yLA_heal bLA_heal 4 (some .int) [(0, 16, 19, 19), (0, 16, 22, 13)]] ({ frames := 8, cells := 1, slots := 6, locals := 133 } : Room) (zP zCl dC dI (zTY cI cZ cJ) a0 s0 [.ref x, .int p0, .ref o] sz [(x, .inr (0, [.ref (b 0), .ref (b 1), .ref (b 2), .ref (b 3), .ref (b 4), .ref (b 5), .int 0, .int 0, .int 0, .int 0, .int 0, .int 0, .int 0])), ((b 0), .inr (1, [.int 0, .int 0, .ref (b 10), .ref (b 11), .ref (b 12), .ref (b 13), .ref (b 14), .ref (b 15), .ref (b 16), .ref (b 17), .ref (b 18)]))]) (zQp (fun r => r = 1) sz) 1 6 (zN sz) := by
  refine tq_ofWith (cc := bLA_heal) (maxL := 4) (ret := (some .int)) (hs := [(0, 16, 19, 19), (0, 16, 22, 13)]) (by decide) rfl ?_
  intro p e s m args below meth c s₁ B hml htab hv
  obtain ⟨rfl, hsz, hP, hK, hD0, hB⟩ := hv
  have hx := B.exec
  have hb := B.bytes
  have hr := B.returns
  have hown : s.vm.findClass "RingGuardLaw" = some m.cls := findClass_of_methodNamed B.named
  have hlocks := B.notSynchronized
  subst hsz
  have hD := hD0
  have hA0 : ∀ q, zN s.heap.size q → s0.heap.size ≤ q := zA1 hB
  have hAD : ∀ q, zN s0.heap.size q → s0.heap.size ≤ q := fun _ h => h
  have hA : ∀ q : Nat, s.heap.size ≤ q → zN s.heap.size q := fun _ h => h
  have hS : va_S (zN s.heap.size) s.heap s.heap [] := va_S.rf
  have hP : va_P (dC, dI) zCl [(x, .inr (0, [.ref (b 0), .ref (b 1), .ref (b 2), .ref (b 3), .ref (b 4), .ref (b 5), .int 0, .int 0, .int 0, .int 0, .int 0, .int 0, .int 0])), ((b 0), .inr (1, [.int 0, .int 0, .ref (b 10), .ref (b 11), .ref (b 12), .ref (b 13), .ref (b 14), .ref (b 15), .ref (b 16), .ref (b 17), .ref (b 18)]))] s.heap := hP
  have hl := lv_entry ([.ref x, .int p0, .ref o]) (n := 4) (Nat.le_of_ble_eq_true rfl)
  rw [lg_entry_eq]
  generalize (lg_sl ([.ref x, .int p0, .ref o]) ++ List.replicate (4 - (lg_sl ([.ref x, .int p0, .ref o])).length) Slot.unset).toArray = ls at hl ⊢
  have hl : lv_has ls 4 [(0, .ref x), (1, .int p0), (2, .ref o)] := hl
  refine lv_aload_n hx hb dLA_heal_0 rfl (lv_at hl 2 rfl) ?_
  refine lv_iconst (v := 0) hx hb dLA_heal_1 (by decide) ?_
  refine lv_aload_n hx hb dLA_heal_2 rfl (lv_at hl 0 rfl) ?_
  refine lv_iload_n hx hb dLA_heal_3 rfl (lv_at hl 1 rfl) ?_
  have hPc : va_P (dC, dI) zCl [(x, .inr (0, [.ref (b 0), .ref (b 1), .ref (b 2), .ref (b 3), .ref (b 4), .ref (b 5), .int 0, .int 0, .int 0, .int 0, .int 0, .int 0, .int 0])), ((b 0), .inr (1, [.int 0, .int 0, .ref (b 10), .ref (b 11), .ref (b 12), .ref (b 13), .ref (b 14), .ref (b 15), .ref (b 16), .ref (b 17), .ref (b 18)]))] s.heap := hP.sub [0, 1] rfl
  have hDc : va_D (zN s0.heap.size) [(x, .inr (0, [.ref (b 0), .ref (b 1), .ref (b 2), .ref (b 3), .ref (b 4), .ref (b 5), .int 0, .int 0, .int 0, .int 0, .int 0, .int 0, .int 0])), ((b 0), .inr (1, [.int 0, .int 0, .ref (b 10), .ref (b 11), .ref (b 12), .ref (b 13), .ref (b 14), .ref (b 15), .ref (b 16), .ref (b 17), .ref (b 18)]))] := hD.sub [0, 1] (by decide) rfl
  refine tq_catch (hp := 19) (tq_runV (As := [.int p0]) (rest := [.int 0, .ref o]) ⟨hx, hb, hml, hown, zno⟩ (zt_heal l dC dI cI cZ cJ a0 s0 hfl x b s.heap.size p0) (zcw 1 (hB.word (zm3 k3_100) rfl) (hB.word (zm1 k1_1) rfl) (hB.word (zm3 k3_97) rfl) (hB.word (zm3 k3_98) rfl) (hB.word (zm3 k3_99) rfl) rfl rfl (by decide +kernel) ⟨Nat.le_of_ble_eq_true rfl, Nat.le_of_ble_eq_true rfl⟩) ⟨zP_blind, va_recv hK hP (ci := 0) (q0 := 0) rfl rfl, zP_pre hPc hK hDc hAD (zB_on hB hA0 hS)⟩ rfl rfl hl.1 rfl (lv_room (Nat.le_of_ble_eq_true rfl)) dLA_heal_4 ⟨Nat.le_of_ble_eq_true rfl, Nat.le_of_ble_eq_true rfl⟩) hown htab (zsel1 (by decide) (by decide) (hB.word (zm2 k2_142) rfl) (zfit (args := #[]) (hB.word (zm2 k2_153) rfl))) hS (fun q h => hA q (Nat.le_trans hS.1 h)) (fun xq H1 locs hz1 hk1 hS => ?_)
  have hP := zKeep hP hk1
  generalize H1 = H at hP hS ⊢
  have hP : va_P (dC, dI) zCl [(x, .inr (0, [.ref (b 0), .ref (b 1), .ref (b 2), .ref (b 3), .ref (b 4), .ref (b 5), .int 0, .int 0, .int 0, .int 0, .int 0, .int 0, .int 0])), ((b 0), .inr (1, [.int 0, .int 0, .ref (b 10), .ref (b 11), .ref (b 12), .ref (b 13), .ref (b 14), .ref (b 15), .ref (b 16), .ref (b 17), .ref (b 18)]))] H := hP
  refine lv_astore_n (lv' := [(3, .ref xq), (0, .ref x), (1, .int p0), (2, .ref o)]) hx hb dLA_heal_19 rfl hl (by decide) rfl (fun ls hl => ?_)
  refine lv_iconst (v := 1) hx hb dLA_heal_20 (by decide) ?_
  refine W.widen (k := 1) (n := 6) (Nat.le_of_ble_eq_true rfl) (Nat.le_of_ble_eq_true rfl) ?_
  exact W.iret (v := 1) hx hb hr (fun t ht hW => ⟨⟨1, (), rfl, rfl, trivial⟩, hS.F ht⟩) hS.2.2 dLA_heal_21
set_option maxHeartbeats 4000000 in
set_option maxRecDepth 100000 in
theorem zh_lose (l : Launch) (dC : Nat → ClassId) (dI : Nat → Nat → Nat) (cI cZ cJ : ClassId) (a0 : Array Value) (s0 : State) (hfl : l.flags = Jvm.pinnedFlags ++ [Jvm.noTraceFlag]) (x : Nat) (b : Nat → Nat) (o sz : Nat) (p0 p1 : Int32) : Met l yLA_lose [Cond.codeWith yLA_lose bLA_lose 5 (some .int) [(0, 10, 13, 19), (0, 10, 17, 13)]] ({ frames := 8, cells := 1, slots := 6, locals := 134 } : Room) (zP zCl dC dI (zTY cI cZ cJ) a0 s0 [.ref x, .int p0, .int p1, .ref o] sz [(x, .inr (0, [.ref (b 0), .ref (b 1), .ref (b 2), .ref (b 3), .ref (b 4), .ref (b 5), .int 0, .int 0, .int 0, .int 0, .int 0, .int 0, .int 0])), ((b 0), .inr (1, [.int 0, .int 0, .ref (b 10), .ref (b 11), .ref (b 12), .ref (b 13), .ref (b 14), .ref (b 15), .ref (b 16), .ref (b 17), .ref (b 18)]))]) (zQp (fun r => r = 1) sz) 1 6 (zN sz) := by
  refine tq_ofWith (cc := bLA_lose) (maxL := 5) (ret := (some .int)) (hs := [(0, 10, 13, 19), (0, 10, 17, 13)]) (by decide) rfl ?_
  intro p e s m args below meth c s₁ B hml htab hv
  obtain ⟨rfl, hsz, hP, hK, hD0, hB⟩ := hv
  have hx := B.exec
  have hb := B.bytes
  have hr := B.returns
  have hown : s.vm.findClass "RingGuardLaw" = some m.cls := findClass_of_methodNamed B.named
  have hlocks := B.notSynchronized
  subst hsz
  have hD := hD0
  have hA0 : ∀ q, zN s.heap.size q → s0.heap.size ≤ q := zA1 hB
  have hAD : ∀ q, zN s0.heap.size q → s0.heap.size ≤ q := fun _ h => h
  have hA : ∀ q : Nat, s.heap.size ≤ q → zN s.heap.size q := fun _ h => h
  have hS : va_S (zN s.heap.size) s.heap s.heap [] := va_S.rf
  have hP : va_P (dC, dI) zCl [(x, .inr (0, [.ref (b 0), .ref (b 1), .ref (b 2), .ref (b 3), .ref (b 4), .ref (b 5), .int 0, .int 0, .int 0, .int 0, .int 0, .int 0, .int 0])), ((b 0), .inr (1, [.int 0, .int 0, .ref (b 10), .ref (b 11), .ref (b 12), .ref (b 13), .ref (b 14), .ref (b 15), .ref (b 16), .ref (b 17), .ref (b 18)]))] s.heap := hP
  have hl := lv_entry ([.ref x, .int p0, .int p1, .ref o]) (n := 5) (Nat.le_of_ble_eq_true rfl)
  rw [lg_entry_eq]
  generalize (lg_sl ([.ref x, .int p0, .int p1, .ref o]) ++ List.replicate (5 - (lg_sl ([.ref x, .int p0, .int p1, .ref o])).length) Slot.unset).toArray = ls at hl ⊢
  have hl : lv_has ls 5 [(0, .ref x), (1, .int p0), (2, .int p1), (3, .ref o)] := hl
  refine lv_aload_n hx hb dLA_lose_0 rfl (lv_at hl 3 rfl) ?_
  refine lv_iconst (v := 0) hx hb dLA_lose_1 (by decide) ?_
  refine lv_aload_n hx hb dLA_lose_2 rfl (lv_at hl 0 rfl) ?_
  refine lv_iload_n hx hb dLA_lose_3 rfl (lv_at hl 1 rfl) ?_
  refine lv_iload_n hx hb dLA_lose_4 rfl (lv_at hl 2 rfl) ?_
  have hPc : va_P (dC, dI) zCl [(x, .inr (0, [.ref (b 0), .ref (b 1), .ref (b 2), .ref (b 3), .ref (b 4), .ref (b 5), .int 0, .int 0, .int 0, .int 0, .int 0, .int 0, .int 0])), ((b 0), .inr (1, [.int 0, .int 0, .ref (b 10), .ref (b 11), .ref (b 12), .ref (b 13), .ref (b 14), .ref (b 15), .ref (b 16), .ref (b 17), .ref (b 18)]))] s.heap := hP.sub [0, 1] rfl
  have hDc : va_D (zN s0.heap.size) [(x, .inr (0, [.ref (b 0), .ref (b 1), .ref (b 2), .ref (b 3), .ref (b 4), .ref (b 5), .int 0, .int 0, .int 0, .int 0, .int 0, .int 0, .int 0])), ((b 0), .inr (1, [.int 0, .int 0, .ref (b 10), .ref (b 11), .ref (b 12), .ref (b 13), .ref (b 14), .ref (b 15), .ref (b 16), .ref (b 17), .ref (b 18)]))] := hD.sub [0, 1] (by decide) rfl
  refine tq_catch (hp := 13) (tq_runV (As := [.int p0, .int p1]) (rest := [.int 0, .ref o]) ⟨hx, hb, hml, hown, zno⟩ (zt_lose l dC dI cI cZ cJ a0 s0 hfl x b s.heap.size p0 p1) (zcw 2 (hB.word (zm3 k3_115) rfl) (hB.word (zm1 k1_1) rfl) (hB.word (zm3 k3_112) rfl) (hB.word (zm3 k3_113) rfl) (hB.word (zm3 k3_114) rfl) rfl rfl (by decide +kernel) ⟨Nat.le_of_ble_eq_true rfl, Nat.le_of_ble_eq_true rfl⟩) ⟨zP_blind, va_recv hK hP (ci := 0) (q0 := 0) rfl rfl, zP_pre hPc hK hDc hAD (zB_on hB hA0 hS)⟩ rfl rfl hl.1 rfl (lv_room (Nat.le_of_ble_eq_true rfl)) dLA_lose_5 ⟨Nat.le_of_ble_eq_true rfl, Nat.le_of_ble_eq_true rfl⟩) hown htab (zsel1 (by decide) (by decide) (hB.word (zm2 k2_142) rfl) (zfit (args := #[]) (hB.word (zm2 k2_153) rfl))) hS (fun q h => hA q (Nat.le_trans hS.1 h)) (fun xq H1 locs hz1 hk1 hS => ?_)
  have hP := zKeep hP hk1
  generalize H1 = H at hP hS ⊢
  have hP : va_P (dC, dI) zCl [(x, .inr (0, [.ref (b 0), .ref (b 1), .ref (b 2), .ref (b 3), .ref (b 4), .ref (b 5), .int 0, .int 0, .int 0, .int 0, .int 0, .int 0, .int 0])), ((b 0), .inr (1, [.int 0, .int 0, .ref (b 10), .ref (b 11), .ref (b 12), .ref (b 13), .ref (b 14), .ref (b 15), .ref (b 16), .ref (b 17), .ref (b 18)]))] H := hP
  refine lv_astore (lv' := [(4, .ref xq), (0, .ref x), (1, .int p0), (2, .int p1), (3, .ref o)]) hx hb dLA_lose_13 hl (by decide) rfl (fun ls hl => ?_)
  refine lv_iconst (v := 1) hx hb dLA_lose_15 (by decide) ?_
  refine W.widen (k := 1) (n := 6) (Nat.le_of_ble_eq_true rfl) (Nat.le_of_ble_eq_true rfl) ?_
  exact W.iret (v := 1) hx hb hr (fun t ht hW => ⟨⟨1, (), rfl, rfl, trivial⟩, hS.F ht⟩) hS.2.2 dLA_lose_16
set_option maxHeartbeats 4000000 in
set_option maxRecDepth 100000 in
theorem zh_clear (l : Launch) (dC : Nat → ClassId) (dI : Nat → Nat → Nat) (cI cZ cJ : ClassId) (a0 : Array Value) (s0 : State) (hfl : l.flags = Jvm.pinnedFlags ++ [Jvm.noTraceFlag]) (x : Nat) (b : Nat → Nat) (o sz : Nat) (p0 p1 : Int32) : Met l yLA_clear [Cond.codeWith yLA_clear bLA_clear 5 (some .int) [(0, 17, 20, 19), (0, 17, 24, 13)]] ({ frames := 8, cells := 1, slots := 6, locals := 134 } : Room) (zP zCl dC dI (zTY cI cZ cJ) a0 s0 [.ref x, .int p0, .int p1, .ref o] sz [(x, .inr (0, [.ref (b 0), .ref (b 1), .ref (b 2), .ref (b 3), .ref (b 4), .ref (b 5), .int 0, .int 0, .int 0, .int 0, .int 0, .int 0, .int 0])), ((b 0), .inr (1, [.int 0, .int 0, .ref (b 10), .ref (b 11), .ref (b 12), .ref (b 13), .ref (b 14), .ref (b 15), .ref (b 16), .ref (b 17), .ref (b 18)]))]) (zQp (fun r => r = 1) sz) 1 6 (zN sz) := by
  refine tq_ofWith (cc := bLA_clear) (maxL := 5) (ret := (some .int)) (hs := [(0, 17, 20, 19), (0, 17, 24, 13)]) (by decide) rfl ?_
  intro p e s m args below meth c s₁ B hml htab hv
  obtain ⟨rfl, hsz, hP, hK, hD0, hB⟩ := hv
  have hx := B.exec
  have hb := B.bytes
  have hr := B.returns
  have hown : s.vm.findClass "RingGuardLaw" = some m.cls := findClass_of_methodNamed B.named
  have hlocks := B.notSynchronized
  subst hsz
  have hD := hD0
  have hA0 : ∀ q, zN s.heap.size q → s0.heap.size ≤ q := zA1 hB
  have hAD : ∀ q, zN s0.heap.size q → s0.heap.size ≤ q := fun _ h => h
  have hA : ∀ q : Nat, s.heap.size ≤ q → zN s.heap.size q := fun _ h => h
  have hS : va_S (zN s.heap.size) s.heap s.heap [] := va_S.rf
  have hP : va_P (dC, dI) zCl [(x, .inr (0, [.ref (b 0), .ref (b 1), .ref (b 2), .ref (b 3), .ref (b 4), .ref (b 5), .int 0, .int 0, .int 0, .int 0, .int 0, .int 0, .int 0])), ((b 0), .inr (1, [.int 0, .int 0, .ref (b 10), .ref (b 11), .ref (b 12), .ref (b 13), .ref (b 14), .ref (b 15), .ref (b 16), .ref (b 17), .ref (b 18)]))] s.heap := hP
  have hl := lv_entry ([.ref x, .int p0, .int p1, .ref o]) (n := 5) (Nat.le_of_ble_eq_true rfl)
  rw [lg_entry_eq]
  generalize (lg_sl ([.ref x, .int p0, .int p1, .ref o]) ++ List.replicate (5 - (lg_sl ([.ref x, .int p0, .int p1, .ref o])).length) Slot.unset).toArray = ls at hl ⊢
  have hl : lv_has ls 5 [(0, .ref x), (1, .int p0), (2, .int p1), (3, .ref o)] := hl
  refine lv_aload_n hx hb dLA_clear_0 rfl (lv_at hl 3 rfl) ?_
  refine lv_iconst (v := 0) hx hb dLA_clear_1 (by decide) ?_
  refine lv_aload_n hx hb dLA_clear_2 rfl (lv_at hl 0 rfl) ?_
  refine lv_iload_n hx hb dLA_clear_3 rfl (lv_at hl 1 rfl) ?_
  refine lv_iload_n hx hb dLA_clear_4 rfl (lv_at hl 2 rfl) ?_
  have hPc : va_P (dC, dI) zCl [(x, .inr (0, [.ref (b 0), .ref (b 1), .ref (b 2), .ref (b 3), .ref (b 4), .ref (b 5), .int 0, .int 0, .int 0, .int 0, .int 0, .int 0, .int 0])), ((b 0), .inr (1, [.int 0, .int 0, .ref (b 10), .ref (b 11), .ref (b 12), .ref (b 13), .ref (b 14), .ref (b 15), .ref (b 16), .ref (b 17), .ref (b 18)]))] s.heap := hP.sub [0, 1] rfl
  have hDc : va_D (zN s0.heap.size) [(x, .inr (0, [.ref (b 0), .ref (b 1), .ref (b 2), .ref (b 3), .ref (b 4), .ref (b 5), .int 0, .int 0, .int 0, .int 0, .int 0, .int 0, .int 0])), ((b 0), .inr (1, [.int 0, .int 0, .ref (b 10), .ref (b 11), .ref (b 12), .ref (b 13), .ref (b 14), .ref (b 15), .ref (b 16), .ref (b 17), .ref (b 18)]))] := hD.sub [0, 1] (by decide) rfl
  refine tq_catch (hp := 20) (tq_runV (As := [.int p0, .int p1]) (rest := [.int 0, .ref o]) ⟨hx, hb, hml, hown, zno⟩ (zt_clear l dC dI cI cZ cJ a0 s0 hfl x b s.heap.size p0 p1) (zcw 2 (hB.word (zm3 k3_148) rfl) (hB.word (zm1 k1_1) rfl) (hB.word (zm3 k3_145) rfl) (hB.word (zm3 k3_146) rfl) (hB.word (zm3 k3_147) rfl) rfl rfl (by decide +kernel) ⟨Nat.le_of_ble_eq_true rfl, Nat.le_of_ble_eq_true rfl⟩) ⟨zP_blind, va_recv hK hP (ci := 0) (q0 := 0) rfl rfl, zP_pre hPc hK hDc hAD (zB_on hB hA0 hS)⟩ rfl rfl hl.1 rfl (lv_room (Nat.le_of_ble_eq_true rfl)) dLA_clear_5 ⟨Nat.le_of_ble_eq_true rfl, Nat.le_of_ble_eq_true rfl⟩) hown htab (zsel1 (by decide) (by decide) (hB.word (zm2 k2_142) rfl) (zfit (args := #[]) (hB.word (zm2 k2_153) rfl))) hS (fun q h => hA q (Nat.le_trans hS.1 h)) (fun xq H1 locs hz1 hk1 hS => ?_)
  have hP := zKeep hP hk1
  generalize H1 = H at hP hS ⊢
  have hP : va_P (dC, dI) zCl [(x, .inr (0, [.ref (b 0), .ref (b 1), .ref (b 2), .ref (b 3), .ref (b 4), .ref (b 5), .int 0, .int 0, .int 0, .int 0, .int 0, .int 0, .int 0])), ((b 0), .inr (1, [.int 0, .int 0, .ref (b 10), .ref (b 11), .ref (b 12), .ref (b 13), .ref (b 14), .ref (b 15), .ref (b 16), .ref (b 17), .ref (b 18)]))] H := hP
  refine lv_astore (lv' := [(4, .ref xq), (0, .ref x), (1, .int p0), (2, .int p1), (3, .ref o)]) hx hb dLA_clear_20 hl (by decide) rfl (fun ls hl => ?_)
  refine lv_iconst (v := 1) hx hb dLA_clear_22 (by decide) ?_
  refine W.widen (k := 1) (n := 6) (Nat.le_of_ble_eq_true rfl) (Nat.le_of_ble_eq_true rfl) ?_
  exact W.iret (v := 1) hx hb hr (fun t ht hW => ⟨⟨1, (), rfl, rfl, trivial⟩, hS.F ht⟩) hS.2.2 dLA_clear_23
set_option maxHeartbeats 4000000 in
set_option maxRecDepth 100000 in
theorem zh_ticks1 (l : Launch) (dC : Nat → ClassId) (dI : Nat → Nat → Nat) (cI cZ cJ : ClassId) (a0 : Array Value) (s0 : State) (hfl : l.flags = Jvm.pinnedFlags ++ [Jvm.noTraceFlag]) (x : Nat) (b : Nat → Nat) (o sz : Nat) (p0 : Int32) (hv : ¬ p0 < 1 → ¬ p0 ≤ 200) : Met l yLA_ticks [Cond.codeWith yLA_ticks bLA_ticks 4 (some .int) [(0, 9, 12, 19), (0, 9, 15, 13)]] ({ frames := 7, cells := 1, slots := 6, locals := 113 } : Room) (zP zCl dC dI (zTY cI cZ cJ) a0 s0 [.ref x, .int p0, .ref o] sz [(x, .inr (0, [.ref (b 0), .ref (b 1), .ref (b 2), .ref (b 3), .ref (b 4), .ref (b 5), .int 0, .int 0, .int 0, .int 0, .int 0, .int 0, .int 0]))]) (zQp (fun r => r = 1) sz) 1 6 (zN sz) := by
  refine tq_ofWith (cc := bLA_ticks) (maxL := 4) (ret := (some .int)) (hs := [(0, 9, 12, 19), (0, 9, 15, 13)]) (by decide) rfl ?_
  intro p e s m args below meth c s₁ B hml htab hv
  obtain ⟨rfl, hsz, hP, hK, hD0, hB⟩ := hv
  have hx := B.exec
  have hb := B.bytes
  have hr := B.returns
  have hown : s.vm.findClass "RingGuardLaw" = some m.cls := findClass_of_methodNamed B.named
  have hlocks := B.notSynchronized
  subst hsz
  have hD := hD0
  have hA0 : ∀ q, zN s.heap.size q → s0.heap.size ≤ q := zA1 hB
  have hAD : ∀ q, zN s0.heap.size q → s0.heap.size ≤ q := fun _ h => h
  have hA : ∀ q : Nat, s.heap.size ≤ q → zN s.heap.size q := fun _ h => h
  have hS : va_S (zN s.heap.size) s.heap s.heap [] := va_S.rf
  have hP : va_P (dC, dI) zCl [(x, .inr (0, [.ref (b 0), .ref (b 1), .ref (b 2), .ref (b 3), .ref (b 4), .ref (b 5), .int 0, .int 0, .int 0, .int 0, .int 0, .int 0, .int 0]))] s.heap := hP
  have hl := lv_entry ([.ref x, .int p0, .ref o]) (n := 4) (Nat.le_of_ble_eq_true rfl)
  rw [lg_entry_eq]
  generalize (lg_sl ([.ref x, .int p0, .ref o]) ++ List.replicate (4 - (lg_sl ([.ref x, .int p0, .ref o])).length) Slot.unset).toArray = ls at hl ⊢
  have hl : lv_has ls 4 [(0, .ref x), (1, .int p0), (2, .ref o)] := hl
  refine lv_aload_n hx hb dLA_ticks_0 rfl (lv_at hl 2 rfl) ?_
  refine lv_iconst (v := 0) hx hb dLA_ticks_1 (by decide) ?_
  refine lv_aload_n hx hb dLA_ticks_2 rfl (lv_at hl 0 rfl) ?_
  refine lv_iload_n hx hb dLA_ticks_3 rfl (lv_at hl 1 rfl) ?_
  have hPc : va_P (dC, dI) zCl [(x, .inr (0, [.ref (b 0), .ref (b 1), .ref (b 2), .ref (b 3), .ref (b 4), .ref (b 5), .int 0, .int 0, .int 0, .int 0, .int 0, .int 0, .int 0]))] s.heap := hP.sub [0] rfl
  have hDc : va_D (zN s0.heap.size) [(x, .inr (0, [.ref (b 0), .ref (b 1), .ref (b 2), .ref (b 3), .ref (b 4), .ref (b 5), .int 0, .int 0, .int 0, .int 0, .int 0, .int 0, .int 0]))] := hD.sub [0] (by decide) rfl
  refine tq_catch (hp := 12) (tq_runV (As := [.int p0]) (rest := [.int 0, .ref o]) ⟨hx, hb, hml, hown, zno⟩ (zt_ticks1 l dC dI cI cZ cJ a0 s0 hfl x b s.heap.size p0 hv) (zcw 1 (hB.word (zm3 k3_156) rfl) (hB.word (zm1 k1_1) rfl) (hB.word (zm3 k3_153) rfl) (hB.word (zm3 k3_154) rfl) (hB.word (zm3 k3_155) rfl) rfl rfl (by decide +kernel) ⟨Nat.le_of_ble_eq_true rfl, Nat.le_of_ble_eq_true rfl⟩) ⟨zP_blind, va_recv hK hP (ci := 0) (q0 := 0) rfl rfl, zP_pre hPc hK hDc hAD (zB_on hB hA0 hS)⟩ rfl rfl hl.1 rfl (lv_room (Nat.le_of_ble_eq_true rfl)) dLA_ticks_4 ⟨Nat.le_of_ble_eq_true rfl, Nat.le_of_ble_eq_true rfl⟩) hown htab (zsel1 (by decide) (by decide) (hB.word (zm2 k2_142) rfl) (zfit (args := #[]) (hB.word (zm2 k2_153) rfl))) hS (fun q h => hA q (Nat.le_trans hS.1 h)) (fun xq H1 locs hz1 hk1 hS => ?_)
  have hP := zKeep hP hk1
  generalize H1 = H at hP hS ⊢
  have hP : va_P (dC, dI) zCl [(x, .inr (0, [.ref (b 0), .ref (b 1), .ref (b 2), .ref (b 3), .ref (b 4), .ref (b 5), .int 0, .int 0, .int 0, .int 0, .int 0, .int 0, .int 0]))] H := hP
  refine lv_astore_n (lv' := [(3, .ref xq), (0, .ref x), (1, .int p0), (2, .ref o)]) hx hb dLA_ticks_12 rfl hl (by decide) rfl (fun ls hl => ?_)
  refine lv_iconst (v := 1) hx hb dLA_ticks_13 (by decide) ?_
  refine W.widen (k := 1) (n := 6) (Nat.le_of_ble_eq_true rfl) (Nat.le_of_ble_eq_true rfl) ?_
  exact W.iret (v := 1) hx hb hr (fun t ht hW => ⟨⟨1, (), rfl, rfl, trivial⟩, hS.F ht⟩) hS.2.2 dLA_ticks_14
set_option maxHeartbeats 4000000 in
set_option maxRecDepth 100000 in
theorem zh_ticks2 (l : Launch) (dC : Nat → ClassId) (dI : Nat → Nat → Nat) (cI cZ cJ : ClassId) (a0 : Array Value) (s0 : State) (hfl : l.flags = Jvm.pinnedFlags ++ [Jvm.noTraceFlag]) (x : Nat) (b : Nat → Nat) (o sz : Nat) (p0 : Int32) (h0 : ¬ p0 < 1) (h1 : p0 ≤ 200) : Met l yLA_ticks [Cond.codeWith yLA_ticks bLA_ticks 4 (some .int) [(0, 9, 12, 19), (0, 9, 15, 13)]] ({ frames := 8, cells := 1, slots := 6, locals := 133 } : Room) (zP zCl dC dI (zTY cI cZ cJ) a0 s0 [.ref x, .int p0, .ref o] sz [(x, .inr (0, [.ref (b 0), .ref (b 1), .ref (b 2), .ref (b 3), .ref (b 4), .ref (b 5), .int 0, .int 0, .int 0, .int 0, .int 0, .int 0, .int 0]))]) (zQp (fun r => r = 2) sz) 1 6 (zN sz) := by
  refine tq_ofWith (cc := bLA_ticks) (maxL := 4) (ret := (some .int)) (hs := [(0, 9, 12, 19), (0, 9, 15, 13)]) (by decide) rfl ?_
  intro p e s m args below meth c s₁ B hml htab hv
  obtain ⟨rfl, hsz, hP, hK, hD0, hB⟩ := hv
  have hx := B.exec
  have hb := B.bytes
  have hr := B.returns
  have hown : s.vm.findClass "RingGuardLaw" = some m.cls := findClass_of_methodNamed B.named
  have hlocks := B.notSynchronized
  subst hsz
  have hD := hD0
  have hA0 : ∀ q, zN s.heap.size q → s0.heap.size ≤ q := zA1 hB
  have hAD : ∀ q, zN s0.heap.size q → s0.heap.size ≤ q := fun _ h => h
  have hA : ∀ q : Nat, s.heap.size ≤ q → zN s.heap.size q := fun _ h => h
  have hS : va_S (zN s.heap.size) s.heap s.heap [] := va_S.rf
  have hP : va_P (dC, dI) zCl [(x, .inr (0, [.ref (b 0), .ref (b 1), .ref (b 2), .ref (b 3), .ref (b 4), .ref (b 5), .int 0, .int 0, .int 0, .int 0, .int 0, .int 0, .int 0]))] s.heap := hP
  have hl := lv_entry ([.ref x, .int p0, .ref o]) (n := 4) (Nat.le_of_ble_eq_true rfl)
  rw [lg_entry_eq]
  generalize (lg_sl ([.ref x, .int p0, .ref o]) ++ List.replicate (4 - (lg_sl ([.ref x, .int p0, .ref o])).length) Slot.unset).toArray = ls at hl ⊢
  have hl : lv_has ls 4 [(0, .ref x), (1, .int p0), (2, .ref o)] := hl
  refine lv_aload_n hx hb dLA_ticks_0 rfl (lv_at hl 2 rfl) ?_
  refine lv_iconst (v := 0) hx hb dLA_ticks_1 (by decide) ?_
  refine lv_aload_n hx hb dLA_ticks_2 rfl (lv_at hl 0 rfl) ?_
  refine lv_iload_n hx hb dLA_ticks_3 rfl (lv_at hl 1 rfl) ?_
  have hPc : va_P (dC, dI) zCl [(x, .inr (0, [.ref (b 0), .ref (b 1), .ref (b 2), .ref (b 3), .ref (b 4), .ref (b 5), .int 0, .int 0, .int 0, .int 0, .int 0, .int 0, .int 0]))] s.heap := hP.sub [0] rfl
  have hDc : va_D (zN s0.heap.size) [(x, .inr (0, [.ref (b 0), .ref (b 1), .ref (b 2), .ref (b 3), .ref (b 4), .ref (b 5), .int 0, .int 0, .int 0, .int 0, .int 0, .int 0, .int 0]))] := hD.sub [0] (by decide) rfl
  refine tq_catch (hp := 15) (tq_runV (As := [.int p0]) (rest := [.int 0, .ref o]) ⟨hx, hb, hml, hown, zno⟩ (zt_ticks2 l dC dI cI cZ cJ a0 s0 hfl x b s.heap.size p0 h0 h1) (zcw 1 (hB.word (zm3 k3_156) rfl) (hB.word (zm1 k1_1) rfl) (hB.word (zm3 k3_153) rfl) (hB.word (zm3 k3_154) rfl) (hB.word (zm3 k3_155) rfl) rfl rfl (by decide +kernel) ⟨Nat.le_of_ble_eq_true rfl, Nat.le_of_ble_eq_true rfl⟩) ⟨zP_blind, va_recv hK hP (ci := 0) (q0 := 0) rfl rfl, zP_pre hPc hK hDc hAD (zB_on hB hA0 hS)⟩ rfl rfl hl.1 rfl (lv_room (Nat.le_of_ble_eq_true rfl)) dLA_ticks_4 ⟨Nat.le_of_ble_eq_true rfl, Nat.le_of_ble_eq_true rfl⟩) hown htab (zsel2 (by decide) (by decide) (hB.word (zm2 k2_142) rfl) (znofit hB zno_ISE) (zsel1 (by decide) (by decide) (hB.word (zm2 k2_62) rfl) (zfit (args := #[]) (hB.word (zm2 k2_73) rfl)))) hS (fun q h => hA q (Nat.le_trans hS.1 h)) (fun xq H1 locs hz1 hk1 hS => ?_)
  have hP := zKeep hP hk1
  generalize H1 = H at hP hS ⊢
  have hP : va_P (dC, dI) zCl [(x, .inr (0, [.ref (b 0), .ref (b 1), .ref (b 2), .ref (b 3), .ref (b 4), .ref (b 5), .int 0, .int 0, .int 0, .int 0, .int 0, .int 0, .int 0]))] H := hP
  refine lv_astore_n (lv' := [(3, .ref xq), (0, .ref x), (1, .int p0), (2, .ref o)]) hx hb dLA_ticks_15 rfl hl (by decide) rfl (fun ls hl => ?_)
  refine lv_iconst (v := 2) hx hb dLA_ticks_16 (by decide) ?_
  refine W.widen (k := 1) (n := 6) (Nat.le_of_ble_eq_true rfl) (Nat.le_of_ble_eq_true rfl) ?_
  exact W.iret (v := 2) hx hb hr (fun t ht hW => ⟨⟨2, (), rfl, rfl, trivial⟩, hS.F ht⟩) hS.2.2 dLA_ticks_17
set_option maxHeartbeats 4000000 in
set_option maxRecDepth 100000 in
theorem zh_host (l : Launch) (dC : Nat → ClassId) (dI : Nat → Nat → Nat) (cI cZ cJ : ClassId) (a0 : Array Value) (s0 : State) (hfl : l.flags = Jvm.pinnedFlags ++ [Jvm.noTraceFlag]) (x : Nat) (b : Nat → Nat) (o sz : Nat) (p0 p1 : Int32) : Met l yLA_host [Cond.codeWith yLA_host bLA_host 5 (some .int) [(0, 10, 13, 19), (0, 10, 17, 13)]] ({ frames := 8, cells := 1, slots := 6, locals := 134 } : Room) (zP zCl dC dI (zTY cI cZ cJ) a0 s0 [.ref x, .int p0, .int p1, .ref o] sz [(x, .inr (0, [.ref (b 0), .ref (b 1), .ref (b 2), .ref (b 3), .ref (b 4), .ref (b 5), .int 0, .int 0, .int 0, .int 0, .int 0, .int 0, .int 0])), ((b 0), .inr (1, [.int 0, .int 0, .ref (b 10), .ref (b 11), .ref (b 12), .ref (b 13), .ref (b 14), .ref (b 15), .ref (b 16), .ref (b 17), .ref (b 18)]))]) (zQp (fun r => r = 1) sz) 1 6 (zN sz) := by
  refine tq_ofWith (cc := bLA_host) (maxL := 5) (ret := (some .int)) (hs := [(0, 10, 13, 19), (0, 10, 17, 13)]) (by decide) rfl ?_
  intro p e s m args below meth c s₁ B hml htab hv
  obtain ⟨rfl, hsz, hP, hK, hD0, hB⟩ := hv
  have hx := B.exec
  have hb := B.bytes
  have hr := B.returns
  have hown : s.vm.findClass "RingGuardLaw" = some m.cls := findClass_of_methodNamed B.named
  have hlocks := B.notSynchronized
  subst hsz
  have hD := hD0
  have hA0 : ∀ q, zN s.heap.size q → s0.heap.size ≤ q := zA1 hB
  have hAD : ∀ q, zN s0.heap.size q → s0.heap.size ≤ q := fun _ h => h
  have hA : ∀ q : Nat, s.heap.size ≤ q → zN s.heap.size q := fun _ h => h
  have hS : va_S (zN s.heap.size) s.heap s.heap [] := va_S.rf
  have hP : va_P (dC, dI) zCl [(x, .inr (0, [.ref (b 0), .ref (b 1), .ref (b 2), .ref (b 3), .ref (b 4), .ref (b 5), .int 0, .int 0, .int 0, .int 0, .int 0, .int 0, .int 0])), ((b 0), .inr (1, [.int 0, .int 0, .ref (b 10), .ref (b 11), .ref (b 12), .ref (b 13), .ref (b 14), .ref (b 15), .ref (b 16), .ref (b 17), .ref (b 18)]))] s.heap := hP
  have hl := lv_entry ([.ref x, .int p0, .int p1, .ref o]) (n := 5) (Nat.le_of_ble_eq_true rfl)
  rw [lg_entry_eq]
  generalize (lg_sl ([.ref x, .int p0, .int p1, .ref o]) ++ List.replicate (5 - (lg_sl ([.ref x, .int p0, .int p1, .ref o])).length) Slot.unset).toArray = ls at hl ⊢
  have hl : lv_has ls 5 [(0, .ref x), (1, .int p0), (2, .int p1), (3, .ref o)] := hl
  refine lv_aload_n hx hb dLA_host_0 rfl (lv_at hl 3 rfl) ?_
  refine lv_iconst (v := 0) hx hb dLA_host_1 (by decide) ?_
  refine lv_aload_n hx hb dLA_host_2 rfl (lv_at hl 0 rfl) ?_
  refine lv_iload_n hx hb dLA_host_3 rfl (lv_at hl 1 rfl) ?_
  refine lv_iload_n hx hb dLA_host_4 rfl (lv_at hl 2 rfl) ?_
  have hPc : va_P (dC, dI) zCl [(x, .inr (0, [.ref (b 0), .ref (b 1), .ref (b 2), .ref (b 3), .ref (b 4), .ref (b 5), .int 0, .int 0, .int 0, .int 0, .int 0, .int 0, .int 0])), ((b 0), .inr (1, [.int 0, .int 0, .ref (b 10), .ref (b 11), .ref (b 12), .ref (b 13), .ref (b 14), .ref (b 15), .ref (b 16), .ref (b 17), .ref (b 18)]))] s.heap := hP.sub [0, 1] rfl
  have hDc : va_D (zN s0.heap.size) [(x, .inr (0, [.ref (b 0), .ref (b 1), .ref (b 2), .ref (b 3), .ref (b 4), .ref (b 5), .int 0, .int 0, .int 0, .int 0, .int 0, .int 0, .int 0])), ((b 0), .inr (1, [.int 0, .int 0, .ref (b 10), .ref (b 11), .ref (b 12), .ref (b 13), .ref (b 14), .ref (b 15), .ref (b 16), .ref (b 17), .ref (b 18)]))] := hD.sub [0, 1] (by decide) rfl
  refine tq_catch (hp := 13) (tq_runV (As := [.int p0, .int p1]) (rest := [.int 0, .ref o]) ⟨hx, hb, hml, hown, zno⟩ (zt_host l dC dI cI cZ cJ a0 s0 hfl x b s.heap.size p0 p1) (zcw 2 (hB.word (zm4 k4_26) rfl) (hB.word (zm1 k1_1) rfl) (hB.word (zm4 k4_23) rfl) (hB.word (zm4 k4_24) rfl) (hB.word (zm4 k4_25) rfl) rfl rfl (by decide +kernel) ⟨Nat.le_of_ble_eq_true rfl, Nat.le_of_ble_eq_true rfl⟩) ⟨zP_blind, va_recv hK hP (ci := 0) (q0 := 0) rfl rfl, zP_pre hPc hK hDc hAD (zB_on hB hA0 hS)⟩ rfl rfl hl.1 rfl (lv_room (Nat.le_of_ble_eq_true rfl)) dLA_host_5 ⟨Nat.le_of_ble_eq_true rfl, Nat.le_of_ble_eq_true rfl⟩) hown htab (zsel1 (by decide) (by decide) (hB.word (zm2 k2_142) rfl) (zfit (args := #[]) (hB.word (zm2 k2_153) rfl))) hS (fun q h => hA q (Nat.le_trans hS.1 h)) (fun xq H1 locs hz1 hk1 hS => ?_)
  have hP := zKeep hP hk1
  generalize H1 = H at hP hS ⊢
  have hP : va_P (dC, dI) zCl [(x, .inr (0, [.ref (b 0), .ref (b 1), .ref (b 2), .ref (b 3), .ref (b 4), .ref (b 5), .int 0, .int 0, .int 0, .int 0, .int 0, .int 0, .int 0])), ((b 0), .inr (1, [.int 0, .int 0, .ref (b 10), .ref (b 11), .ref (b 12), .ref (b 13), .ref (b 14), .ref (b 15), .ref (b 16), .ref (b 17), .ref (b 18)]))] H := hP
  refine lv_astore (lv' := [(4, .ref xq), (0, .ref x), (1, .int p0), (2, .int p1), (3, .ref o)]) hx hb dLA_host_13 hl (by decide) rfl (fun ls hl => ?_)
  refine lv_iconst (v := 1) hx hb dLA_host_15 (by decide) ?_
  refine W.widen (k := 1) (n := 6) (Nat.le_of_ble_eq_true rfl) (Nat.le_of_ble_eq_true rfl) ?_
  exact W.iret (v := 1) hx hb hr (fun t ht hW => ⟨⟨1, (), rfl, rfl, trivial⟩, hS.F ht⟩) hS.2.2 dLA_host_16
set_option maxHeartbeats 4000000 in
set_option maxRecDepth 100000 in
theorem zh_send (l : Launch) (dC : Nat → ClassId) (dI : Nat → Nat → Nat) (cI cZ cJ : ClassId) (a0 : Array Value) (s0 : State) (hfl : l.flags = Jvm.pinnedFlags ++ [Jvm.noTraceFlag]) (x : Nat) (b : Nat → Nat) (o sz : Nat) (fh : Nat → Int32) (p0 p1 p2 : Int32) (hf : ∀ j, j < 64 → fh j = -1) : Met l yLA_send [Cond.codeWith yLA_send bLA_send 6 (some .int) [(0, 12, 15, 19), (0, 12, 19, 13)]] ({ frames := 8, cells := 1, slots := 6, locals := 134 } : Room) (zP zCl dC dI (zTY cI cZ cJ) a0 s0 [.ref x, .int p0, .int p1, .int p2, .ref o] sz [(x, .inr (0, [.ref (b 0), .ref (b 1), .ref (b 2), .ref (b 3), .ref (b 4), .ref (b 5), .int 0, .int 0, .int 0, .int 0, .int 0, .int 0, .int 0])), ((b 4), .inr (5, [.ref (b 0), .ref (b 3), .ref (b 2), .ref (b 20), .ref (b 21), .ref (b 22), .int 0, .ref (b 23), .int 0])), ((b 20), .inl (cI, 64, .inl fh))]) (zQp (fun r => r = 1) sz) 1 6 (zN sz) := by
  refine tq_ofWith (cc := bLA_send) (maxL := 6) (ret := (some .int)) (hs := [(0, 12, 15, 19), (0, 12, 19, 13)]) (by decide) rfl ?_
  intro p e s m args below meth c s₁ B hml htab hv
  obtain ⟨rfl, hsz, hP, hK, hD0, hB⟩ := hv
  have hx := B.exec
  have hb := B.bytes
  have hr := B.returns
  have hown : s.vm.findClass "RingGuardLaw" = some m.cls := findClass_of_methodNamed B.named
  have hlocks := B.notSynchronized
  subst hsz
  have hD := hD0
  have hA0 : ∀ q, zN s.heap.size q → s0.heap.size ≤ q := zA1 hB
  have hAD : ∀ q, zN s0.heap.size q → s0.heap.size ≤ q := fun _ h => h
  have hA : ∀ q : Nat, s.heap.size ≤ q → zN s.heap.size q := fun _ h => h
  have hS : va_S (zN s.heap.size) s.heap s.heap [] := va_S.rf
  have hP : va_P (dC, dI) zCl [(x, .inr (0, [.ref (b 0), .ref (b 1), .ref (b 2), .ref (b 3), .ref (b 4), .ref (b 5), .int 0, .int 0, .int 0, .int 0, .int 0, .int 0, .int 0])), ((b 4), .inr (5, [.ref (b 0), .ref (b 3), .ref (b 2), .ref (b 20), .ref (b 21), .ref (b 22), .int 0, .ref (b 23), .int 0])), ((b 20), .inl (cI, 64, .inl fh))] s.heap := hP
  have hl := lv_entry ([.ref x, .int p0, .int p1, .int p2, .ref o]) (n := 6) (Nat.le_of_ble_eq_true rfl)
  rw [lg_entry_eq]
  generalize (lg_sl ([.ref x, .int p0, .int p1, .int p2, .ref o]) ++ List.replicate (6 - (lg_sl ([.ref x, .int p0, .int p1, .int p2, .ref o])).length) Slot.unset).toArray = ls at hl ⊢
  have hl : lv_has ls 6 [(0, .ref x), (1, .int p0), (2, .int p1), (3, .int p2), (4, .ref o)] := hl
  refine lv_aload hx hb dLA_send_0 (lv_at hl 4 rfl) ?_
  refine lv_iconst (v := 0) hx hb dLA_send_2 (by decide) ?_
  refine lv_aload_n hx hb dLA_send_3 rfl (lv_at hl 0 rfl) ?_
  refine lv_iload_n hx hb dLA_send_4 rfl (lv_at hl 1 rfl) ?_
  refine lv_iload_n hx hb dLA_send_5 rfl (lv_at hl 2 rfl) ?_
  refine lv_iload_n hx hb dLA_send_6 rfl (lv_at hl 3 rfl) ?_
  have hPc : va_P (dC, dI) zCl [(x, .inr (0, [.ref (b 0), .ref (b 1), .ref (b 2), .ref (b 3), .ref (b 4), .ref (b 5), .int 0, .int 0, .int 0, .int 0, .int 0, .int 0, .int 0])), ((b 4), .inr (5, [.ref (b 0), .ref (b 3), .ref (b 2), .ref (b 20), .ref (b 21), .ref (b 22), .int 0, .ref (b 23), .int 0])), ((b 20), .inl (cI, 64, .inl fh))] s.heap := hP.sub [0, 1, 2] rfl
  have hDc : va_D (zN s0.heap.size) [(x, .inr (0, [.ref (b 0), .ref (b 1), .ref (b 2), .ref (b 3), .ref (b 4), .ref (b 5), .int 0, .int 0, .int 0, .int 0, .int 0, .int 0, .int 0])), ((b 4), .inr (5, [.ref (b 0), .ref (b 3), .ref (b 2), .ref (b 20), .ref (b 21), .ref (b 22), .int 0, .ref (b 23), .int 0])), ((b 20), .inl (cI, 64, .inl fh))] := hD.sub [0, 1, 2] (by decide) rfl
  refine tq_catch (hp := 15) (tq_runV (As := [.int p0, .int p1, .int p2]) (rest := [.int 0, .ref o]) ⟨hx, hb, hml, hown, zno⟩ (zt_send l dC dI cI cZ cJ a0 s0 hfl x b s.heap.size fh p0 p1 p2 hf) (zcw 3 (hB.word (zm4 k4_42) rfl) (hB.word (zm1 k1_1) rfl) (hB.word (zm4 k4_39) rfl) (hB.word (zm4 k4_40) rfl) (hB.word (zm4 k4_41) rfl) rfl rfl (by decide +kernel) ⟨Nat.le_of_ble_eq_true rfl, Nat.le_of_ble_eq_true rfl⟩) ⟨zP_blind, va_recv hK hP (ci := 0) (q0 := 0) rfl rfl, zP_pre hPc hK hDc hAD (zB_on hB hA0 hS)⟩ rfl rfl hl.1 rfl (lv_room (Nat.le_of_ble_eq_true rfl)) dLA_send_7 ⟨Nat.le_of_ble_eq_true rfl, Nat.le_of_ble_eq_true rfl⟩) hown htab (zsel1 (by decide) (by decide) (hB.word (zm2 k2_142) rfl) (zfit (args := #[]) (hB.word (zm2 k2_153) rfl))) hS (fun q h => hA q (Nat.le_trans hS.1 h)) (fun xq H1 locs hz1 hk1 hS => ?_)
  have hP := zKeep hP hk1
  generalize H1 = H at hP hS ⊢
  have hP : va_P (dC, dI) zCl [(x, .inr (0, [.ref (b 0), .ref (b 1), .ref (b 2), .ref (b 3), .ref (b 4), .ref (b 5), .int 0, .int 0, .int 0, .int 0, .int 0, .int 0, .int 0])), ((b 4), .inr (5, [.ref (b 0), .ref (b 3), .ref (b 2), .ref (b 20), .ref (b 21), .ref (b 22), .int 0, .ref (b 23), .int 0])), ((b 20), .inl (cI, 64, .inl fh))] H := hP
  refine lv_astore (lv' := [(5, .ref xq), (0, .ref x), (1, .int p0), (2, .int p1), (3, .int p2), (4, .ref o)]) hx hb dLA_send_15 hl (by decide) rfl (fun ls hl => ?_)
  refine lv_iconst (v := 1) hx hb dLA_send_17 (by decide) ?_
  refine W.widen (k := 1) (n := 6) (Nat.le_of_ble_eq_true rfl) (Nat.le_of_ble_eq_true rfl) ?_
  exact W.iret (v := 1) hx hb hr (fun t ht hW => ⟨⟨1, (), rfl, rfl, trivial⟩, hS.F ht⟩) hS.2.2 dLA_send_18
set_option maxHeartbeats 4000000 in
set_option maxRecDepth 100000 in
theorem zh_holds (l : Launch) (dC : Nat → ClassId) (dI : Nat → Nat → Nat) (cI cZ cJ : ClassId) (a0 : Array Value) (s0 : State) (hfl : l.flags = Jvm.pinnedFlags ++ [Jvm.noTraceFlag]) (x : Nat) (b : Nat → Nat) (o sz : Nat) (p0 p1 : Int32) : Met l yLA_holds [Cond.codeWith yLA_holds bLA_holds 5 (some .int) [(0, 10, 13, 19)]] ({ frames := 9, cells := 1, slots := 6, locals := 155 } : Room) (zP zCl dC dI (zTY cI cZ cJ) a0 s0 [.ref x, .int p0, .int p1, .ref o] sz [(x, .inr (0, [.ref (b 0), .ref (b 1), .ref (b 2), .ref (b 3), .ref (b 4), .ref (b 5), .int 0, .int 0, .int 0, .int 0, .int 0, .int 0, .int 0])), ((b 0), .inr (1, [.int 0, .int 0, .ref (b 10), .ref (b 11), .ref (b 12), .ref (b 13), .ref (b 14), .ref (b 15), .ref (b 16), .ref (b 17), .ref (b 18)]))]) (zQp (fun r => r = 1) sz) 1 6 (zN sz) := by
  refine tq_ofWith (cc := bLA_holds) (maxL := 5) (ret := (some .int)) (hs := [(0, 10, 13, 19)]) (by decide) rfl ?_
  intro p e s m args below meth c s₁ B hml htab hv
  obtain ⟨rfl, hsz, hP, hK, hD0, hB⟩ := hv
  have hx := B.exec
  have hb := B.bytes
  have hr := B.returns
  have hown : s.vm.findClass "RingGuardLaw" = some m.cls := findClass_of_methodNamed B.named
  have hlocks := B.notSynchronized
  subst hsz
  have hD := hD0
  have hA0 : ∀ q, zN s.heap.size q → s0.heap.size ≤ q := zA1 hB
  have hAD : ∀ q, zN s0.heap.size q → s0.heap.size ≤ q := fun _ h => h
  have hA : ∀ q : Nat, s.heap.size ≤ q → zN s.heap.size q := fun _ h => h
  have hS : va_S (zN s.heap.size) s.heap s.heap [] := va_S.rf
  have hP : va_P (dC, dI) zCl [(x, .inr (0, [.ref (b 0), .ref (b 1), .ref (b 2), .ref (b 3), .ref (b 4), .ref (b 5), .int 0, .int 0, .int 0, .int 0, .int 0, .int 0, .int 0])), ((b 0), .inr (1, [.int 0, .int 0, .ref (b 10), .ref (b 11), .ref (b 12), .ref (b 13), .ref (b 14), .ref (b 15), .ref (b 16), .ref (b 17), .ref (b 18)]))] s.heap := hP
  have hl := lv_entry ([.ref x, .int p0, .int p1, .ref o]) (n := 5) (Nat.le_of_ble_eq_true rfl)
  rw [lg_entry_eq]
  generalize (lg_sl ([.ref x, .int p0, .int p1, .ref o]) ++ List.replicate (5 - (lg_sl ([.ref x, .int p0, .int p1, .ref o])).length) Slot.unset).toArray = ls at hl ⊢
  have hl : lv_has ls 5 [(0, .ref x), (1, .int p0), (2, .int p1), (3, .ref o)] := hl
  refine lv_aload_n hx hb dLA_holds_0 rfl (lv_at hl 3 rfl) ?_
  refine lv_iconst (v := 0) hx hb dLA_holds_1 (by decide) ?_
  refine lv_aload_n hx hb dLA_holds_2 rfl (lv_at hl 0 rfl) ?_
  refine lv_iload_n hx hb dLA_holds_3 rfl (lv_at hl 1 rfl) ?_
  refine lv_iload_n hx hb dLA_holds_4 rfl (lv_at hl 2 rfl) ?_
  have hPc : va_P (dC, dI) zCl [(x, .inr (0, [.ref (b 0), .ref (b 1), .ref (b 2), .ref (b 3), .ref (b 4), .ref (b 5), .int 0, .int 0, .int 0, .int 0, .int 0, .int 0, .int 0])), ((b 0), .inr (1, [.int 0, .int 0, .ref (b 10), .ref (b 11), .ref (b 12), .ref (b 13), .ref (b 14), .ref (b 15), .ref (b 16), .ref (b 17), .ref (b 18)]))] s.heap := hP.sub [0, 1] rfl
  have hDc : va_D (zN s0.heap.size) [(x, .inr (0, [.ref (b 0), .ref (b 1), .ref (b 2), .ref (b 3), .ref (b 4), .ref (b 5), .int 0, .int 0, .int 0, .int 0, .int 0, .int 0, .int 0])), ((b 0), .inr (1, [.int 0, .int 0, .ref (b 10), .ref (b 11), .ref (b 12), .ref (b 13), .ref (b 14), .ref (b 15), .ref (b 16), .ref (b 17), .ref (b 18)]))] := hD.sub [0, 1] (by decide) rfl
  refine tq_catch (hp := 13) (tq_runV (As := [.int p0, .int p1]) (rest := [.int 0, .ref o]) ⟨hx, hb, hml, hown, zno⟩ (zt_holds l dC dI cI cZ cJ a0 s0 hfl x b s.heap.size p0 p1) (zcw 2 (hB.word (zm4 k4_84) rfl) (hB.word (zm1 k1_1) rfl) (hB.word (zm4 k4_81) rfl) (hB.word (zm4 k4_82) rfl) (hB.word (zm4 k4_83) rfl) rfl rfl (by decide +kernel) ⟨Nat.le_of_ble_eq_true rfl, Nat.le_of_ble_eq_true rfl⟩) ⟨zP_blind, va_recv hK hP (ci := 0) (q0 := 0) rfl rfl, zP_pre hPc hK hDc hAD (zB_on hB hA0 hS)⟩ rfl rfl hl.1 rfl (lv_room (Nat.le_of_ble_eq_true rfl)) dLA_holds_5 ⟨Nat.le_of_ble_eq_true rfl, Nat.le_of_ble_eq_true rfl⟩) hown htab (zsel1 (by decide) (by decide) (hB.word (zm2 k2_142) rfl) (zfit (args := #[]) (hB.word (zm2 k2_153) rfl))) hS (fun q h => hA q (Nat.le_trans hS.1 h)) (fun xq H1 locs hz1 hk1 hS => ?_)
  have hP := zKeep hP hk1
  generalize H1 = H at hP hS ⊢
  have hP : va_P (dC, dI) zCl [(x, .inr (0, [.ref (b 0), .ref (b 1), .ref (b 2), .ref (b 3), .ref (b 4), .ref (b 5), .int 0, .int 0, .int 0, .int 0, .int 0, .int 0, .int 0])), ((b 0), .inr (1, [.int 0, .int 0, .ref (b 10), .ref (b 11), .ref (b 12), .ref (b 13), .ref (b 14), .ref (b 15), .ref (b 16), .ref (b 17), .ref (b 18)]))] H := hP
  refine lv_astore (lv' := [(4, .ref xq), (0, .ref x), (1, .int p0), (2, .int p1), (3, .ref o)]) hx hb dLA_holds_13 hl (by decide) rfl (fun ls hl => ?_)
  refine lv_iconst (v := 1) hx hb dLA_holds_15 (by decide) ?_
  refine W.widen (k := 1) (n := 6) (Nat.le_of_ble_eq_true rfl) (Nat.le_of_ble_eq_true rfl) ?_
  exact W.iret (v := 1) hx hb hr (fun t ht hW => ⟨⟨1, (), rfl, rfl, trivial⟩, hS.F ht⟩) hS.2.2 dLA_holds_16
set_option maxHeartbeats 4000000 in
set_option maxRecDepth 100000 in
theorem zh_told (l : Launch) (dC : Nat → ClassId) (dI : Nat → Nat → Nat) (cI cZ cJ : ClassId) (a0 : Array Value) (s0 : State) (hfl : l.flags = Jvm.pinnedFlags ++ [Jvm.noTraceFlag]) (x : Nat) (b : Nat → Nat) (o sz : Nat) (p0 p1 p2 : Int32) : Met l yLA_told [Cond.codeWith yLA_told bLA_told 6 (some .int) [(0, 12, 15, 19)]] ({ frames := 8, cells := 1, slots := 6, locals := 134 } : Room) (zP zCl dC dI (zTY cI cZ cJ) a0 s0 [.ref x, .int p0, .int p1, .int p2, .ref o] sz [(x, .inr (0, [.ref (b 0), .ref (b 1), .ref (b 2), .ref (b 3), .ref (b 4), .ref (b 5), .int 0, .int 0, .int 0, .int 0, .int 0, .int 0, .int 0])), ((b 0), .inr (1, [.int 0, .int 0, .ref (b 10), .ref (b 11), .ref (b 12), .ref (b 13), .ref (b 14), .ref (b 15), .ref (b 16), .ref (b 17), .ref (b 18)]))]) (zQp (fun r => r = 1) sz) 1 6 (zN sz) := by
  refine tq_ofWith (cc := bLA_told) (maxL := 6) (ret := (some .int)) (hs := [(0, 12, 15, 19)]) (by decide) rfl ?_
  intro p e s m args below meth c s₁ B hml htab hv
  obtain ⟨rfl, hsz, hP, hK, hD0, hB⟩ := hv
  have hx := B.exec
  have hb := B.bytes
  have hr := B.returns
  have hown : s.vm.findClass "RingGuardLaw" = some m.cls := findClass_of_methodNamed B.named
  have hlocks := B.notSynchronized
  subst hsz
  have hD := hD0
  have hA0 : ∀ q, zN s.heap.size q → s0.heap.size ≤ q := zA1 hB
  have hAD : ∀ q, zN s0.heap.size q → s0.heap.size ≤ q := fun _ h => h
  have hA : ∀ q : Nat, s.heap.size ≤ q → zN s.heap.size q := fun _ h => h
  have hS : va_S (zN s.heap.size) s.heap s.heap [] := va_S.rf
  have hP : va_P (dC, dI) zCl [(x, .inr (0, [.ref (b 0), .ref (b 1), .ref (b 2), .ref (b 3), .ref (b 4), .ref (b 5), .int 0, .int 0, .int 0, .int 0, .int 0, .int 0, .int 0])), ((b 0), .inr (1, [.int 0, .int 0, .ref (b 10), .ref (b 11), .ref (b 12), .ref (b 13), .ref (b 14), .ref (b 15), .ref (b 16), .ref (b 17), .ref (b 18)]))] s.heap := hP
  have hl := lv_entry ([.ref x, .int p0, .int p1, .int p2, .ref o]) (n := 6) (Nat.le_of_ble_eq_true rfl)
  rw [lg_entry_eq]
  generalize (lg_sl ([.ref x, .int p0, .int p1, .int p2, .ref o]) ++ List.replicate (6 - (lg_sl ([.ref x, .int p0, .int p1, .int p2, .ref o])).length) Slot.unset).toArray = ls at hl ⊢
  have hl : lv_has ls 6 [(0, .ref x), (1, .int p0), (2, .int p1), (3, .int p2), (4, .ref o)] := hl
  refine lv_aload hx hb dLA_told_0 (lv_at hl 4 rfl) ?_
  refine lv_iconst (v := 0) hx hb dLA_told_2 (by decide) ?_
  refine lv_aload_n hx hb dLA_told_3 rfl (lv_at hl 0 rfl) ?_
  refine lv_iload_n hx hb dLA_told_4 rfl (lv_at hl 1 rfl) ?_
  refine lv_iload_n hx hb dLA_told_5 rfl (lv_at hl 2 rfl) ?_
  refine lv_iload_n hx hb dLA_told_6 rfl (lv_at hl 3 rfl) ?_
  have hPc : va_P (dC, dI) zCl [(x, .inr (0, [.ref (b 0), .ref (b 1), .ref (b 2), .ref (b 3), .ref (b 4), .ref (b 5), .int 0, .int 0, .int 0, .int 0, .int 0, .int 0, .int 0])), ((b 0), .inr (1, [.int 0, .int 0, .ref (b 10), .ref (b 11), .ref (b 12), .ref (b 13), .ref (b 14), .ref (b 15), .ref (b 16), .ref (b 17), .ref (b 18)]))] s.heap := hP.sub [0, 1] rfl
  have hDc : va_D (zN s0.heap.size) [(x, .inr (0, [.ref (b 0), .ref (b 1), .ref (b 2), .ref (b 3), .ref (b 4), .ref (b 5), .int 0, .int 0, .int 0, .int 0, .int 0, .int 0, .int 0])), ((b 0), .inr (1, [.int 0, .int 0, .ref (b 10), .ref (b 11), .ref (b 12), .ref (b 13), .ref (b 14), .ref (b 15), .ref (b 16), .ref (b 17), .ref (b 18)]))] := hD.sub [0, 1] (by decide) rfl
  refine tq_catch (hp := 15) (tq_runV (As := [.int p0, .int p1, .int p2]) (rest := [.int 0, .ref o]) ⟨hx, hb, hml, hown, zno⟩ (zt_told l dC dI cI cZ cJ a0 s0 hfl x b s.heap.size p0 p1 p2) (zcw 3 (hB.word (zm4 k4_91) rfl) (hB.word (zm1 k1_1) rfl) (hB.word (zm4 k4_88) rfl) (hB.word (zm4 k4_89) rfl) (hB.word (zm4 k4_90) rfl) rfl rfl (by decide +kernel) ⟨Nat.le_of_ble_eq_true rfl, Nat.le_of_ble_eq_true rfl⟩) ⟨zP_blind, va_recv hK hP (ci := 0) (q0 := 0) rfl rfl, zP_pre hPc hK hDc hAD (zB_on hB hA0 hS)⟩ rfl rfl hl.1 rfl (lv_room (Nat.le_of_ble_eq_true rfl)) dLA_told_7 ⟨Nat.le_of_ble_eq_true rfl, Nat.le_of_ble_eq_true rfl⟩) hown htab (zsel1 (by decide) (by decide) (hB.word (zm2 k2_142) rfl) (zfit (args := #[]) (hB.word (zm2 k2_153) rfl))) hS (fun q h => hA q (Nat.le_trans hS.1 h)) (fun xq H1 locs hz1 hk1 hS => ?_)
  have hP := zKeep hP hk1
  generalize H1 = H at hP hS ⊢
  have hP : va_P (dC, dI) zCl [(x, .inr (0, [.ref (b 0), .ref (b 1), .ref (b 2), .ref (b 3), .ref (b 4), .ref (b 5), .int 0, .int 0, .int 0, .int 0, .int 0, .int 0, .int 0])), ((b 0), .inr (1, [.int 0, .int 0, .ref (b 10), .ref (b 11), .ref (b 12), .ref (b 13), .ref (b 14), .ref (b 15), .ref (b 16), .ref (b 17), .ref (b 18)]))] H := hP
  refine lv_astore (lv' := [(5, .ref xq), (0, .ref x), (1, .int p0), (2, .int p1), (3, .int p2), (4, .ref o)]) hx hb dLA_told_15 hl (by decide) rfl (fun ls hl => ?_)
  refine lv_iconst (v := 1) hx hb dLA_told_17 (by decide) ?_
  refine W.widen (k := 1) (n := 6) (Nat.le_of_ble_eq_true rfl) (Nat.le_of_ble_eq_true rfl) ?_
  exact W.iret (v := 1) hx hb hr (fun t ht hW => ⟨⟨1, (), rfl, rfl, trivial⟩, hS.F ht⟩) hS.2.2 dLA_told_18
set_option maxHeartbeats 4000000 in
set_option maxRecDepth 100000 in
theorem zh_learned (l : Launch) (dC : Nat → ClassId) (dI : Nat → Nat → Nat) (cI cZ cJ : ClassId) (a0 : Array Value) (s0 : State) (hfl : l.flags = Jvm.pinnedFlags ++ [Jvm.noTraceFlag]) (x : Nat) (b : Nat → Nat) (o sz : Nat) (p0 p1 p2 : Int32) : Met l yLA_learned [Cond.codeWith yLA_learned bLA_learned 6 (some .int) [(0, 12, 15, 19)]] ({ frames := 8, cells := 1, slots := 6, locals := 134 } : Room) (zP zCl dC dI (zTY cI cZ cJ) a0 s0 [.ref x, .int p0, .int p1, .int p2, .ref o] sz [(x, .inr (0, [.ref (b 0), .ref (b 1), .ref (b 2), .ref (b 3), .ref (b 4), .ref (b 5), .int 0, .int 0, .int 0, .int 0, .int 0, .int 0, .int 0])), ((b 0), .inr (1, [.int 0, .int 0, .ref (b 10), .ref (b 11), .ref (b 12), .ref (b 13), .ref (b 14), .ref (b 15), .ref (b 16), .ref (b 17), .ref (b 18)]))]) (zQp (fun r => r = 1) sz) 1 6 (zN sz) := by
  refine tq_ofWith (cc := bLA_learned) (maxL := 6) (ret := (some .int)) (hs := [(0, 12, 15, 19)]) (by decide) rfl ?_
  intro p e s m args below meth c s₁ B hml htab hv
  obtain ⟨rfl, hsz, hP, hK, hD0, hB⟩ := hv
  have hx := B.exec
  have hb := B.bytes
  have hr := B.returns
  have hown : s.vm.findClass "RingGuardLaw" = some m.cls := findClass_of_methodNamed B.named
  have hlocks := B.notSynchronized
  subst hsz
  have hD := hD0
  have hA0 : ∀ q, zN s.heap.size q → s0.heap.size ≤ q := zA1 hB
  have hAD : ∀ q, zN s0.heap.size q → s0.heap.size ≤ q := fun _ h => h
  have hA : ∀ q : Nat, s.heap.size ≤ q → zN s.heap.size q := fun _ h => h
  have hS : va_S (zN s.heap.size) s.heap s.heap [] := va_S.rf
  have hP : va_P (dC, dI) zCl [(x, .inr (0, [.ref (b 0), .ref (b 1), .ref (b 2), .ref (b 3), .ref (b 4), .ref (b 5), .int 0, .int 0, .int 0, .int 0, .int 0, .int 0, .int 0])), ((b 0), .inr (1, [.int 0, .int 0, .ref (b 10), .ref (b 11), .ref (b 12), .ref (b 13), .ref (b 14), .ref (b 15), .ref (b 16), .ref (b 17), .ref (b 18)]))] s.heap := hP
  have hl := lv_entry ([.ref x, .int p0, .int p1, .int p2, .ref o]) (n := 6) (Nat.le_of_ble_eq_true rfl)
  rw [lg_entry_eq]
  generalize (lg_sl ([.ref x, .int p0, .int p1, .int p2, .ref o]) ++ List.replicate (6 - (lg_sl ([.ref x, .int p0, .int p1, .int p2, .ref o])).length) Slot.unset).toArray = ls at hl ⊢
  have hl : lv_has ls 6 [(0, .ref x), (1, .int p0), (2, .int p1), (3, .int p2), (4, .ref o)] := hl
  refine lv_aload hx hb dLA_learned_0 (lv_at hl 4 rfl) ?_
  refine lv_iconst (v := 0) hx hb dLA_learned_2 (by decide) ?_
  refine lv_aload_n hx hb dLA_learned_3 rfl (lv_at hl 0 rfl) ?_
  refine lv_iload_n hx hb dLA_learned_4 rfl (lv_at hl 1 rfl) ?_
  refine lv_iload_n hx hb dLA_learned_5 rfl (lv_at hl 2 rfl) ?_
  refine lv_iload_n hx hb dLA_learned_6 rfl (lv_at hl 3 rfl) ?_
  have hPc : va_P (dC, dI) zCl [(x, .inr (0, [.ref (b 0), .ref (b 1), .ref (b 2), .ref (b 3), .ref (b 4), .ref (b 5), .int 0, .int 0, .int 0, .int 0, .int 0, .int 0, .int 0])), ((b 0), .inr (1, [.int 0, .int 0, .ref (b 10), .ref (b 11), .ref (b 12), .ref (b 13), .ref (b 14), .ref (b 15), .ref (b 16), .ref (b 17), .ref (b 18)]))] s.heap := hP.sub [0, 1] rfl
  have hDc : va_D (zN s0.heap.size) [(x, .inr (0, [.ref (b 0), .ref (b 1), .ref (b 2), .ref (b 3), .ref (b 4), .ref (b 5), .int 0, .int 0, .int 0, .int 0, .int 0, .int 0, .int 0])), ((b 0), .inr (1, [.int 0, .int 0, .ref (b 10), .ref (b 11), .ref (b 12), .ref (b 13), .ref (b 14), .ref (b 15), .ref (b 16), .ref (b 17), .ref (b 18)]))] := hD.sub [0, 1] (by decide) rfl
  refine tq_catch (hp := 15) (tq_runV (As := [.int p0, .int p1, .int p2]) (rest := [.int 0, .ref o]) ⟨hx, hb, hml, hown, zno⟩ (zt_learned l dC dI cI cZ cJ a0 s0 hfl x b s.heap.size p0 p1 p2) (zcw 3 (hB.word (zm4 k4_99) rfl) (hB.word (zm1 k1_1) rfl) (hB.word (zm4 k4_96) rfl) (hB.word (zm4 k4_97) rfl) (hB.word (zm4 k4_98) rfl) rfl rfl (by decide +kernel) ⟨Nat.le_of_ble_eq_true rfl, Nat.le_of_ble_eq_true rfl⟩) ⟨zP_blind, va_recv hK hP (ci := 0) (q0 := 0) rfl rfl, zP_pre hPc hK hDc hAD (zB_on hB hA0 hS)⟩ rfl rfl hl.1 rfl (lv_room (Nat.le_of_ble_eq_true rfl)) dLA_learned_7 ⟨Nat.le_of_ble_eq_true rfl, Nat.le_of_ble_eq_true rfl⟩) hown htab (zsel1 (by decide) (by decide) (hB.word (zm2 k2_142) rfl) (zfit (args := #[]) (hB.word (zm2 k2_153) rfl))) hS (fun q h => hA q (Nat.le_trans hS.1 h)) (fun xq H1 locs hz1 hk1 hS => ?_)
  have hP := zKeep hP hk1
  generalize H1 = H at hP hS ⊢
  have hP : va_P (dC, dI) zCl [(x, .inr (0, [.ref (b 0), .ref (b 1), .ref (b 2), .ref (b 3), .ref (b 4), .ref (b 5), .int 0, .int 0, .int 0, .int 0, .int 0, .int 0, .int 0])), ((b 0), .inr (1, [.int 0, .int 0, .ref (b 10), .ref (b 11), .ref (b 12), .ref (b 13), .ref (b 14), .ref (b 15), .ref (b 16), .ref (b 17), .ref (b 18)]))] H := hP
  refine lv_astore (lv' := [(5, .ref xq), (0, .ref x), (1, .int p0), (2, .int p1), (3, .int p2), (4, .ref o)]) hx hb dLA_learned_15 hl (by decide) rfl (fun ls hl => ?_)
  refine lv_iconst (v := 1) hx hb dLA_learned_17 (by decide) ?_
  refine W.widen (k := 1) (n := 6) (Nat.le_of_ble_eq_true rfl) (Nat.le_of_ble_eq_true rfl) ?_
  exact W.iret (v := 1) hx hb hr (fun t ht hW => ⟨⟨1, (), rfl, rfl, trivial⟩, hS.F ht⟩) hS.2.2 dLA_learned_18
set_option maxHeartbeats 4000000 in
set_option maxRecDepth 100000 in
theorem zh_joined (l : Launch) (dC : Nat → ClassId) (dI : Nat → Nat → Nat) (cI cZ cJ : ClassId) (a0 : Array Value) (s0 : State) (hfl : l.flags = Jvm.pinnedFlags ++ [Jvm.noTraceFlag]) (x : Nat) (b : Nat → Nat) (o sz : Nat) (p0 p1 : Int32) : Met l yLA_joined [Cond.codeWith yLA_joined bLA_joined 5 (some .int) [(0, 17, 20, 19)]] ({ frames := 8, cells := 1, slots := 6, locals := 133 } : Room) (zP zCl dC dI (zTY cI cZ cJ) a0 s0 [.ref x, .int p0, .int p1, .ref o] sz [(x, .inr (0, [.ref (b 0), .ref (b 1), .ref (b 2), .ref (b 3), .ref (b 4), .ref (b 5), .int 0, .int 0, .int 0, .int 0, .int 0, .int 0, .int 0])), ((b 0), .inr (1, [.int 0, .int 0, .ref (b 10), .ref (b 11), .ref (b 12), .ref (b 13), .ref (b 14), .ref (b 15), .ref (b 16), .ref (b 17), .ref (b 18)]))]) (zQp (fun r => r = 1) sz) 1 6 (zN sz) := by
  refine tq_ofWith (cc := bLA_joined) (maxL := 5) (ret := (some .int)) (hs := [(0, 17, 20, 19)]) (by decide) rfl ?_
  intro p e s m args below meth c s₁ B hml htab hv
  obtain ⟨rfl, hsz, hP, hK, hD0, hB⟩ := hv
  have hx := B.exec
  have hb := B.bytes
  have hr := B.returns
  have hown : s.vm.findClass "RingGuardLaw" = some m.cls := findClass_of_methodNamed B.named
  have hlocks := B.notSynchronized
  subst hsz
  have hD := hD0
  have hA0 : ∀ q, zN s.heap.size q → s0.heap.size ≤ q := zA1 hB
  have hAD : ∀ q, zN s0.heap.size q → s0.heap.size ≤ q := fun _ h => h
  have hA : ∀ q : Nat, s.heap.size ≤ q → zN s.heap.size q := fun _ h => h
  have hS : va_S (zN s.heap.size) s.heap s.heap [] := va_S.rf
  have hP : va_P (dC, dI) zCl [(x, .inr (0, [.ref (b 0), .ref (b 1), .ref (b 2), .ref (b 3), .ref (b 4), .ref (b 5), .int 0, .int 0, .int 0, .int 0, .int 0, .int 0, .int 0])), ((b 0), .inr (1, [.int 0, .int 0, .ref (b 10), .ref (b 11), .ref (b 12), .ref (b 13), .ref (b 14), .ref (b 15), .ref (b 16), .ref (b 17), .ref (b 18)]))] s.heap := hP
  have hl := lv_entry ([.ref x, .int p0, .int p1, .ref o]) (n := 5) (Nat.le_of_ble_eq_true rfl)
  rw [lg_entry_eq]
  generalize (lg_sl ([.ref x, .int p0, .int p1, .ref o]) ++ List.replicate (5 - (lg_sl ([.ref x, .int p0, .int p1, .ref o])).length) Slot.unset).toArray = ls at hl ⊢
  have hl : lv_has ls 5 [(0, .ref x), (1, .int p0), (2, .int p1), (3, .ref o)] := hl
  refine lv_aload_n hx hb dLA_joined_0 rfl (lv_at hl 3 rfl) ?_
  refine lv_iconst (v := 0) hx hb dLA_joined_1 (by decide) ?_
  refine lv_aload_n hx hb dLA_joined_2 rfl (lv_at hl 0 rfl) ?_
  refine lv_iload_n hx hb dLA_joined_3 rfl (lv_at hl 1 rfl) ?_
  refine lv_iload_n hx hb dLA_joined_4 rfl (lv_at hl 2 rfl) ?_
  have hPc : va_P (dC, dI) zCl [(x, .inr (0, [.ref (b 0), .ref (b 1), .ref (b 2), .ref (b 3), .ref (b 4), .ref (b 5), .int 0, .int 0, .int 0, .int 0, .int 0, .int 0, .int 0])), ((b 0), .inr (1, [.int 0, .int 0, .ref (b 10), .ref (b 11), .ref (b 12), .ref (b 13), .ref (b 14), .ref (b 15), .ref (b 16), .ref (b 17), .ref (b 18)]))] s.heap := hP.sub [0, 1] rfl
  have hDc : va_D (zN s0.heap.size) [(x, .inr (0, [.ref (b 0), .ref (b 1), .ref (b 2), .ref (b 3), .ref (b 4), .ref (b 5), .int 0, .int 0, .int 0, .int 0, .int 0, .int 0, .int 0])), ((b 0), .inr (1, [.int 0, .int 0, .ref (b 10), .ref (b 11), .ref (b 12), .ref (b 13), .ref (b 14), .ref (b 15), .ref (b 16), .ref (b 17), .ref (b 18)]))] := hD.sub [0, 1] (by decide) rfl
  refine tq_catch (hp := 20) (tq_runV (As := [.int p0, .int p1]) (rest := [.int 0, .ref o]) ⟨hx, hb, hml, hown, zno⟩ (zt_joined l dC dI cI cZ cJ a0 s0 hfl x b s.heap.size p0 p1) (zcw 2 (hB.word (zm4 k4_107) rfl) (hB.word (zm1 k1_1) rfl) (hB.word (zm4 k4_104) rfl) (hB.word (zm4 k4_105) rfl) (hB.word (zm4 k4_106) rfl) rfl rfl (by decide +kernel) ⟨Nat.le_of_ble_eq_true rfl, Nat.le_of_ble_eq_true rfl⟩) ⟨zP_blind, va_recv hK hP (ci := 0) (q0 := 0) rfl rfl, zP_pre hPc hK hDc hAD (zB_on hB hA0 hS)⟩ rfl rfl hl.1 rfl (lv_room (Nat.le_of_ble_eq_true rfl)) dLA_joined_5 ⟨Nat.le_of_ble_eq_true rfl, Nat.le_of_ble_eq_true rfl⟩) hown htab (zsel1 (by decide) (by decide) (hB.word (zm2 k2_142) rfl) (zfit (args := #[]) (hB.word (zm2 k2_153) rfl))) hS (fun q h => hA q (Nat.le_trans hS.1 h)) (fun xq H1 locs hz1 hk1 hS => ?_)
  have hP := zKeep hP hk1
  generalize H1 = H at hP hS ⊢
  have hP : va_P (dC, dI) zCl [(x, .inr (0, [.ref (b 0), .ref (b 1), .ref (b 2), .ref (b 3), .ref (b 4), .ref (b 5), .int 0, .int 0, .int 0, .int 0, .int 0, .int 0, .int 0])), ((b 0), .inr (1, [.int 0, .int 0, .ref (b 10), .ref (b 11), .ref (b 12), .ref (b 13), .ref (b 14), .ref (b 15), .ref (b 16), .ref (b 17), .ref (b 18)]))] H := hP
  refine lv_astore (lv' := [(4, .ref xq), (0, .ref x), (1, .int p0), (2, .int p1), (3, .ref o)]) hx hb dLA_joined_20 hl (by decide) rfl (fun ls hl => ?_)
  refine lv_iconst (v := 1) hx hb dLA_joined_22 (by decide) ?_
  refine W.widen (k := 1) (n := 6) (Nat.le_of_ble_eq_true rfl) (Nat.le_of_ble_eq_true rfl) ?_
  exact W.iret (v := 1) hx hb hr (fun t ht hW => ⟨⟨1, (), rfl, rfl, trivial⟩, hS.F ht⟩) hS.2.2 dLA_joined_23
set_option maxHeartbeats 4000000 in
set_option maxRecDepth 100000 in
theorem zh_order (l : Launch) (dC : Nat → ClassId) (dI : Nat → Nat → Nat) (cI cZ cJ : ClassId) (a0 : Array Value) (s0 : State) (hfl : l.flags = Jvm.pinnedFlags ++ [Jvm.noTraceFlag]) (x : Nat) (b : Nat → Nat) (o sz : Nat) (p0 p1 p2 : Int32) : Met l yLA_order [Cond.codeWith yLA_order bLA_order 6 (some .int) [(0, 19, 22, 19), (0, 19, 26, 13)]] ({ frames := 9, cells := 1, slots := 6, locals := 157 } : Room) (zP zCl dC dI (zTY cI cZ cJ) a0 s0 [.ref x, .int p0, .int p1, .int p2, .ref o] sz [(x, .inr (0, [.ref (b 0), .ref (b 1), .ref (b 2), .ref (b 3), .ref (b 4), .ref (b 5), .int 0, .int 0, .int 0, .int 0, .int 0, .int 0, .int 0])), ((b 0), .inr (1, [.int 0, .int 0, .ref (b 10), .ref (b 11), .ref (b 12), .ref (b 13), .ref (b 14), .ref (b 15), .ref (b 16), .ref (b 17), .ref (b 18)]))]) (zQp (fun r => r = 1) sz) 1 6 (zN sz) := by
  refine tq_ofWith (cc := bLA_order) (maxL := 6) (ret := (some .int)) (hs := [(0, 19, 22, 19), (0, 19, 26, 13)]) (by decide) rfl ?_
  intro p e s m args below meth c s₁ B hml htab hv
  obtain ⟨rfl, hsz, hP, hK, hD0, hB⟩ := hv
  have hx := B.exec
  have hb := B.bytes
  have hr := B.returns
  have hown : s.vm.findClass "RingGuardLaw" = some m.cls := findClass_of_methodNamed B.named
  have hlocks := B.notSynchronized
  subst hsz
  have hD := hD0
  have hA0 : ∀ q, zN s.heap.size q → s0.heap.size ≤ q := zA1 hB
  have hAD : ∀ q, zN s0.heap.size q → s0.heap.size ≤ q := fun _ h => h
  have hA : ∀ q : Nat, s.heap.size ≤ q → zN s.heap.size q := fun _ h => h
  have hS : va_S (zN s.heap.size) s.heap s.heap [] := va_S.rf
  have hP : va_P (dC, dI) zCl [(x, .inr (0, [.ref (b 0), .ref (b 1), .ref (b 2), .ref (b 3), .ref (b 4), .ref (b 5), .int 0, .int 0, .int 0, .int 0, .int 0, .int 0, .int 0])), ((b 0), .inr (1, [.int 0, .int 0, .ref (b 10), .ref (b 11), .ref (b 12), .ref (b 13), .ref (b 14), .ref (b 15), .ref (b 16), .ref (b 17), .ref (b 18)]))] s.heap := hP
  have hl := lv_entry ([.ref x, .int p0, .int p1, .int p2, .ref o]) (n := 6) (Nat.le_of_ble_eq_true rfl)
  rw [lg_entry_eq]
  generalize (lg_sl ([.ref x, .int p0, .int p1, .int p2, .ref o]) ++ List.replicate (6 - (lg_sl ([.ref x, .int p0, .int p1, .int p2, .ref o])).length) Slot.unset).toArray = ls at hl ⊢
  have hl : lv_has ls 6 [(0, .ref x), (1, .int p0), (2, .int p1), (3, .int p2), (4, .ref o)] := hl
  refine lv_aload hx hb dLA_order_0 (lv_at hl 4 rfl) ?_
  refine lv_iconst (v := 0) hx hb dLA_order_2 (by decide) ?_
  refine lv_aload_n hx hb dLA_order_3 rfl (lv_at hl 0 rfl) ?_
  refine lv_iload_n hx hb dLA_order_4 rfl (lv_at hl 1 rfl) ?_
  refine lv_iload_n hx hb dLA_order_5 rfl (lv_at hl 2 rfl) ?_
  refine lv_iload_n hx hb dLA_order_6 rfl (lv_at hl 3 rfl) ?_
  have hPc : va_P (dC, dI) zCl [(x, .inr (0, [.ref (b 0), .ref (b 1), .ref (b 2), .ref (b 3), .ref (b 4), .ref (b 5), .int 0, .int 0, .int 0, .int 0, .int 0, .int 0, .int 0])), ((b 0), .inr (1, [.int 0, .int 0, .ref (b 10), .ref (b 11), .ref (b 12), .ref (b 13), .ref (b 14), .ref (b 15), .ref (b 16), .ref (b 17), .ref (b 18)]))] s.heap := hP.sub [0, 1] rfl
  have hDc : va_D (zN s0.heap.size) [(x, .inr (0, [.ref (b 0), .ref (b 1), .ref (b 2), .ref (b 3), .ref (b 4), .ref (b 5), .int 0, .int 0, .int 0, .int 0, .int 0, .int 0, .int 0])), ((b 0), .inr (1, [.int 0, .int 0, .ref (b 10), .ref (b 11), .ref (b 12), .ref (b 13), .ref (b 14), .ref (b 15), .ref (b 16), .ref (b 17), .ref (b 18)]))] := hD.sub [0, 1] (by decide) rfl
  refine tq_catch (hp := 22) (tq_runV (As := [.int p0, .int p1, .int p2]) (rest := [.int 0, .ref o]) ⟨hx, hb, hml, hown, zno⟩ (zt_order l dC dI cI cZ cJ a0 s0 hfl x b s.heap.size p0 p1 p2) (zcw 3 (hB.word (zm3 k3_123) rfl) (hB.word (zm1 k1_1) rfl) (hB.word (zm3 k3_120) rfl) (hB.word (zm3 k3_121) rfl) (hB.word (zm3 k3_122) rfl) rfl rfl (by decide +kernel) ⟨Nat.le_of_ble_eq_true rfl, Nat.le_of_ble_eq_true rfl⟩) ⟨zP_blind, va_recv hK hP (ci := 0) (q0 := 0) rfl rfl, zP_pre hPc hK hDc hAD (zB_on hB hA0 hS)⟩ rfl rfl hl.1 rfl (lv_room (Nat.le_of_ble_eq_true rfl)) dLA_order_7 ⟨Nat.le_of_ble_eq_true rfl, Nat.le_of_ble_eq_true rfl⟩) hown htab (zsel1 (by decide) (by decide) (hB.word (zm2 k2_142) rfl) (zfit (args := #[]) (hB.word (zm2 k2_153) rfl))) hS (fun q h => hA q (Nat.le_trans hS.1 h)) (fun xq H1 locs hz1 hk1 hS => ?_)
  have hP := zKeep hP hk1
  generalize H1 = H at hP hS ⊢
  have hP : va_P (dC, dI) zCl [(x, .inr (0, [.ref (b 0), .ref (b 1), .ref (b 2), .ref (b 3), .ref (b 4), .ref (b 5), .int 0, .int 0, .int 0, .int 0, .int 0, .int 0, .int 0])), ((b 0), .inr (1, [.int 0, .int 0, .ref (b 10), .ref (b 11), .ref (b 12), .ref (b 13), .ref (b 14), .ref (b 15), .ref (b 16), .ref (b 17), .ref (b 18)]))] H := hP
  refine lv_astore (lv' := [(5, .ref xq), (0, .ref x), (1, .int p0), (2, .int p1), (3, .int p2), (4, .ref o)]) hx hb dLA_order_22 hl (by decide) rfl (fun ls hl => ?_)
  refine lv_iconst (v := 1) hx hb dLA_order_24 (by decide) ?_
  refine W.widen (k := 1) (n := 6) (Nat.le_of_ble_eq_true rfl) (Nat.le_of_ble_eq_true rfl) ?_
  exact W.iret (v := 1) hx hb hr (fun t ht hW => ⟨⟨1, (), rfl, rfl, trivial⟩, hS.F ht⟩) hS.2.2 dLA_order_25
set_option maxHeartbeats 4000000 in
set_option maxRecDepth 100000 in
theorem zh_bridge (l : Launch) (dC : Nat → ClassId) (dI : Nat → Nat → Nat) (cI cZ cJ : ClassId) (a0 : Array Value) (s0 : State) (x : Nat) (b : Nat → Nat) (o sz : Nat) : Met l yLA_bridge [Cond.codeWith yLA_bridge bLA_bridge 3 (some .int) [(0, 8, 11, 13)]] ({ frames := 2, cells := 0, slots := 0, locals := 41 } : Room) (zP zCl dC dI (zTY cI cZ cJ) a0 s0 [.ref x, .ref o] sz [(x, .inr (0, [.ref (b 0), .ref (b 1), .ref (b 2), .ref (b 3), .ref (b 4), .ref (b 5), .int 0, .int 0, .int 0, .int 0, .int 0, .int 0, .int 0])), ((b 0), .inr (1, [.int 0, .int 0, .ref (b 10), .ref (b 11), .ref (b 12), .ref (b 13), .ref (b 14), .ref (b 15), .ref (b 16), .ref (b 17), .ref (b 18)])), (o, .inl (cJ, 1, .inr (.inl (fun _ => 0))))]) (zQi zCl dC dI (fun r => r = 0) [(x, .inr (0, [.ref (b 0), .ref (b 1), .ref (b 2), .ref (b 3), .ref (b 4), .ref (b 5), .int 0, .int 0, .int 0, .int 0, .int 0, .int 0, .int 0])), ((b 0), .inr (1, [.int 1, .int 0, .ref (b 10), .ref (b 11), .ref (b 12), .ref (b 13), .ref (b 14), .ref (b 15), .ref (b 16), .ref (b 17), .ref (b 18)])), (o, .inl (cJ, 1, .inr (.inl (vp_updL (fun _ => 0) (0 : Int32).toNatClampNeg 0))))] (va_A [(x, .inr (0, [.ref (b 0), .ref (b 1), .ref (b 2), .ref (b 3), .ref (b 4), .ref (b 5), .int 0, .int 0, .int 0, .int 0, .int 0, .int 0, .int 0])), ((b 0), .inr (1, [.int 0, .int 0, .ref (b 10), .ref (b 11), .ref (b 12), .ref (b 13), .ref (b 14), .ref (b 15), .ref (b 16), .ref (b 17), .ref (b 18)])), (o, .inl (cJ, 1, .inr (.inl (fun _ => 0))))] sz)) 0 0 (va_A [(x, .inr (0, [.ref (b 0), .ref (b 1), .ref (b 2), .ref (b 3), .ref (b 4), .ref (b 5), .int 0, .int 0, .int 0, .int 0, .int 0, .int 0, .int 0])), ((b 0), .inr (1, [.int 0, .int 0, .ref (b 10), .ref (b 11), .ref (b 12), .ref (b 13), .ref (b 14), .ref (b 15), .ref (b 16), .ref (b 17), .ref (b 18)])), (o, .inl (cJ, 1, .inr (.inl (fun _ => 0))))] sz) := by
  refine tq_ofWith (cc := bLA_bridge) (maxL := 3) (ret := (some .int)) (hs := [(0, 8, 11, 13)]) (by decide) rfl ?_
  intro p e s m args below meth c s₁ B hml htab hv
  obtain ⟨rfl, hsz, hP, hK, hD0, hB⟩ := hv
  have hx := B.exec
  have hb := B.bytes
  have hr := B.returns
  have hown : s.vm.findClass "RingGuardLaw" = some m.cls := findClass_of_methodNamed B.named
  have hlocks := B.notSynchronized
  subst hsz
  have hD := hD0.self (sz := s.heap.size)
  have hA0 := zA0 hD0 hB
  generalize hAe : va_A [(x, .inr (0, [.ref (b 0), .ref (b 1), .ref (b 2), .ref (b 3), .ref (b 4), .ref (b 5), .int 0, .int 0, .int 0, .int 0, .int 0, .int 0, .int 0])), ((b 0), .inr (1, [.int 0, .int 0, .ref (b 10), .ref (b 11), .ref (b 12), .ref (b 13), .ref (b 14), .ref (b 15), .ref (b 16), .ref (b 17), .ref (b 18)])), (o, .inl (cJ, 1, .inr (.inl (fun _ => 0))))] s.heap.size = A at hD hA0 ⊢
  have hAD := hA0
  have hA : ∀ q : Nat, s.heap.size ≤ q → A q := fun q h => by rw [← hAe]; exact Or.inr h
  have hS : va_S A s.heap s.heap [] := va_S.rf
  have hP : va_P (dC, dI) zCl [(x, .inr (0, [.ref (b 0), .ref (b 1), .ref (b 2), .ref (b 3), .ref (b 4), .ref (b 5), .int 0, .int 0, .int 0, .int 0, .int 0, .int 0, .int 0])), ((b 0), .inr (1, [.int 0, .int 0, .ref (b 10), .ref (b 11), .ref (b 12), .ref (b 13), .ref (b 14), .ref (b 15), .ref (b 16), .ref (b 17), .ref (b 18)])), (o, .inl (cJ, 1, .inr (.inl (fun _ => 0))))] s.heap := hP
  have hl := lv_entry ([.ref x, .ref o]) (n := 3) (Nat.le_of_ble_eq_true rfl)
  rw [lg_entry_eq]
  generalize (lg_sl ([.ref x, .ref o]) ++ List.replicate (3 - (lg_sl ([.ref x, .ref o])).length) Slot.unset).toArray = ls at hl ⊢
  have hl : lv_has ls 3 [(0, .ref x), (1, .ref o)] := hl
  refine lv_aload_n hx hb dLA_bridge_0 rfl (lv_at hl 1 rfl) ?_
  refine lv_iconst (v := 0) hx hb dLA_bridge_1 (by decide) ?_
  refine lv_aload_n hx hb dLA_bridge_2 rfl (lv_at hl 0 rfl) ?_
  have hPc : va_P (dC, dI) zCl [(x, .inr (0, [.ref (b 0), .ref (b 1), .ref (b 2), .ref (b 3), .ref (b 4), .ref (b 5), .int 0, .int 0, .int 0, .int 0, .int 0, .int 0, .int 0])), ((b 0), .inr (1, [.int 0, .int 0, .ref (b 10), .ref (b 11), .ref (b 12), .ref (b 13), .ref (b 14), .ref (b 15), .ref (b 16), .ref (b 17), .ref (b 18)]))] s.heap := hP.sub [0, 1] rfl
  have hDc : va_D A [(x, .inr (0, [.ref (b 0), .ref (b 1), .ref (b 2), .ref (b 3), .ref (b 4), .ref (b 5), .int 0, .int 0, .int 0, .int 0, .int 0, .int 0, .int 0])), ((b 0), .inr (1, [.int 0, .int 0, .ref (b 10), .ref (b 11), .ref (b 12), .ref (b 13), .ref (b 14), .ref (b 15), .ref (b 16), .ref (b 17), .ref (b 18)]))] := hD.sub [0, 1] (by decide) rfl
  refine zcalli (wr := [(o, .inl (cJ, 1, .inr (.inl (fun _ => 0))))]) (va_runV (As := []) (rest := [.int 0, .ref o]) ⟨hx, hb, hml, hown, zno⟩ (zi_bridge l dC dI cI cZ cJ a0 s0 x b s.heap.size) (zcw 0 (hB.word (zm2 k2_66) rfl) (hB.word (zm1 k1_1) rfl) (hB.word (zm2 k2_63) rfl) (hB.word (zm2 k2_64) rfl) (hB.word (zm2 k2_65) rfl) rfl rfl (by decide +kernel) ⟨Nat.le_of_ble_eq_true rfl, Nat.le_of_ble_eq_true rfl⟩) ⟨zP_blind, va_recv hK hP (ci := 0) (q0 := 0) rfl rfl, zP_pre hPc hK hDc hAD (zB_on hB hA0 hS)⟩ rfl rfl hl.1 rfl (lv_room (Nat.le_of_ble_eq_true rfl)) dLA_bridge_3 ⟨Nat.le_of_ble_eq_true rfl, Nat.le_of_ble_eq_true rfl⟩) hP hD hS hA [0, 1] [2] rfl rfl (by decide) (by decide) (fun r1 H1 locs hr1 hP hD hS => ?_)
  generalize H1 = H at hP hS ⊢
  have hP : va_P (dC, dI) zCl [(o, .inl (cJ, 1, .inr (.inl (fun _ => 0)))), (x, .inr (0, [.ref (b 0), .ref (b 1), .ref (b 2), .ref (b 3), .ref (b 4), .ref (b 5), .int 0, .int 0, .int 0, .int 0, .int 0, .int 0, .int 0])), ((b 0), .inr (1, [.int 1, .int 0, .ref (b 10), .ref (b 11), .ref (b 12), .ref (b 13), .ref (b 14), .ref (b 15), .ref (b 16), .ref (b 17), .ref (b 18)]))] H := hP
  have hD : va_D A [(o, .inl (cJ, 1, .inr (.inl (fun _ => 0)))), (x, .inr (0, [.ref (b 0), .ref (b 1), .ref (b 2), .ref (b 3), .ref (b 4), .ref (b 5), .int 0, .int 0, .int 0, .int 0, .int 0, .int 0, .int 0])), ((b 0), .inr (1, [.int 1, .int 0, .ref (b 10), .ref (b 11), .ref (b 12), .ref (b 13), .ref (b 14), .ref (b 15), .ref (b 16), .ref (b 17), .ref (b 18)]))] := hD
  subst hr1
  refine lv_i2l (v := 0) hx hb dLA_bridge_6 (by decide) ?_
  refine va_last hx hb hK hP hD hS 0 2 rfl rfl (i := 0) (by unfold vp_in; decide) dLA_bridge_7 (fun H locs hP hD hS => ?_)
  have hP : va_P (dC, dI) zCl [(o, .inl (cJ, 1, .inr (.inl (vp_updL (fun _ => 0) (0 : Int32).toNatClampNeg 0)))), (x, .inr (0, [.ref (b 0), .ref (b 1), .ref (b 2), .ref (b 3), .ref (b 4), .ref (b 5), .int 0, .int 0, .int 0, .int 0, .int 0, .int 0, .int 0])), ((b 0), .inr (1, [.int 1, .int 0, .ref (b 10), .ref (b 11), .ref (b 12), .ref (b 13), .ref (b 14), .ref (b 15), .ref (b 16), .ref (b 17), .ref (b 18)]))] H := hP
  have hD : va_D A [(o, .inl (cJ, 1, .inr (.inl (vp_updL (fun _ => 0) (0 : Int32).toNatClampNeg 0)))), (x, .inr (0, [.ref (b 0), .ref (b 1), .ref (b 2), .ref (b 3), .ref (b 4), .ref (b 5), .int 0, .int 0, .int 0, .int 0, .int 0, .int 0, .int 0])), ((b 0), .inr (1, [.int 1, .int 0, .ref (b 10), .ref (b 11), .ref (b 12), .ref (b 13), .ref (b 14), .ref (b 15), .ref (b 16), .ref (b 17), .ref (b 18)]))] := hD
  refine lv_goto (tgt := 14) hx hb dLA_bridge_8 (by decide) ?_
  refine lv_iconst (v := 0) hx hb dLA_bridge_14 (by decide) ?_
  refine W.widen (k := 0) (n := 0) (Nat.le_of_ble_eq_true rfl) (Nat.le_of_ble_eq_true rfl) ?_
  have hP9 : va_P (dC, dI) zCl [(x, .inr (0, [.ref (b 0), .ref (b 1), .ref (b 2), .ref (b 3), .ref (b 4), .ref (b 5), .int 0, .int 0, .int 0, .int 0, .int 0, .int 0, .int 0])), ((b 0), .inr (1, [.int 1, .int 0, .ref (b 10), .ref (b 11), .ref (b 12), .ref (b 13), .ref (b 14), .ref (b 15), .ref (b 16), .ref (b 17), .ref (b 18)])), (o, .inl (cJ, 1, .inr (.inl (vp_updL (fun _ => 0) (0 : Int32).toNatClampNeg 0))))] H := hP.sub [1, 2, 0] rfl
  have hD9 : va_D A [(x, .inr (0, [.ref (b 0), .ref (b 1), .ref (b 2), .ref (b 3), .ref (b 4), .ref (b 5), .int 0, .int 0, .int 0, .int 0, .int 0, .int 0, .int 0])), ((b 0), .inr (1, [.int 1, .int 0, .ref (b 10), .ref (b 11), .ref (b 12), .ref (b 13), .ref (b 14), .ref (b 15), .ref (b 16), .ref (b 17), .ref (b 18)])), (o, .inl (cJ, 1, .inr (.inl (vp_updL (fun _ => 0) (0 : Int32).toNatClampNeg 0))))] := hD.sub [1, 2, 0] (by decide) rfl
  exact W.iret (v := 0) hx hb hr (fun t ht hW => ⟨⟨0, (), rfl, rfl, by rw [ht]; exact hP9, hD9⟩, hS.F ht⟩) hS.2.2 dLA_bridge_15
set_option maxHeartbeats 4000000 in
set_option maxRecDepth 100000 in
theorem zh_start (l : Launch) (dC : Nat → ClassId) (dI : Nat → Nat → Nat) (cI cZ cJ : ClassId) (a0 : Array Value) (s0 : State) (x : Nat) (b : Nat → Nat) (o sz : Nat) : Met l yLA_start [Cond.codeWith yLA_start bLA_start 3 (some .int) [(0, 8, 11, 13)]] ({ frames := 2, cells := 0, slots := 0, locals := 44 } : Room) (zP zCl dC dI (zTY cI cZ cJ) a0 s0 [.ref x, .ref o] sz [(x, .inr (0, [.ref (b 0), .ref (b 1), .ref (b 2), .ref (b 3), .ref (b 4), .ref (b 5), .int 0, .int 0, .int 0, .int 0, .int 0, .int 0, .int 0])), ((b 0), .inr (1, [.int 0, .int 0, .ref (b 10), .ref (b 11), .ref (b 12), .ref (b 13), .ref (b 14), .ref (b 15), .ref (b 16), .ref (b 17), .ref (b 18)])), (o, .inl (cJ, 1, .inr (.inl (fun _ => 0))))]) (zQi zCl dC dI (fun r => r = 0) [(x, .inr (0, [.ref (b 0), .ref (b 1), .ref (b 2), .ref (b 3), .ref (b 4), .ref (b 5), .int 0, .int 0, .int 0, .int 0, .int 0, .int 0, .int 0])), ((b 0), .inr (1, [.int 0, .int 0, .ref (b 10), .ref (b 11), .ref (b 12), .ref (b 13), .ref (b 14), .ref (b 15), .ref (b 16), .ref (b 17), .ref (b 18)])), (o, .inl (cJ, 1, .inr (.inl (vp_updL (fun _ => 0) (0 : Int32).toNatClampNeg 7))))] (va_A [(x, .inr (0, [.ref (b 0), .ref (b 1), .ref (b 2), .ref (b 3), .ref (b 4), .ref (b 5), .int 0, .int 0, .int 0, .int 0, .int 0, .int 0, .int 0])), ((b 0), .inr (1, [.int 0, .int 0, .ref (b 10), .ref (b 11), .ref (b 12), .ref (b 13), .ref (b 14), .ref (b 15), .ref (b 16), .ref (b 17), .ref (b 18)])), (o, .inl (cJ, 1, .inr (.inl (fun _ => 0))))] sz)) 0 0 (va_A [(x, .inr (0, [.ref (b 0), .ref (b 1), .ref (b 2), .ref (b 3), .ref (b 4), .ref (b 5), .int 0, .int 0, .int 0, .int 0, .int 0, .int 0, .int 0])), ((b 0), .inr (1, [.int 0, .int 0, .ref (b 10), .ref (b 11), .ref (b 12), .ref (b 13), .ref (b 14), .ref (b 15), .ref (b 16), .ref (b 17), .ref (b 18)])), (o, .inl (cJ, 1, .inr (.inl (fun _ => 0))))] sz) := by
  refine tq_ofWith (cc := bLA_start) (maxL := 3) (ret := (some .int)) (hs := [(0, 8, 11, 13)]) (by decide) rfl ?_
  intro p e s m args below meth c s₁ B hml htab hv
  obtain ⟨rfl, hsz, hP, hK, hD0, hB⟩ := hv
  have hx := B.exec
  have hb := B.bytes
  have hr := B.returns
  have hown : s.vm.findClass "RingGuardLaw" = some m.cls := findClass_of_methodNamed B.named
  have hlocks := B.notSynchronized
  subst hsz
  have hD := hD0.self (sz := s.heap.size)
  have hA0 := zA0 hD0 hB
  generalize hAe : va_A [(x, .inr (0, [.ref (b 0), .ref (b 1), .ref (b 2), .ref (b 3), .ref (b 4), .ref (b 5), .int 0, .int 0, .int 0, .int 0, .int 0, .int 0, .int 0])), ((b 0), .inr (1, [.int 0, .int 0, .ref (b 10), .ref (b 11), .ref (b 12), .ref (b 13), .ref (b 14), .ref (b 15), .ref (b 16), .ref (b 17), .ref (b 18)])), (o, .inl (cJ, 1, .inr (.inl (fun _ => 0))))] s.heap.size = A at hD hA0 ⊢
  have hAD := hA0
  have hA : ∀ q : Nat, s.heap.size ≤ q → A q := fun q h => by rw [← hAe]; exact Or.inr h
  have hS : va_S A s.heap s.heap [] := va_S.rf
  have hP : va_P (dC, dI) zCl [(x, .inr (0, [.ref (b 0), .ref (b 1), .ref (b 2), .ref (b 3), .ref (b 4), .ref (b 5), .int 0, .int 0, .int 0, .int 0, .int 0, .int 0, .int 0])), ((b 0), .inr (1, [.int 0, .int 0, .ref (b 10), .ref (b 11), .ref (b 12), .ref (b 13), .ref (b 14), .ref (b 15), .ref (b 16), .ref (b 17), .ref (b 18)])), (o, .inl (cJ, 1, .inr (.inl (fun _ => 0))))] s.heap := hP
  have hl := lv_entry ([.ref x, .ref o]) (n := 3) (Nat.le_of_ble_eq_true rfl)
  rw [lg_entry_eq]
  generalize (lg_sl ([.ref x, .ref o]) ++ List.replicate (3 - (lg_sl ([.ref x, .ref o])).length) Slot.unset).toArray = ls at hl ⊢
  have hl : lv_has ls 3 [(0, .ref x), (1, .ref o)] := hl
  refine lv_aload_n hx hb dLA_start_0 rfl (lv_at hl 1 rfl) ?_
  refine lv_iconst (v := 0) hx hb dLA_start_1 (by decide) ?_
  refine lv_aload_n hx hb dLA_start_2 rfl (lv_at hl 0 rfl) ?_
  have hPc : va_P (dC, dI) zCl [(x, .inr (0, [.ref (b 0), .ref (b 1), .ref (b 2), .ref (b 3), .ref (b 4), .ref (b 5), .int 0, .int 0, .int 0, .int 0, .int 0, .int 0, .int 0])), ((b 0), .inr (1, [.int 0, .int 0, .ref (b 10), .ref (b 11), .ref (b 12), .ref (b 13), .ref (b 14), .ref (b 15), .ref (b 16), .ref (b 17), .ref (b 18)]))] s.heap := hP.sub [0, 1] rfl
  have hDc : va_D A [(x, .inr (0, [.ref (b 0), .ref (b 1), .ref (b 2), .ref (b 3), .ref (b 4), .ref (b 5), .int 0, .int 0, .int 0, .int 0, .int 0, .int 0, .int 0])), ((b 0), .inr (1, [.int 0, .int 0, .ref (b 10), .ref (b 11), .ref (b 12), .ref (b 13), .ref (b 14), .ref (b 15), .ref (b 16), .ref (b 17), .ref (b 18)]))] := hD.sub [0, 1] (by decide) rfl
  refine zcallp (va_runV (As := []) (rest := [.int 0, .ref o]) ⟨hx, hb, hml, hown, zno⟩ (zp_start l dC dI cI cZ cJ a0 s0 x b s.heap.size) (zcw 0 (hB.word (zm2 k2_196) rfl) (hB.word (zm1 k1_1) rfl) (hB.word (zm2 k2_193) rfl) (hB.word (zm2 k2_194) rfl) (hB.word (zm2 k2_195) rfl) rfl rfl (by decide +kernel) ⟨Nat.le_of_ble_eq_true rfl, Nat.le_of_ble_eq_true rfl⟩) ⟨zP_blind, va_recv hK hP (ci := 0) (q0 := 0) rfl rfl, zP_pre hPc hK hDc hAD (zB_on hB hA0 hS)⟩ rfl rfl hl.1 rfl (lv_room (Nat.le_of_ble_eq_true rfl)) dLA_start_3 ⟨Nat.le_of_ble_eq_true rfl, Nat.le_of_ble_eq_true rfl⟩) hS hA (fun r1 H1 locs hr1 hz1 hk1 hS => ?_)
  have hP := zKeep hP hk1
  generalize H1 = H at hP hS ⊢
  have hP : va_P (dC, dI) zCl [(x, .inr (0, [.ref (b 0), .ref (b 1), .ref (b 2), .ref (b 3), .ref (b 4), .ref (b 5), .int 0, .int 0, .int 0, .int 0, .int 0, .int 0, .int 0])), ((b 0), .inr (1, [.int 0, .int 0, .ref (b 10), .ref (b 11), .ref (b 12), .ref (b 13), .ref (b 14), .ref (b 15), .ref (b 16), .ref (b 17), .ref (b 18)])), (o, .inl (cJ, 1, .inr (.inl (fun _ => 0))))] H := hP
  subst hr1
  refine lv_i2l (v := 7) hx hb dLA_start_6 (by decide) ?_
  refine va_last hx hb hK hP hD hS 2 2 rfl rfl (i := 0) (by unfold vp_in; decide) dLA_start_7 (fun H locs hP hD hS => ?_)
  have hP : va_P (dC, dI) zCl [(x, .inr (0, [.ref (b 0), .ref (b 1), .ref (b 2), .ref (b 3), .ref (b 4), .ref (b 5), .int 0, .int 0, .int 0, .int 0, .int 0, .int 0, .int 0])), ((b 0), .inr (1, [.int 0, .int 0, .ref (b 10), .ref (b 11), .ref (b 12), .ref (b 13), .ref (b 14), .ref (b 15), .ref (b 16), .ref (b 17), .ref (b 18)])), (o, .inl (cJ, 1, .inr (.inl (vp_updL (fun _ => 0) (0 : Int32).toNatClampNeg 7))))] H := hP
  have hD : va_D A [(x, .inr (0, [.ref (b 0), .ref (b 1), .ref (b 2), .ref (b 3), .ref (b 4), .ref (b 5), .int 0, .int 0, .int 0, .int 0, .int 0, .int 0, .int 0])), ((b 0), .inr (1, [.int 0, .int 0, .ref (b 10), .ref (b 11), .ref (b 12), .ref (b 13), .ref (b 14), .ref (b 15), .ref (b 16), .ref (b 17), .ref (b 18)])), (o, .inl (cJ, 1, .inr (.inl (vp_updL (fun _ => 0) (0 : Int32).toNatClampNeg 7))))] := hD
  refine lv_goto (tgt := 14) hx hb dLA_start_8 (by decide) ?_
  refine lv_iconst (v := 0) hx hb dLA_start_14 (by decide) ?_
  refine W.widen (k := 0) (n := 0) (Nat.le_of_ble_eq_true rfl) (Nat.le_of_ble_eq_true rfl) ?_
  have hP9 : va_P (dC, dI) zCl [(x, .inr (0, [.ref (b 0), .ref (b 1), .ref (b 2), .ref (b 3), .ref (b 4), .ref (b 5), .int 0, .int 0, .int 0, .int 0, .int 0, .int 0, .int 0])), ((b 0), .inr (1, [.int 0, .int 0, .ref (b 10), .ref (b 11), .ref (b 12), .ref (b 13), .ref (b 14), .ref (b 15), .ref (b 16), .ref (b 17), .ref (b 18)])), (o, .inl (cJ, 1, .inr (.inl (vp_updL (fun _ => 0) (0 : Int32).toNatClampNeg 7))))] H := hP.sub [0, 1, 2] rfl
  have hD9 : va_D A [(x, .inr (0, [.ref (b 0), .ref (b 1), .ref (b 2), .ref (b 3), .ref (b 4), .ref (b 5), .int 0, .int 0, .int 0, .int 0, .int 0, .int 0, .int 0])), ((b 0), .inr (1, [.int 0, .int 0, .ref (b 10), .ref (b 11), .ref (b 12), .ref (b 13), .ref (b 14), .ref (b 15), .ref (b 16), .ref (b 17), .ref (b 18)])), (o, .inl (cJ, 1, .inr (.inl (vp_updL (fun _ => 0) (0 : Int32).toNatClampNeg 7))))] := hD.sub [0, 1, 2] (by decide) rfl
  exact W.iret (v := 0) hx hb hr (fun t ht hW => ⟨⟨0, (), rfl, rfl, by rw [ht]; exact hP9, hD9⟩, hS.F ht⟩) hS.2.2 dLA_start_15
end
section
set_option maxHeartbeats 4000000 in
set_option maxRecDepth 100000 in
theorem zm_isBridge (l : Launch) (dC : Nat → ClassId) (dI : Nat → Nat → Nat) (cI cZ cJ : ClassId) (a0 : Array Value) (s0 : State) (mo : Nat) (mb : Nat → Nat) (sz : Nat) (v : Int32) : Met l yMO_isBridge [Cond.code yMO_isBridge bMO_isBridge 2 (some .boolean)] ({ frames := 0, cells := 0, slots := 0, locals := 0 } : Room) (zP zCl dC dI (zTY cI cZ cJ) a0 s0 [.ref mo, .int v] sz [(mo, .inr (7, [.int 0, .int 0, .int 0, .int 0, .ref (mb 0), .ref (mb 1), .ref (mb 2), .ref (mb 3), .ref (mb 4), .ref (mb 5), .ref (mb 6), .ref (mb 7), .ref (mb 8), .ref (mb 9), .ref (mb 10), .ref (mb 11), .ref (mb 12), .ref (mb 13), .ref (mb 14), .ref (mb 15), .ref (mb 16), .ref (mb 17), .ref (mb 18), .ref (mb 19), .ref (mb 20), .ref (mb 21), .ref (mb 22), .ref (mb 23), .ref (mb 24), .ref (mb 25), .ref (mb 26), .ref (mb 27), .ref (mb 28), .ref (mb 29), .ref (mb 30), .ref (mb 31), .ref (mb 32), .int 0, .int 0, .int 0, .int 0, .int 0, .int 0, .int 0, .ref (mb 33), .ref (mb 34), .ref (mb 35), .ref (mb 36), .int 0, .int 0, .int 0, .int 0, .ref (mb 37)]))]) (zQp (fun r => r = 0) sz) 0 0 (zN sz) := by
  refine Met.ofW (cc := bMO_isBridge) (maxL := 2) (ret := (some .boolean)) (by decide) rfl ?_
  intro p e s m args below meth c s₁ B hml hv
  obtain ⟨rfl, hsz, hP, hK, hD0, hB⟩ := hv
  have hx := B.exec
  have hb := B.bytes
  have hr := B.returns
  have hown : s.vm.findClass "RingGuardModel" = some m.cls := findClass_of_methodNamed B.named
  have hlocks := B.notSynchronized
  subst hsz
  have hD := hD0
  have hA0 : ∀ q, zN s.heap.size q → s0.heap.size ≤ q := zA1 hB
  have hAD : ∀ q, zN s0.heap.size q → s0.heap.size ≤ q := fun _ h => h
  have hA : ∀ q : Nat, s.heap.size ≤ q → zN s.heap.size q := fun _ h => h
  have hS : va_S (zN s.heap.size) s.heap s.heap [] := va_S.rf
  have hP : va_P (dC, dI) zCl [(mo, .inr (7, [.int 0, .int 0, .int 0, .int 0, .ref (mb 0), .ref (mb 1), .ref (mb 2), .ref (mb 3), .ref (mb 4), .ref (mb 5), .ref (mb 6), .ref (mb 7), .ref (mb 8), .ref (mb 9), .ref (mb 10), .ref (mb 11), .ref (mb 12), .ref (mb 13), .ref (mb 14), .ref (mb 15), .ref (mb 16), .ref (mb 17), .ref (mb 18), .ref (mb 19), .ref (mb 20), .ref (mb 21), .ref (mb 22), .ref (mb 23), .ref (mb 24), .ref (mb 25), .ref (mb 26), .ref (mb 27), .ref (mb 28), .ref (mb 29), .ref (mb 30), .ref (mb 31), .ref (mb 32), .int 0, .int 0, .int 0, .int 0, .int 0, .int 0, .int 0, .ref (mb 33), .ref (mb 34), .ref (mb 35), .ref (mb 36), .int 0, .int 0, .int 0, .int 0, .ref (mb 37)]))] s.heap := hP
  have hl := lv_entry ([.ref mo, .int v]) (n := 2) (Nat.le_of_ble_eq_true rfl)
  rw [lg_entry_eq]
  generalize (lg_sl ([.ref mo, .int v]) ++ List.replicate (2 - (lg_sl ([.ref mo, .int v])).length) Slot.unset).toArray = ls at hl ⊢
  have hl : lv_has ls 2 [(0, .ref mo), (1, .int v)] := hl
  refine lv_iload_n hx hb dMO_isBridge_0 rfl (lv_at hl 1 rfl) ?_
  refine lv_if_lt (tgt := 16) hx hb dMO_isBridge_1 (by decide) (fun c_1 => ?_) (fun c_1 => ?_)
  · refine lv_iconst (v := 0) hx hb dMO_isBridge_16 (by decide) ?_
    refine W.widen (k := 0) (n := 0) (Nat.le_of_ble_eq_true rfl) (Nat.le_of_ble_eq_true rfl) ?_
    exact W.zret (v := 0) (ty := .boolean) hx hb hr rfl (fun t ht hW => ⟨⟨0, (), rfl, rfl, trivial⟩, hS.F ht⟩) hS.2.2 dMO_isBridge_17
  · refine lv_iload_n hx hb dMO_isBridge_4 rfl (lv_at hl 1 rfl) ?_
    refine lv_aload_n hx hb dMO_isBridge_5 rfl (lv_at hl 0 rfl) ?_
    have hu7 : ∀ w ∈ u_ws "RingGuardModel" T_MO 53, w.before ([.ref mo, .int v] : List Value).toArray s = true := hB.words zU_MO
    refine va_get (D := (dC, dI)) (ci := 7) (v := .int 0) (C := "RingGuardModel") (T := T_MO) (N := 53) hx hb hu7 zid hown hK hP 0 rfl rfl 2 (by decide) (hB.word (zm4 k4_116) rfl) (fun _ h9 => h9) rfl dMO_isBridge_6 ?_
    refine lv_icmp_ge (tgt := 16) hx hb dMO_isBridge_9 (by decide) (fun _ => ?_) (fun c9 => absurd (Int32.not_lt.mp c_1) c9)
    refine lv_iconst (v := 0) hx hb dMO_isBridge_16 (by decide) ?_
    refine W.widen (k := 0) (n := 0) (Nat.le_of_ble_eq_true rfl) (Nat.le_of_ble_eq_true rfl) ?_
    exact W.zret (v := 0) (ty := .boolean) hx hb hr rfl (fun t ht hW => ⟨⟨0, (), rfl, rfl, trivial⟩, hS.F ht⟩) hS.2.2 dMO_isBridge_17
set_option maxHeartbeats 4000000 in
set_option maxRecDepth 100000 in
theorem zm_isLink (l : Launch) (dC : Nat → ClassId) (dI : Nat → Nat → Nat) (cI cZ cJ : ClassId) (a0 : Array Value) (s0 : State) (mo : Nat) (mb : Nat → Nat) (sz : Nat) (v : Int32) : Met l yMO_isLink [Cond.code yMO_isLink bMO_isLink 2 (some .boolean)] ({ frames := 0, cells := 0, slots := 0, locals := 0 } : Room) (zP zCl dC dI (zTY cI cZ cJ) a0 s0 [.ref mo, .int v] sz [(mo, .inr (7, [.int 0, .int 0, .int 0, .int 0, .ref (mb 0), .ref (mb 1), .ref (mb 2), .ref (mb 3), .ref (mb 4), .ref (mb 5), .ref (mb 6), .ref (mb 7), .ref (mb 8), .ref (mb 9), .ref (mb 10), .ref (mb 11), .ref (mb 12), .ref (mb 13), .ref (mb 14), .ref (mb 15), .ref (mb 16), .ref (mb 17), .ref (mb 18), .ref (mb 19), .ref (mb 20), .ref (mb 21), .ref (mb 22), .ref (mb 23), .ref (mb 24), .ref (mb 25), .ref (mb 26), .ref (mb 27), .ref (mb 28), .ref (mb 29), .ref (mb 30), .ref (mb 31), .ref (mb 32), .int 0, .int 0, .int 0, .int 0, .int 0, .int 0, .int 0, .ref (mb 33), .ref (mb 34), .ref (mb 35), .ref (mb 36), .int 0, .int 0, .int 0, .int 0, .ref (mb 37)]))]) (zQp (fun r => r = 0) sz) 0 0 (zN sz) := by
  refine Met.ofW (cc := bMO_isLink) (maxL := 2) (ret := (some .boolean)) (by decide) rfl ?_
  intro p e s m args below meth c s₁ B hml hv
  obtain ⟨rfl, hsz, hP, hK, hD0, hB⟩ := hv
  have hx := B.exec
  have hb := B.bytes
  have hr := B.returns
  have hown : s.vm.findClass "RingGuardModel" = some m.cls := findClass_of_methodNamed B.named
  have hlocks := B.notSynchronized
  subst hsz
  have hD := hD0
  have hA0 : ∀ q, zN s.heap.size q → s0.heap.size ≤ q := zA1 hB
  have hAD : ∀ q, zN s0.heap.size q → s0.heap.size ≤ q := fun _ h => h
  have hA : ∀ q : Nat, s.heap.size ≤ q → zN s.heap.size q := fun _ h => h
  have hS : va_S (zN s.heap.size) s.heap s.heap [] := va_S.rf
  have hP : va_P (dC, dI) zCl [(mo, .inr (7, [.int 0, .int 0, .int 0, .int 0, .ref (mb 0), .ref (mb 1), .ref (mb 2), .ref (mb 3), .ref (mb 4), .ref (mb 5), .ref (mb 6), .ref (mb 7), .ref (mb 8), .ref (mb 9), .ref (mb 10), .ref (mb 11), .ref (mb 12), .ref (mb 13), .ref (mb 14), .ref (mb 15), .ref (mb 16), .ref (mb 17), .ref (mb 18), .ref (mb 19), .ref (mb 20), .ref (mb 21), .ref (mb 22), .ref (mb 23), .ref (mb 24), .ref (mb 25), .ref (mb 26), .ref (mb 27), .ref (mb 28), .ref (mb 29), .ref (mb 30), .ref (mb 31), .ref (mb 32), .int 0, .int 0, .int 0, .int 0, .int 0, .int 0, .int 0, .ref (mb 33), .ref (mb 34), .ref (mb 35), .ref (mb 36), .int 0, .int 0, .int 0, .int 0, .ref (mb 37)]))] s.heap := hP
  have hl := lv_entry ([.ref mo, .int v]) (n := 2) (Nat.le_of_ble_eq_true rfl)
  rw [lg_entry_eq]
  generalize (lg_sl ([.ref mo, .int v]) ++ List.replicate (2 - (lg_sl ([.ref mo, .int v])).length) Slot.unset).toArray = ls at hl ⊢
  have hl : lv_has ls 2 [(0, .ref mo), (1, .int v)] := hl
  refine lv_iload_n hx hb dMO_isLink_0 rfl (lv_at hl 1 rfl) ?_
  refine lv_if_lt (tgt := 16) hx hb dMO_isLink_1 (by decide) (fun c_1 => ?_) (fun c_1 => ?_)
  · refine lv_iconst (v := 0) hx hb dMO_isLink_16 (by decide) ?_
    refine W.widen (k := 0) (n := 0) (Nat.le_of_ble_eq_true rfl) (Nat.le_of_ble_eq_true rfl) ?_
    exact W.zret (v := 0) (ty := .boolean) hx hb hr rfl (fun t ht hW => ⟨⟨0, (), rfl, rfl, trivial⟩, hS.F ht⟩) hS.2.2 dMO_isLink_17
  · refine lv_iload_n hx hb dMO_isLink_4 rfl (lv_at hl 1 rfl) ?_
    refine lv_aload_n hx hb dMO_isLink_5 rfl (lv_at hl 0 rfl) ?_
    have hu7 : ∀ w ∈ u_ws "RingGuardModel" T_MO 53, w.before ([.ref mo, .int v] : List Value).toArray s = true := hB.words zU_MO
    refine va_get (D := (dC, dI)) (ci := 7) (v := .int 0) (C := "RingGuardModel") (T := T_MO) (N := 53) hx hb hu7 zid hown hK hP 0 rfl rfl 3 (by decide) (hB.word (zm4 k4_117) rfl) (fun _ h9 => h9) rfl dMO_isLink_6 ?_
    refine lv_icmp_ge (tgt := 16) hx hb dMO_isLink_9 (by decide) (fun _ => ?_) (fun c9 => absurd (Int32.not_lt.mp c_1) c9)
    refine lv_iconst (v := 0) hx hb dMO_isLink_16 (by decide) ?_
    refine W.widen (k := 0) (n := 0) (Nat.le_of_ble_eq_true rfl) (Nat.le_of_ble_eq_true rfl) ?_
    exact W.zret (v := 0) (ty := .boolean) hx hb hr rfl (fun t ht hW => ⟨⟨0, (), rfl, rfl, trivial⟩, hS.F ht⟩) hS.2.2 dMO_isLink_17
set_option maxHeartbeats 4000000 in
set_option maxRecDepth 100000 in
theorem zm_isRing (l : Launch) (dC : Nat → ClassId) (dI : Nat → Nat → Nat) (cI cZ cJ : ClassId) (a0 : Array Value) (s0 : State) (sz : Nat) (v : Int32) : Met l yMO_isRing [Cond.code yMO_isRing bMO_isRing 1 (some .boolean)] ({ frames := 0, cells := 0, slots := 0, locals := 0 } : Room) (zP zCl dC dI (zTY cI cZ cJ) a0 s0 [.int v] sz []) (zQp (fun r => True) sz) 0 0 (zN sz) := by
  refine Met.ofW (cc := bMO_isRing) (maxL := 1) (ret := (some .boolean)) (by decide) rfl ?_
  intro p e s m args below meth c s₁ B hml hv
  obtain ⟨rfl, hsz, hP, hK, hD0, hB⟩ := hv
  have hx := B.exec
  have hb := B.bytes
  have hr := B.returns
  have hown : s.vm.findClass "RingGuardModel" = some m.cls := findClass_of_methodNamed B.named
  have hlocks := B.notSynchronized
  subst hsz
  have hD := hD0
  have hA0 : ∀ q, zN s.heap.size q → s0.heap.size ≤ q := zA1 hB
  have hAD : ∀ q, zN s0.heap.size q → s0.heap.size ≤ q := fun _ h => h
  have hA : ∀ q : Nat, s.heap.size ≤ q → zN s.heap.size q := fun _ h => h
  have hS : va_S (zN s.heap.size) s.heap s.heap [] := va_S.rf
  have hP : va_P (dC, dI) zCl [] s.heap := hP
  have hl := lv_entry ([.int v]) (n := 1) (Nat.le_of_ble_eq_true rfl)
  rw [lg_entry_eq]
  generalize (lg_sl ([.int v]) ++ List.replicate (1 - (lg_sl ([.int v])).length) Slot.unset).toArray = ls at hl ⊢
  have hl : lv_has ls 1 [(0, .int v)] := hl
  refine lv_iload_n hx hb dMO_isRing_0 rfl (lv_at hl 0 rfl) ?_
  refine lv_if_lt (tgt := 14) hx hb dMO_isRing_1 (by decide) (fun c_1 => ?_) (fun c_1 => ?_)
  · refine lv_iconst (v := 0) hx hb dMO_isRing_14 (by decide) ?_
    refine W.widen (k := 0) (n := 0) (Nat.le_of_ble_eq_true rfl) (Nat.le_of_ble_eq_true rfl) ?_
    exact W.zret (v := 0) (ty := .boolean) hx hb hr rfl (fun t ht hW => ⟨⟨0, (), rfl, trivial, trivial⟩, hS.F ht⟩) hS.2.2 dMO_isRing_15
  · refine lv_iload_n hx hb dMO_isRing_4 rfl (lv_at hl 0 rfl) ?_
    refine lv_bipush (v := 6) hx hb dMO_isRing_5 (by decide) ?_
    refine lv_icmp_ge (tgt := 14) hx hb dMO_isRing_7 (by decide) (fun c_7 => ?_) (fun c_7 => ?_)
    · refine lv_iconst (v := 0) hx hb dMO_isRing_14 (by decide) ?_
      refine W.widen (k := 0) (n := 0) (Nat.le_of_ble_eq_true rfl) (Nat.le_of_ble_eq_true rfl) ?_
      exact W.zret (v := 0) (ty := .boolean) hx hb hr rfl (fun t ht hW => ⟨⟨0, (), rfl, trivial, trivial⟩, hS.F ht⟩) hS.2.2 dMO_isRing_15
    · refine lv_iconst (v := 1) hx hb dMO_isRing_10 (by decide) ?_
      refine lv_goto (tgt := 15) hx hb dMO_isRing_11 (by decide) ?_
      refine W.widen (k := 0) (n := 0) (Nat.le_of_ble_eq_true rfl) (Nat.le_of_ble_eq_true rfl) ?_
      exact W.zret (v := 1) (ty := .boolean) hx hb hr rfl (fun t ht hW => ⟨⟨1, (), rfl, trivial, trivial⟩, hS.F ht⟩) hS.2.2 dMO_isRing_15
set_option maxHeartbeats 4000000 in
set_option maxRecDepth 100000 in
theorem zm_goes0 (l : Launch) (dC : Nat → ClassId) (dI : Nat → Nat → Nat) (cI cZ cJ : ClassId) (a0 : Array Value) (s0 : State) (mo : Nat) (mb : Nat → Nat) (sz : Nat) (t : Int32) : Met l yMO_goes [Cond.code yMO_goes bMO_goes 3 (some .boolean)] ({ frames := 0, cells := 0, slots := 0, locals := 0 } : Room) (zP zCl dC dI (zTY cI cZ cJ) a0 s0 [.ref mo, .int 0, .int t] sz [(mo, .inr (7, [.int 0, .int 0, .int 0, .int 0, .ref (mb 0), .ref (mb 1), .ref (mb 2), .ref (mb 3), .ref (mb 4), .ref (mb 5), .ref (mb 6), .ref (mb 7), .ref (mb 8), .ref (mb 9), .ref (mb 10), .ref (mb 11), .ref (mb 12), .ref (mb 13), .ref (mb 14), .ref (mb 15), .ref (mb 16), .ref (mb 17), .ref (mb 18), .ref (mb 19), .ref (mb 20), .ref (mb 21), .ref (mb 22), .ref (mb 23), .ref (mb 24), .ref (mb 25), .ref (mb 26), .ref (mb 27), .ref (mb 28), .ref (mb 29), .ref (mb 30), .ref (mb 31), .ref (mb 32), .int 0, .int 0, .int 0, .int 0, .int 0, .int 0, .int 0, .ref (mb 33), .ref (mb 34), .ref (mb 35), .ref (mb 36), .int 0, .int 0, .int 0, .int 0, .ref (mb 37)]))]) (zQi zCl dC dI (fun r => r = 0) [(mo, .inr (7, [.int 1, .int 0, .int 0, .int 0, .ref (mb 0), .ref (mb 1), .ref (mb 2), .ref (mb 3), .ref (mb 4), .ref (mb 5), .ref (mb 6), .ref (mb 7), .ref (mb 8), .ref (mb 9), .ref (mb 10), .ref (mb 11), .ref (mb 12), .ref (mb 13), .ref (mb 14), .ref (mb 15), .ref (mb 16), .ref (mb 17), .ref (mb 18), .ref (mb 19), .ref (mb 20), .ref (mb 21), .ref (mb 22), .ref (mb 23), .ref (mb 24), .ref (mb 25), .ref (mb 26), .ref (mb 27), .ref (mb 28), .ref (mb 29), .ref (mb 30), .ref (mb 31), .ref (mb 32), .int 0, .int 0, .int 0, .int 0, .int 0, .int 0, .int 0, .ref (mb 33), .ref (mb 34), .ref (mb 35), .ref (mb 36), .int 0, .int 0, .int 0, .int 0, .ref (mb 37)]))] (va_A [(mo, .inr (7, [.int 0, .int 0, .int 0, .int 0, .ref (mb 0), .ref (mb 1), .ref (mb 2), .ref (mb 3), .ref (mb 4), .ref (mb 5), .ref (mb 6), .ref (mb 7), .ref (mb 8), .ref (mb 9), .ref (mb 10), .ref (mb 11), .ref (mb 12), .ref (mb 13), .ref (mb 14), .ref (mb 15), .ref (mb 16), .ref (mb 17), .ref (mb 18), .ref (mb 19), .ref (mb 20), .ref (mb 21), .ref (mb 22), .ref (mb 23), .ref (mb 24), .ref (mb 25), .ref (mb 26), .ref (mb 27), .ref (mb 28), .ref (mb 29), .ref (mb 30), .ref (mb 31), .ref (mb 32), .int 0, .int 0, .int 0, .int 0, .int 0, .int 0, .int 0, .ref (mb 33), .ref (mb 34), .ref (mb 35), .ref (mb 36), .int 0, .int 0, .int 0, .int 0, .ref (mb 37)]))] sz)) 0 0 (va_A [(mo, .inr (7, [.int 0, .int 0, .int 0, .int 0, .ref (mb 0), .ref (mb 1), .ref (mb 2), .ref (mb 3), .ref (mb 4), .ref (mb 5), .ref (mb 6), .ref (mb 7), .ref (mb 8), .ref (mb 9), .ref (mb 10), .ref (mb 11), .ref (mb 12), .ref (mb 13), .ref (mb 14), .ref (mb 15), .ref (mb 16), .ref (mb 17), .ref (mb 18), .ref (mb 19), .ref (mb 20), .ref (mb 21), .ref (mb 22), .ref (mb 23), .ref (mb 24), .ref (mb 25), .ref (mb 26), .ref (mb 27), .ref (mb 28), .ref (mb 29), .ref (mb 30), .ref (mb 31), .ref (mb 32), .int 0, .int 0, .int 0, .int 0, .int 0, .int 0, .int 0, .ref (mb 33), .ref (mb 34), .ref (mb 35), .ref (mb 36), .int 0, .int 0, .int 0, .int 0, .ref (mb 37)]))] sz) := by
  refine Met.ofW (cc := bMO_goes) (maxL := 3) (ret := (some .boolean)) (by decide) rfl ?_
  intro p e s m args below meth c s₁ B hml hv
  obtain ⟨rfl, hsz, hP, hK, hD0, hB⟩ := hv
  have hx := B.exec
  have hb := B.bytes
  have hr := B.returns
  have hown : s.vm.findClass "RingGuardModel" = some m.cls := findClass_of_methodNamed B.named
  have hlocks := B.notSynchronized
  subst hsz
  have hD := hD0.self (sz := s.heap.size)
  have hA0 := zA0 hD0 hB
  generalize hAe : va_A [(mo, .inr (7, [.int 0, .int 0, .int 0, .int 0, .ref (mb 0), .ref (mb 1), .ref (mb 2), .ref (mb 3), .ref (mb 4), .ref (mb 5), .ref (mb 6), .ref (mb 7), .ref (mb 8), .ref (mb 9), .ref (mb 10), .ref (mb 11), .ref (mb 12), .ref (mb 13), .ref (mb 14), .ref (mb 15), .ref (mb 16), .ref (mb 17), .ref (mb 18), .ref (mb 19), .ref (mb 20), .ref (mb 21), .ref (mb 22), .ref (mb 23), .ref (mb 24), .ref (mb 25), .ref (mb 26), .ref (mb 27), .ref (mb 28), .ref (mb 29), .ref (mb 30), .ref (mb 31), .ref (mb 32), .int 0, .int 0, .int 0, .int 0, .int 0, .int 0, .int 0, .ref (mb 33), .ref (mb 34), .ref (mb 35), .ref (mb 36), .int 0, .int 0, .int 0, .int 0, .ref (mb 37)]))] s.heap.size = A at hD hA0 ⊢
  have hAD := hA0
  have hA : ∀ q : Nat, s.heap.size ≤ q → A q := fun q h => by rw [← hAe]; exact Or.inr h
  have hS : va_S A s.heap s.heap [] := va_S.rf
  have hP : va_P (dC, dI) zCl [(mo, .inr (7, [.int 0, .int 0, .int 0, .int 0, .ref (mb 0), .ref (mb 1), .ref (mb 2), .ref (mb 3), .ref (mb 4), .ref (mb 5), .ref (mb 6), .ref (mb 7), .ref (mb 8), .ref (mb 9), .ref (mb 10), .ref (mb 11), .ref (mb 12), .ref (mb 13), .ref (mb 14), .ref (mb 15), .ref (mb 16), .ref (mb 17), .ref (mb 18), .ref (mb 19), .ref (mb 20), .ref (mb 21), .ref (mb 22), .ref (mb 23), .ref (mb 24), .ref (mb 25), .ref (mb 26), .ref (mb 27), .ref (mb 28), .ref (mb 29), .ref (mb 30), .ref (mb 31), .ref (mb 32), .int 0, .int 0, .int 0, .int 0, .int 0, .int 0, .int 0, .ref (mb 33), .ref (mb 34), .ref (mb 35), .ref (mb 36), .int 0, .int 0, .int 0, .int 0, .ref (mb 37)]))] s.heap := hP
  have hl := lv_entry ([.ref mo, .int 0, .int t]) (n := 3) (Nat.le_of_ble_eq_true rfl)
  rw [lg_entry_eq]
  generalize (lg_sl ([.ref mo, .int 0, .int t]) ++ List.replicate (3 - (lg_sl ([.ref mo, .int 0, .int t])).length) Slot.unset).toArray = ls at hl ⊢
  have hl : lv_has ls 3 [(0, .ref mo), (1, .int 0), (2, .int t)] := hl
  refine lv_aload_n hx hb dMO_goes_0 rfl (lv_at hl 0 rfl) ?_
  refine lv_iload_n hx hb dMO_goes_1 rfl (lv_at hl 1 rfl) ?_
  refine lv_if_ne (tgt := 9) hx hb dMO_goes_2 (by decide) (fun c9 => absurd (by decide) c9) (fun _ => ?_)
  refine lv_iconst (v := 1) hx hb dMO_goes_5 (by decide) ?_
  refine lv_goto (tgt := 18) hx hb dMO_goes_6 (by decide) ?_
  have hu7 : ∀ w ∈ u_ws "RingGuardModel" T_MO 53, w.before ([.ref mo, .int 0, .int t] : List Value).toArray s = true := hB.words zU_MO
  refine va_put (D := (dC, dI)) (ci := 7) (v := .int 1) (ty := .int) (C := "RingGuardModel") (T := T_MO) (N := 53) hx hb hu7 zid ty_MO ok_MO nm_MO hown hK hP hD hS 0 rfl rfl 0 (by decide) (hB.word (zm4 k4_114) rfl) (fun _ h9 => h9) rfl (by decide +kernel) rfl rfl (Nat.le_of_ble_eq_true rfl) dMO_goes_18 (fun H locs hP hD hS => ?_)
  have hP : va_P (dC, dI) zCl [(mo, .inr (7, [.int 1, .int 0, .int 0, .int 0, .ref (mb 0), .ref (mb 1), .ref (mb 2), .ref (mb 3), .ref (mb 4), .ref (mb 5), .ref (mb 6), .ref (mb 7), .ref (mb 8), .ref (mb 9), .ref (mb 10), .ref (mb 11), .ref (mb 12), .ref (mb 13), .ref (mb 14), .ref (mb 15), .ref (mb 16), .ref (mb 17), .ref (mb 18), .ref (mb 19), .ref (mb 20), .ref (mb 21), .ref (mb 22), .ref (mb 23), .ref (mb 24), .ref (mb 25), .ref (mb 26), .ref (mb 27), .ref (mb 28), .ref (mb 29), .ref (mb 30), .ref (mb 31), .ref (mb 32), .int 0, .int 0, .int 0, .int 0, .int 0, .int 0, .int 0, .ref (mb 33), .ref (mb 34), .ref (mb 35), .ref (mb 36), .int 0, .int 0, .int 0, .int 0, .ref (mb 37)]))] H := hP
  have hD : va_D A [(mo, .inr (7, [.int 1, .int 0, .int 0, .int 0, .ref (mb 0), .ref (mb 1), .ref (mb 2), .ref (mb 3), .ref (mb 4), .ref (mb 5), .ref (mb 6), .ref (mb 7), .ref (mb 8), .ref (mb 9), .ref (mb 10), .ref (mb 11), .ref (mb 12), .ref (mb 13), .ref (mb 14), .ref (mb 15), .ref (mb 16), .ref (mb 17), .ref (mb 18), .ref (mb 19), .ref (mb 20), .ref (mb 21), .ref (mb 22), .ref (mb 23), .ref (mb 24), .ref (mb 25), .ref (mb 26), .ref (mb 27), .ref (mb 28), .ref (mb 29), .ref (mb 30), .ref (mb 31), .ref (mb 32), .int 0, .int 0, .int 0, .int 0, .int 0, .int 0, .int 0, .ref (mb 33), .ref (mb 34), .ref (mb 35), .ref (mb 36), .int 0, .int 0, .int 0, .int 0, .ref (mb 37)]))] := hD
  refine lv_aload_n hx hb dMO_goes_21 rfl (lv_at hl 0 rfl) ?_
  refine va_get (D := (dC, dI)) (ci := 7) (v := .int 1) (C := "RingGuardModel") (T := T_MO) (N := 53) hx hb hu7 zid hown hK hP 0 rfl rfl 0 (by decide) (hB.word (zm4 k4_114) rfl) (fun _ h9 => h9) rfl dMO_goes_22 ?_
  refine lv_if_ne (tgt := 32) hx hb dMO_goes_25 (by decide) (fun _ => ?_) (fun c9 => absurd c9 (by decide))
  refine lv_iconst (v := 0) hx hb dMO_goes_32 (by decide) ?_
  refine W.widen (k := 0) (n := 0) (Nat.le_of_ble_eq_true rfl) (Nat.le_of_ble_eq_true rfl) ?_
  have hP9 : va_P (dC, dI) zCl [(mo, .inr (7, [.int 1, .int 0, .int 0, .int 0, .ref (mb 0), .ref (mb 1), .ref (mb 2), .ref (mb 3), .ref (mb 4), .ref (mb 5), .ref (mb 6), .ref (mb 7), .ref (mb 8), .ref (mb 9), .ref (mb 10), .ref (mb 11), .ref (mb 12), .ref (mb 13), .ref (mb 14), .ref (mb 15), .ref (mb 16), .ref (mb 17), .ref (mb 18), .ref (mb 19), .ref (mb 20), .ref (mb 21), .ref (mb 22), .ref (mb 23), .ref (mb 24), .ref (mb 25), .ref (mb 26), .ref (mb 27), .ref (mb 28), .ref (mb 29), .ref (mb 30), .ref (mb 31), .ref (mb 32), .int 0, .int 0, .int 0, .int 0, .int 0, .int 0, .int 0, .ref (mb 33), .ref (mb 34), .ref (mb 35), .ref (mb 36), .int 0, .int 0, .int 0, .int 0, .ref (mb 37)]))] H := hP.sub [0] rfl
  have hD9 : va_D A [(mo, .inr (7, [.int 1, .int 0, .int 0, .int 0, .ref (mb 0), .ref (mb 1), .ref (mb 2), .ref (mb 3), .ref (mb 4), .ref (mb 5), .ref (mb 6), .ref (mb 7), .ref (mb 8), .ref (mb 9), .ref (mb 10), .ref (mb 11), .ref (mb 12), .ref (mb 13), .ref (mb 14), .ref (mb 15), .ref (mb 16), .ref (mb 17), .ref (mb 18), .ref (mb 19), .ref (mb 20), .ref (mb 21), .ref (mb 22), .ref (mb 23), .ref (mb 24), .ref (mb 25), .ref (mb 26), .ref (mb 27), .ref (mb 28), .ref (mb 29), .ref (mb 30), .ref (mb 31), .ref (mb 32), .int 0, .int 0, .int 0, .int 0, .int 0, .int 0, .int 0, .ref (mb 33), .ref (mb 34), .ref (mb 35), .ref (mb 36), .int 0, .int 0, .int 0, .int 0, .ref (mb 37)]))] := hD.sub [0] (by decide) rfl
  exact W.zret (v := 0) (ty := .boolean) hx hb hr rfl (fun t ht hW => ⟨⟨0, (), rfl, rfl, by rw [ht]; exact hP9, hD9⟩, hS.F ht⟩) hS.2.2 dMO_goes_33
set_option maxHeartbeats 4000000 in
set_option maxRecDepth 100000 in
theorem zm_goes2 (l : Launch) (dC : Nat → ClassId) (dI : Nat → Nat → Nat) (cI cZ cJ : ClassId) (a0 : Array Value) (s0 : State) (mo : Nat) (mb : Nat → Nat) (sz : Nat) : Met l yMO_goes [Cond.code yMO_goes bMO_goes 3 (some .boolean)] ({ frames := 0, cells := 0, slots := 0, locals := 0 } : Room) (zP zCl dC dI (zTY cI cZ cJ) a0 s0 [.ref mo, .int 1, .int 0] sz [(mo, .inr (7, [.int 0, .int 0, .int 0, .int 0, .ref (mb 0), .ref (mb 1), .ref (mb 2), .ref (mb 3), .ref (mb 4), .ref (mb 5), .ref (mb 6), .ref (mb 7), .ref (mb 8), .ref (mb 9), .ref (mb 10), .ref (mb 11), .ref (mb 12), .ref (mb 13), .ref (mb 14), .ref (mb 15), .ref (mb 16), .ref (mb 17), .ref (mb 18), .ref (mb 19), .ref (mb 20), .ref (mb 21), .ref (mb 22), .ref (mb 23), .ref (mb 24), .ref (mb 25), .ref (mb 26), .ref (mb 27), .ref (mb 28), .ref (mb 29), .ref (mb 30), .ref (mb 31), .ref (mb 32), .int 0, .int 0, .int 0, .int 0, .int 0, .int 0, .int 0, .ref (mb 33), .ref (mb 34), .ref (mb 35), .ref (mb 36), .int 0, .int 0, .int 0, .int 0, .ref (mb 37)]))]) (zQi zCl dC dI (fun r => r = 0) [(mo, .inr (7, [.int 2, .int 0, .int 0, .int 0, .ref (mb 0), .ref (mb 1), .ref (mb 2), .ref (mb 3), .ref (mb 4), .ref (mb 5), .ref (mb 6), .ref (mb 7), .ref (mb 8), .ref (mb 9), .ref (mb 10), .ref (mb 11), .ref (mb 12), .ref (mb 13), .ref (mb 14), .ref (mb 15), .ref (mb 16), .ref (mb 17), .ref (mb 18), .ref (mb 19), .ref (mb 20), .ref (mb 21), .ref (mb 22), .ref (mb 23), .ref (mb 24), .ref (mb 25), .ref (mb 26), .ref (mb 27), .ref (mb 28), .ref (mb 29), .ref (mb 30), .ref (mb 31), .ref (mb 32), .int 0, .int 0, .int 0, .int 0, .int 0, .int 0, .int 0, .ref (mb 33), .ref (mb 34), .ref (mb 35), .ref (mb 36), .int 0, .int 0, .int 0, .int 0, .ref (mb 37)]))] (va_A [(mo, .inr (7, [.int 0, .int 0, .int 0, .int 0, .ref (mb 0), .ref (mb 1), .ref (mb 2), .ref (mb 3), .ref (mb 4), .ref (mb 5), .ref (mb 6), .ref (mb 7), .ref (mb 8), .ref (mb 9), .ref (mb 10), .ref (mb 11), .ref (mb 12), .ref (mb 13), .ref (mb 14), .ref (mb 15), .ref (mb 16), .ref (mb 17), .ref (mb 18), .ref (mb 19), .ref (mb 20), .ref (mb 21), .ref (mb 22), .ref (mb 23), .ref (mb 24), .ref (mb 25), .ref (mb 26), .ref (mb 27), .ref (mb 28), .ref (mb 29), .ref (mb 30), .ref (mb 31), .ref (mb 32), .int 0, .int 0, .int 0, .int 0, .int 0, .int 0, .int 0, .ref (mb 33), .ref (mb 34), .ref (mb 35), .ref (mb 36), .int 0, .int 0, .int 0, .int 0, .ref (mb 37)]))] sz)) 0 0 (va_A [(mo, .inr (7, [.int 0, .int 0, .int 0, .int 0, .ref (mb 0), .ref (mb 1), .ref (mb 2), .ref (mb 3), .ref (mb 4), .ref (mb 5), .ref (mb 6), .ref (mb 7), .ref (mb 8), .ref (mb 9), .ref (mb 10), .ref (mb 11), .ref (mb 12), .ref (mb 13), .ref (mb 14), .ref (mb 15), .ref (mb 16), .ref (mb 17), .ref (mb 18), .ref (mb 19), .ref (mb 20), .ref (mb 21), .ref (mb 22), .ref (mb 23), .ref (mb 24), .ref (mb 25), .ref (mb 26), .ref (mb 27), .ref (mb 28), .ref (mb 29), .ref (mb 30), .ref (mb 31), .ref (mb 32), .int 0, .int 0, .int 0, .int 0, .int 0, .int 0, .int 0, .ref (mb 33), .ref (mb 34), .ref (mb 35), .ref (mb 36), .int 0, .int 0, .int 0, .int 0, .ref (mb 37)]))] sz) := by
  refine Met.ofW (cc := bMO_goes) (maxL := 3) (ret := (some .boolean)) (by decide) rfl ?_
  intro p e s m args below meth c s₁ B hml hv
  obtain ⟨rfl, hsz, hP, hK, hD0, hB⟩ := hv
  have hx := B.exec
  have hb := B.bytes
  have hr := B.returns
  have hown : s.vm.findClass "RingGuardModel" = some m.cls := findClass_of_methodNamed B.named
  have hlocks := B.notSynchronized
  subst hsz
  have hD := hD0.self (sz := s.heap.size)
  have hA0 := zA0 hD0 hB
  generalize hAe : va_A [(mo, .inr (7, [.int 0, .int 0, .int 0, .int 0, .ref (mb 0), .ref (mb 1), .ref (mb 2), .ref (mb 3), .ref (mb 4), .ref (mb 5), .ref (mb 6), .ref (mb 7), .ref (mb 8), .ref (mb 9), .ref (mb 10), .ref (mb 11), .ref (mb 12), .ref (mb 13), .ref (mb 14), .ref (mb 15), .ref (mb 16), .ref (mb 17), .ref (mb 18), .ref (mb 19), .ref (mb 20), .ref (mb 21), .ref (mb 22), .ref (mb 23), .ref (mb 24), .ref (mb 25), .ref (mb 26), .ref (mb 27), .ref (mb 28), .ref (mb 29), .ref (mb 30), .ref (mb 31), .ref (mb 32), .int 0, .int 0, .int 0, .int 0, .int 0, .int 0, .int 0, .ref (mb 33), .ref (mb 34), .ref (mb 35), .ref (mb 36), .int 0, .int 0, .int 0, .int 0, .ref (mb 37)]))] s.heap.size = A at hD hA0 ⊢
  have hAD := hA0
  have hA : ∀ q : Nat, s.heap.size ≤ q → A q := fun q h => by rw [← hAe]; exact Or.inr h
  have hS : va_S A s.heap s.heap [] := va_S.rf
  have hP : va_P (dC, dI) zCl [(mo, .inr (7, [.int 0, .int 0, .int 0, .int 0, .ref (mb 0), .ref (mb 1), .ref (mb 2), .ref (mb 3), .ref (mb 4), .ref (mb 5), .ref (mb 6), .ref (mb 7), .ref (mb 8), .ref (mb 9), .ref (mb 10), .ref (mb 11), .ref (mb 12), .ref (mb 13), .ref (mb 14), .ref (mb 15), .ref (mb 16), .ref (mb 17), .ref (mb 18), .ref (mb 19), .ref (mb 20), .ref (mb 21), .ref (mb 22), .ref (mb 23), .ref (mb 24), .ref (mb 25), .ref (mb 26), .ref (mb 27), .ref (mb 28), .ref (mb 29), .ref (mb 30), .ref (mb 31), .ref (mb 32), .int 0, .int 0, .int 0, .int 0, .int 0, .int 0, .int 0, .ref (mb 33), .ref (mb 34), .ref (mb 35), .ref (mb 36), .int 0, .int 0, .int 0, .int 0, .ref (mb 37)]))] s.heap := hP
  have hl := lv_entry ([.ref mo, .int 1, .int 0]) (n := 3) (Nat.le_of_ble_eq_true rfl)
  rw [lg_entry_eq]
  generalize (lg_sl ([.ref mo, .int 1, .int 0]) ++ List.replicate (3 - (lg_sl ([.ref mo, .int 1, .int 0])).length) Slot.unset).toArray = ls at hl ⊢
  have hl : lv_has ls 3 [(0, .ref mo), (1, .int 1), (2, .int 0)] := hl
  refine lv_aload_n hx hb dMO_goes_0 rfl (lv_at hl 0 rfl) ?_
  refine lv_iload_n hx hb dMO_goes_1 rfl (lv_at hl 1 rfl) ?_
  refine lv_if_ne (tgt := 9) hx hb dMO_goes_2 (by decide) (fun _ => ?_) (fun c9 => absurd c9 (by decide))
  refine lv_iload_n hx hb dMO_goes_9 rfl (lv_at hl 2 rfl) ?_
  refine lv_if_ne (tgt := 17) hx hb dMO_goes_10 (by decide) (fun c9 => absurd (by decide) c9) (fun _ => ?_)
  refine lv_iconst (v := 2) hx hb dMO_goes_13 (by decide) ?_
  refine lv_goto (tgt := 18) hx hb dMO_goes_14 (by decide) ?_
  have hu7 : ∀ w ∈ u_ws "RingGuardModel" T_MO 53, w.before ([.ref mo, .int 1, .int 0] : List Value).toArray s = true := hB.words zU_MO
  refine va_put (D := (dC, dI)) (ci := 7) (v := .int 2) (ty := .int) (C := "RingGuardModel") (T := T_MO) (N := 53) hx hb hu7 zid ty_MO ok_MO nm_MO hown hK hP hD hS 0 rfl rfl 0 (by decide) (hB.word (zm4 k4_114) rfl) (fun _ h9 => h9) rfl (by decide +kernel) rfl rfl (Nat.le_of_ble_eq_true rfl) dMO_goes_18 (fun H locs hP hD hS => ?_)
  have hP : va_P (dC, dI) zCl [(mo, .inr (7, [.int 2, .int 0, .int 0, .int 0, .ref (mb 0), .ref (mb 1), .ref (mb 2), .ref (mb 3), .ref (mb 4), .ref (mb 5), .ref (mb 6), .ref (mb 7), .ref (mb 8), .ref (mb 9), .ref (mb 10), .ref (mb 11), .ref (mb 12), .ref (mb 13), .ref (mb 14), .ref (mb 15), .ref (mb 16), .ref (mb 17), .ref (mb 18), .ref (mb 19), .ref (mb 20), .ref (mb 21), .ref (mb 22), .ref (mb 23), .ref (mb 24), .ref (mb 25), .ref (mb 26), .ref (mb 27), .ref (mb 28), .ref (mb 29), .ref (mb 30), .ref (mb 31), .ref (mb 32), .int 0, .int 0, .int 0, .int 0, .int 0, .int 0, .int 0, .ref (mb 33), .ref (mb 34), .ref (mb 35), .ref (mb 36), .int 0, .int 0, .int 0, .int 0, .ref (mb 37)]))] H := hP
  have hD : va_D A [(mo, .inr (7, [.int 2, .int 0, .int 0, .int 0, .ref (mb 0), .ref (mb 1), .ref (mb 2), .ref (mb 3), .ref (mb 4), .ref (mb 5), .ref (mb 6), .ref (mb 7), .ref (mb 8), .ref (mb 9), .ref (mb 10), .ref (mb 11), .ref (mb 12), .ref (mb 13), .ref (mb 14), .ref (mb 15), .ref (mb 16), .ref (mb 17), .ref (mb 18), .ref (mb 19), .ref (mb 20), .ref (mb 21), .ref (mb 22), .ref (mb 23), .ref (mb 24), .ref (mb 25), .ref (mb 26), .ref (mb 27), .ref (mb 28), .ref (mb 29), .ref (mb 30), .ref (mb 31), .ref (mb 32), .int 0, .int 0, .int 0, .int 0, .int 0, .int 0, .int 0, .ref (mb 33), .ref (mb 34), .ref (mb 35), .ref (mb 36), .int 0, .int 0, .int 0, .int 0, .ref (mb 37)]))] := hD
  refine lv_aload_n hx hb dMO_goes_21 rfl (lv_at hl 0 rfl) ?_
  refine va_get (D := (dC, dI)) (ci := 7) (v := .int 2) (C := "RingGuardModel") (T := T_MO) (N := 53) hx hb hu7 zid hown hK hP 0 rfl rfl 0 (by decide) (hB.word (zm4 k4_114) rfl) (fun _ h9 => h9) rfl dMO_goes_22 ?_
  refine lv_if_ne (tgt := 32) hx hb dMO_goes_25 (by decide) (fun _ => ?_) (fun c9 => absurd c9 (by decide))
  refine lv_iconst (v := 0) hx hb dMO_goes_32 (by decide) ?_
  refine W.widen (k := 0) (n := 0) (Nat.le_of_ble_eq_true rfl) (Nat.le_of_ble_eq_true rfl) ?_
  have hP9 : va_P (dC, dI) zCl [(mo, .inr (7, [.int 2, .int 0, .int 0, .int 0, .ref (mb 0), .ref (mb 1), .ref (mb 2), .ref (mb 3), .ref (mb 4), .ref (mb 5), .ref (mb 6), .ref (mb 7), .ref (mb 8), .ref (mb 9), .ref (mb 10), .ref (mb 11), .ref (mb 12), .ref (mb 13), .ref (mb 14), .ref (mb 15), .ref (mb 16), .ref (mb 17), .ref (mb 18), .ref (mb 19), .ref (mb 20), .ref (mb 21), .ref (mb 22), .ref (mb 23), .ref (mb 24), .ref (mb 25), .ref (mb 26), .ref (mb 27), .ref (mb 28), .ref (mb 29), .ref (mb 30), .ref (mb 31), .ref (mb 32), .int 0, .int 0, .int 0, .int 0, .int 0, .int 0, .int 0, .ref (mb 33), .ref (mb 34), .ref (mb 35), .ref (mb 36), .int 0, .int 0, .int 0, .int 0, .ref (mb 37)]))] H := hP.sub [0] rfl
  have hD9 : va_D A [(mo, .inr (7, [.int 2, .int 0, .int 0, .int 0, .ref (mb 0), .ref (mb 1), .ref (mb 2), .ref (mb 3), .ref (mb 4), .ref (mb 5), .ref (mb 6), .ref (mb 7), .ref (mb 8), .ref (mb 9), .ref (mb 10), .ref (mb 11), .ref (mb 12), .ref (mb 13), .ref (mb 14), .ref (mb 15), .ref (mb 16), .ref (mb 17), .ref (mb 18), .ref (mb 19), .ref (mb 20), .ref (mb 21), .ref (mb 22), .ref (mb 23), .ref (mb 24), .ref (mb 25), .ref (mb 26), .ref (mb 27), .ref (mb 28), .ref (mb 29), .ref (mb 30), .ref (mb 31), .ref (mb 32), .int 0, .int 0, .int 0, .int 0, .int 0, .int 0, .int 0, .ref (mb 33), .ref (mb 34), .ref (mb 35), .ref (mb 36), .int 0, .int 0, .int 0, .int 0, .ref (mb 37)]))] := hD.sub [0] (by decide) rfl
  exact W.zret (v := 0) (ty := .boolean) hx hb hr rfl (fun t ht hW => ⟨⟨0, (), rfl, rfl, by rw [ht]; exact hP9, hD9⟩, hS.F ht⟩) hS.2.2 dMO_goes_33
set_option maxHeartbeats 4000000 in
set_option maxRecDepth 100000 in
theorem zm_thrown (l : Launch) (dC : Nat → ClassId) (dI : Nat → Nat → Nat) (cI cZ cJ : ClassId) (a0 : Array Value) (s0 : State) (mo : Nat) (mb : Nat → Nat) (sz : Nat) (k : Int32) : Met l yMO_thrown [Cond.code yMO_thrown bMO_thrown 1 (some .int)] ({ frames := 0, cells := 0, slots := 0, locals := 0 } : Room) (zP zCl dC dI (zTY cI cZ cJ) a0 s0 [.ref mo] sz [(mo, .inr (7, [.int k, .int 0, .int 0, .int 0, .ref (mb 0), .ref (mb 1), .ref (mb 2), .ref (mb 3), .ref (mb 4), .ref (mb 5), .ref (mb 6), .ref (mb 7), .ref (mb 8), .ref (mb 9), .ref (mb 10), .ref (mb 11), .ref (mb 12), .ref (mb 13), .ref (mb 14), .ref (mb 15), .ref (mb 16), .ref (mb 17), .ref (mb 18), .ref (mb 19), .ref (mb 20), .ref (mb 21), .ref (mb 22), .ref (mb 23), .ref (mb 24), .ref (mb 25), .ref (mb 26), .ref (mb 27), .ref (mb 28), .ref (mb 29), .ref (mb 30), .ref (mb 31), .ref (mb 32), .int 0, .int 0, .int 0, .int 0, .int 0, .int 0, .int 0, .ref (mb 33), .ref (mb 34), .ref (mb 35), .ref (mb 36), .int 0, .int 0, .int 0, .int 0, .ref (mb 37)]))]) (zQp (fun r => r = k) sz) 0 0 (zN sz) := by
  refine Met.ofW (cc := bMO_thrown) (maxL := 1) (ret := (some .int)) (by decide) rfl ?_
  intro p e s m args below meth c s₁ B hml hv
  obtain ⟨rfl, hsz, hP, hK, hD0, hB⟩ := hv
  have hx := B.exec
  have hb := B.bytes
  have hr := B.returns
  have hown : s.vm.findClass "RingGuardModel" = some m.cls := findClass_of_methodNamed B.named
  have hlocks := B.notSynchronized
  subst hsz
  have hD := hD0
  have hA0 : ∀ q, zN s.heap.size q → s0.heap.size ≤ q := zA1 hB
  have hAD : ∀ q, zN s0.heap.size q → s0.heap.size ≤ q := fun _ h => h
  have hA : ∀ q : Nat, s.heap.size ≤ q → zN s.heap.size q := fun _ h => h
  have hS : va_S (zN s.heap.size) s.heap s.heap [] := va_S.rf
  have hP : va_P (dC, dI) zCl [(mo, .inr (7, [.int k, .int 0, .int 0, .int 0, .ref (mb 0), .ref (mb 1), .ref (mb 2), .ref (mb 3), .ref (mb 4), .ref (mb 5), .ref (mb 6), .ref (mb 7), .ref (mb 8), .ref (mb 9), .ref (mb 10), .ref (mb 11), .ref (mb 12), .ref (mb 13), .ref (mb 14), .ref (mb 15), .ref (mb 16), .ref (mb 17), .ref (mb 18), .ref (mb 19), .ref (mb 20), .ref (mb 21), .ref (mb 22), .ref (mb 23), .ref (mb 24), .ref (mb 25), .ref (mb 26), .ref (mb 27), .ref (mb 28), .ref (mb 29), .ref (mb 30), .ref (mb 31), .ref (mb 32), .int 0, .int 0, .int 0, .int 0, .int 0, .int 0, .int 0, .ref (mb 33), .ref (mb 34), .ref (mb 35), .ref (mb 36), .int 0, .int 0, .int 0, .int 0, .ref (mb 37)]))] s.heap := hP
  have hl := lv_entry ([.ref mo]) (n := 1) (Nat.le_of_ble_eq_true rfl)
  rw [lg_entry_eq]
  generalize (lg_sl ([.ref mo]) ++ List.replicate (1 - (lg_sl ([.ref mo])).length) Slot.unset).toArray = ls at hl ⊢
  have hl : lv_has ls 1 [(0, .ref mo)] := hl
  refine lv_aload_n hx hb dMO_thrown_0 rfl (lv_at hl 0 rfl) ?_
  have hu7 : ∀ w ∈ u_ws "RingGuardModel" T_MO 53, w.before ([.ref mo] : List Value).toArray s = true := hB.words zU_MO
  refine va_get (D := (dC, dI)) (ci := 7) (v := .int k) (C := "RingGuardModel") (T := T_MO) (N := 53) hx hb hu7 zid hown hK hP 0 rfl rfl 0 (by decide) (hB.word (zm4 k4_114) rfl) (fun _ h9 => h9) rfl dMO_thrown_1 ?_
  refine W.widen (k := 0) (n := 0) (Nat.le_of_ble_eq_true rfl) (Nat.le_of_ble_eq_true rfl) ?_
  exact W.iret (v := k) hx hb hr (fun t ht hW => ⟨⟨k, (), rfl, rfl, trivial⟩, hS.F ht⟩) hS.2.2 dMO_thrown_4
set_option maxHeartbeats 4000000 in
set_option maxRecDepth 100000 in
theorem zm_look (l : Launch) (dC : Nat → ClassId) (dI : Nat → Nat → Nat) (cI cZ cJ : ClassId) (a0 : Array Value) (s0 : State) (mo : Nat) (mb : Nat → Nat) (sz : Nat) : Met l yMO_look [Cond.code yMO_look bMO_look 3 none] ({ frames := 0, cells := 0, slots := 0, locals := 0 } : Room) (zP zCl dC dI (zTY cI cZ cJ) a0 s0 [.ref mo] sz [(mo, .inr (7, [.int 1, .int 0, .int 0, .int 0, .ref (mb 0), .ref (mb 1), .ref (mb 2), .ref (mb 3), .ref (mb 4), .ref (mb 5), .ref (mb 6), .ref (mb 7), .ref (mb 8), .ref (mb 9), .ref (mb 10), .ref (mb 11), .ref (mb 12), .ref (mb 13), .ref (mb 14), .ref (mb 15), .ref (mb 16), .ref (mb 17), .ref (mb 18), .ref (mb 19), .ref (mb 20), .ref (mb 21), .ref (mb 22), .ref (mb 23), .ref (mb 24), .ref (mb 25), .ref (mb 26), .ref (mb 27), .ref (mb 28), .ref (mb 29), .ref (mb 30), .ref (mb 31), .ref (mb 32), .int 0, .int 0, .int 0, .int 0, .int 0, .int 0, .int 0, .ref (mb 33), .ref (mb 34), .ref (mb 35), .ref (mb 36), .int 0, .int 0, .int 0, .int 0, .ref (mb 37)]))]) (zQo sz) 0 0 (zN sz) := by
  refine Met.ofW (cc := bMO_look) (maxL := 3) (ret := none) (by decide) rfl ?_
  intro p e s m args below meth c s₁ B hml hv
  obtain ⟨rfl, hsz, hP, hK, hD0, hB⟩ := hv
  have hx := B.exec
  have hb := B.bytes
  have hr := B.returns
  have hown : s.vm.findClass "RingGuardModel" = some m.cls := findClass_of_methodNamed B.named
  have hlocks := B.notSynchronized
  subst hsz
  have hD := hD0
  have hA0 : ∀ q, zN s.heap.size q → s0.heap.size ≤ q := zA1 hB
  have hAD : ∀ q, zN s0.heap.size q → s0.heap.size ≤ q := fun _ h => h
  have hA : ∀ q : Nat, s.heap.size ≤ q → zN s.heap.size q := fun _ h => h
  have hS : va_S (zN s.heap.size) s.heap s.heap [] := va_S.rf
  have hP : va_P (dC, dI) zCl [(mo, .inr (7, [.int 1, .int 0, .int 0, .int 0, .ref (mb 0), .ref (mb 1), .ref (mb 2), .ref (mb 3), .ref (mb 4), .ref (mb 5), .ref (mb 6), .ref (mb 7), .ref (mb 8), .ref (mb 9), .ref (mb 10), .ref (mb 11), .ref (mb 12), .ref (mb 13), .ref (mb 14), .ref (mb 15), .ref (mb 16), .ref (mb 17), .ref (mb 18), .ref (mb 19), .ref (mb 20), .ref (mb 21), .ref (mb 22), .ref (mb 23), .ref (mb 24), .ref (mb 25), .ref (mb 26), .ref (mb 27), .ref (mb 28), .ref (mb 29), .ref (mb 30), .ref (mb 31), .ref (mb 32), .int 0, .int 0, .int 0, .int 0, .int 0, .int 0, .int 0, .ref (mb 33), .ref (mb 34), .ref (mb 35), .ref (mb 36), .int 0, .int 0, .int 0, .int 0, .ref (mb 37)]))] s.heap := hP
  have hl := lv_entry ([.ref mo]) (n := 3) (Nat.le_of_ble_eq_true rfl)
  rw [lg_entry_eq]
  generalize (lg_sl ([.ref mo]) ++ List.replicate (3 - (lg_sl ([.ref mo])).length) Slot.unset).toArray = ls at hl ⊢
  have hl : lv_has ls 3 [(0, .ref mo)] := hl
  refine lv_aload_n hx hb dMO_look_0 rfl (lv_at hl 0 rfl) ?_
  have hu7 : ∀ w ∈ u_ws "RingGuardModel" T_MO 53, w.before ([.ref mo] : List Value).toArray s = true := hB.words zU_MO
  refine va_get (D := (dC, dI)) (ci := 7) (v := .int 1) (C := "RingGuardModel") (T := T_MO) (N := 53) hx hb hu7 zid hown hK hP 0 rfl rfl 0 (by decide) (hB.word (zm4 k4_114) rfl) (fun _ h9 => h9) rfl dMO_look_1 ?_
  refine lv_if_le (tgt := 8) hx hb dMO_look_4 (by decide) (fun c9 => absurd c9 (by decide)) (fun _ => ?_)
  refine W.widen (k := 0) (n := 0) (Nat.le_of_ble_eq_true rfl) (Nat.le_of_ble_eq_true rfl) ?_
  exact W.vret hx hb hr (fun t ht hW => ⟨⟨(), rfl, trivial, trivial⟩, hS.F ht⟩) hS.2.2 dMO_look_7
set_option maxHeartbeats 4000000 in
set_option maxRecDepth 100000 in
theorem zm_faultOf (l : Launch) (dC : Nat → ClassId) (dI : Nat → Nat → Nat) (cI cZ cJ : ClassId) (a0 : Array Value) (s0 : State) (mo : Nat) (mb : Nat → Nat) (sz : Nat) : Met l yMO_faultOf [Cond.code yMO_faultOf bMO_faultOf 4 (some .int)] ({ frames := 0, cells := 0, slots := 0, locals := 0 } : Room) (zP zCl dC dI (zTY cI cZ cJ) a0 s0 [.ref mo] sz [(mo, .inr (7, [.int 0, .int 0, .int 0, .int 0, .ref (mb 0), .ref (mb 1), .ref (mb 2), .ref (mb 3), .ref (mb 4), .ref (mb 5), .ref (mb 6), .ref (mb 7), .ref (mb 8), .ref (mb 9), .ref (mb 10), .ref (mb 11), .ref (mb 12), .ref (mb 13), .ref (mb 14), .ref (mb 15), .ref (mb 16), .ref (mb 17), .ref (mb 18), .ref (mb 19), .ref (mb 20), .ref (mb 21), .ref (mb 22), .ref (mb 23), .ref (mb 24), .ref (mb 25), .ref (mb 26), .ref (mb 27), .ref (mb 28), .ref (mb 29), .ref (mb 30), .ref (mb 31), .ref (mb 32), .int 0, .int 0, .int 0, .int 0, .int 0, .int 0, .int 0, .ref (mb 33), .ref (mb 34), .ref (mb 35), .ref (mb 36), .int 0, .int 0, .int 0, .int 0, .ref (mb 37)]))]) (zQp (fun r => r = 7) sz) 0 0 (zN sz) := by
  refine Met.ofW (cc := bMO_faultOf) (maxL := 4) (ret := (some .int)) (by decide) rfl ?_
  intro p e s m args below meth c s₁ B hml hv
  obtain ⟨rfl, hsz, hP, hK, hD0, hB⟩ := hv
  have hx := B.exec
  have hb := B.bytes
  have hr := B.returns
  have hown : s.vm.findClass "RingGuardModel" = some m.cls := findClass_of_methodNamed B.named
  have hlocks := B.notSynchronized
  subst hsz
  have hD := hD0
  have hA0 : ∀ q, zN s.heap.size q → s0.heap.size ≤ q := zA1 hB
  have hAD : ∀ q, zN s0.heap.size q → s0.heap.size ≤ q := fun _ h => h
  have hA : ∀ q : Nat, s.heap.size ≤ q → zN s.heap.size q := fun _ h => h
  have hS : va_S (zN s.heap.size) s.heap s.heap [] := va_S.rf
  have hP : va_P (dC, dI) zCl [(mo, .inr (7, [.int 0, .int 0, .int 0, .int 0, .ref (mb 0), .ref (mb 1), .ref (mb 2), .ref (mb 3), .ref (mb 4), .ref (mb 5), .ref (mb 6), .ref (mb 7), .ref (mb 8), .ref (mb 9), .ref (mb 10), .ref (mb 11), .ref (mb 12), .ref (mb 13), .ref (mb 14), .ref (mb 15), .ref (mb 16), .ref (mb 17), .ref (mb 18), .ref (mb 19), .ref (mb 20), .ref (mb 21), .ref (mb 22), .ref (mb 23), .ref (mb 24), .ref (mb 25), .ref (mb 26), .ref (mb 27), .ref (mb 28), .ref (mb 29), .ref (mb 30), .ref (mb 31), .ref (mb 32), .int 0, .int 0, .int 0, .int 0, .int 0, .int 0, .int 0, .ref (mb 33), .ref (mb 34), .ref (mb 35), .ref (mb 36), .int 0, .int 0, .int 0, .int 0, .ref (mb 37)]))] s.heap := hP
  have hl := lv_entry ([.ref mo]) (n := 4) (Nat.le_of_ble_eq_true rfl)
  rw [lg_entry_eq]
  generalize (lg_sl ([.ref mo]) ++ List.replicate (4 - (lg_sl ([.ref mo])).length) Slot.unset).toArray = ls at hl ⊢
  have hl : lv_has ls 4 [(0, .ref mo)] := hl
  refine lv_aload_n hx hb dMO_faultOf_0 rfl (lv_at hl 0 rfl) ?_
  have hu7 : ∀ w ∈ u_ws "RingGuardModel" T_MO 53, w.before ([.ref mo] : List Value).toArray s = true := hB.words zU_MO
  refine va_get (D := (dC, dI)) (ci := 7) (v := .int 0) (C := "RingGuardModel") (T := T_MO) (N := 53) hx hb hu7 zid hown hK hP 0 rfl rfl 3 (by decide) (hB.word (zm4 k4_117) rfl) (fun _ h9 => h9) rfl dMO_faultOf_1 ?_
  refine lv_if_ne (tgt := 10) hx hb dMO_faultOf_4 (by decide) (fun c9 => absurd (by decide) c9) (fun _ => ?_)
  refine lv_bipush (v := 7) hx hb dMO_faultOf_7 (by decide) ?_
  refine W.widen (k := 0) (n := 0) (Nat.le_of_ble_eq_true rfl) (Nat.le_of_ble_eq_true rfl) ?_
  exact W.iret (v := 7) hx hb hr (fun t ht hW => ⟨⟨7, (), rfl, rfl, trivial⟩, hS.F ht⟩) hS.2.2 dMO_faultOf_9
set_option maxHeartbeats 4000000 in
set_option maxRecDepth 100000 in
theorem zm_bridge (l : Launch) (dC : Nat → ClassId) (dI : Nat → Nat → Nat) (cI cZ cJ : ClassId) (a0 : Array Value) (s0 : State) (mo : Nat) (mb : Nat → Nat) (sz : Nat) : Met l yMO_bridge [Cond.code yMO_bridge bMO_bridge 1 (some .int)] ({ frames := 0, cells := 0, slots := 0, locals := 0 } : Room) (zP zCl dC dI (zTY cI cZ cJ) a0 s0 [.ref mo] sz [(mo, .inr (7, [.int 0, .int 0, .int 0, .int 0, .ref (mb 0), .ref (mb 1), .ref (mb 2), .ref (mb 3), .ref (mb 4), .ref (mb 5), .ref (mb 6), .ref (mb 7), .ref (mb 8), .ref (mb 9), .ref (mb 10), .ref (mb 11), .ref (mb 12), .ref (mb 13), .ref (mb 14), .ref (mb 15), .ref (mb 16), .ref (mb 17), .ref (mb 18), .ref (mb 19), .ref (mb 20), .ref (mb 21), .ref (mb 22), .ref (mb 23), .ref (mb 24), .ref (mb 25), .ref (mb 26), .ref (mb 27), .ref (mb 28), .ref (mb 29), .ref (mb 30), .ref (mb 31), .ref (mb 32), .int 0, .int 0, .int 0, .int 0, .int 0, .int 0, .int 0, .ref (mb 33), .ref (mb 34), .ref (mb 35), .ref (mb 36), .int 0, .int 0, .int 0, .int 0, .ref (mb 37)]))]) (zQi zCl dC dI (fun r => r = 0) [(mo, .inr (7, [.int 0, .int 0, .int 1, .int 0, .ref (mb 0), .ref (mb 1), .ref (mb 2), .ref (mb 3), .ref (mb 4), .ref (mb 5), .ref (mb 6), .ref (mb 7), .ref (mb 8), .ref (mb 9), .ref (mb 10), .ref (mb 11), .ref (mb 12), .ref (mb 13), .ref (mb 14), .ref (mb 15), .ref (mb 16), .ref (mb 17), .ref (mb 18), .ref (mb 19), .ref (mb 20), .ref (mb 21), .ref (mb 22), .ref (mb 23), .ref (mb 24), .ref (mb 25), .ref (mb 26), .ref (mb 27), .ref (mb 28), .ref (mb 29), .ref (mb 30), .ref (mb 31), .ref (mb 32), .int 0, .int 0, .int 0, .int 0, .int 0, .int 0, .int 0, .ref (mb 33), .ref (mb 34), .ref (mb 35), .ref (mb 36), .int 0, .int 0, .int 0, .int 0, .ref (mb 37)]))] (va_A [(mo, .inr (7, [.int 0, .int 0, .int 0, .int 0, .ref (mb 0), .ref (mb 1), .ref (mb 2), .ref (mb 3), .ref (mb 4), .ref (mb 5), .ref (mb 6), .ref (mb 7), .ref (mb 8), .ref (mb 9), .ref (mb 10), .ref (mb 11), .ref (mb 12), .ref (mb 13), .ref (mb 14), .ref (mb 15), .ref (mb 16), .ref (mb 17), .ref (mb 18), .ref (mb 19), .ref (mb 20), .ref (mb 21), .ref (mb 22), .ref (mb 23), .ref (mb 24), .ref (mb 25), .ref (mb 26), .ref (mb 27), .ref (mb 28), .ref (mb 29), .ref (mb 30), .ref (mb 31), .ref (mb 32), .int 0, .int 0, .int 0, .int 0, .int 0, .int 0, .int 0, .ref (mb 33), .ref (mb 34), .ref (mb 35), .ref (mb 36), .int 0, .int 0, .int 0, .int 0, .ref (mb 37)]))] sz)) 0 0 (va_A [(mo, .inr (7, [.int 0, .int 0, .int 0, .int 0, .ref (mb 0), .ref (mb 1), .ref (mb 2), .ref (mb 3), .ref (mb 4), .ref (mb 5), .ref (mb 6), .ref (mb 7), .ref (mb 8), .ref (mb 9), .ref (mb 10), .ref (mb 11), .ref (mb 12), .ref (mb 13), .ref (mb 14), .ref (mb 15), .ref (mb 16), .ref (mb 17), .ref (mb 18), .ref (mb 19), .ref (mb 20), .ref (mb 21), .ref (mb 22), .ref (mb 23), .ref (mb 24), .ref (mb 25), .ref (mb 26), .ref (mb 27), .ref (mb 28), .ref (mb 29), .ref (mb 30), .ref (mb 31), .ref (mb 32), .int 0, .int 0, .int 0, .int 0, .int 0, .int 0, .int 0, .ref (mb 33), .ref (mb 34), .ref (mb 35), .ref (mb 36), .int 0, .int 0, .int 0, .int 0, .ref (mb 37)]))] sz) := by
  refine Met.ofW (cc := bMO_bridge) (maxL := 1) (ret := (some .int)) (by decide) rfl ?_
  intro p e s m args below meth c s₁ B hml hv
  obtain ⟨rfl, hsz, hP, hK, hD0, hB⟩ := hv
  have hx := B.exec
  have hb := B.bytes
  have hr := B.returns
  have hown : s.vm.findClass "RingGuardModel" = some m.cls := findClass_of_methodNamed B.named
  have hlocks := B.notSynchronized
  subst hsz
  have hD := hD0.self (sz := s.heap.size)
  have hA0 := zA0 hD0 hB
  generalize hAe : va_A [(mo, .inr (7, [.int 0, .int 0, .int 0, .int 0, .ref (mb 0), .ref (mb 1), .ref (mb 2), .ref (mb 3), .ref (mb 4), .ref (mb 5), .ref (mb 6), .ref (mb 7), .ref (mb 8), .ref (mb 9), .ref (mb 10), .ref (mb 11), .ref (mb 12), .ref (mb 13), .ref (mb 14), .ref (mb 15), .ref (mb 16), .ref (mb 17), .ref (mb 18), .ref (mb 19), .ref (mb 20), .ref (mb 21), .ref (mb 22), .ref (mb 23), .ref (mb 24), .ref (mb 25), .ref (mb 26), .ref (mb 27), .ref (mb 28), .ref (mb 29), .ref (mb 30), .ref (mb 31), .ref (mb 32), .int 0, .int 0, .int 0, .int 0, .int 0, .int 0, .int 0, .ref (mb 33), .ref (mb 34), .ref (mb 35), .ref (mb 36), .int 0, .int 0, .int 0, .int 0, .ref (mb 37)]))] s.heap.size = A at hD hA0 ⊢
  have hAD := hA0
  have hA : ∀ q : Nat, s.heap.size ≤ q → A q := fun q h => by rw [← hAe]; exact Or.inr h
  have hS : va_S A s.heap s.heap [] := va_S.rf
  have hP : va_P (dC, dI) zCl [(mo, .inr (7, [.int 0, .int 0, .int 0, .int 0, .ref (mb 0), .ref (mb 1), .ref (mb 2), .ref (mb 3), .ref (mb 4), .ref (mb 5), .ref (mb 6), .ref (mb 7), .ref (mb 8), .ref (mb 9), .ref (mb 10), .ref (mb 11), .ref (mb 12), .ref (mb 13), .ref (mb 14), .ref (mb 15), .ref (mb 16), .ref (mb 17), .ref (mb 18), .ref (mb 19), .ref (mb 20), .ref (mb 21), .ref (mb 22), .ref (mb 23), .ref (mb 24), .ref (mb 25), .ref (mb 26), .ref (mb 27), .ref (mb 28), .ref (mb 29), .ref (mb 30), .ref (mb 31), .ref (mb 32), .int 0, .int 0, .int 0, .int 0, .int 0, .int 0, .int 0, .ref (mb 33), .ref (mb 34), .ref (mb 35), .ref (mb 36), .int 0, .int 0, .int 0, .int 0, .ref (mb 37)]))] s.heap := hP
  have hl := lv_entry ([.ref mo]) (n := 1) (Nat.le_of_ble_eq_true rfl)
  rw [lg_entry_eq]
  generalize (lg_sl ([.ref mo]) ++ List.replicate (1 - (lg_sl ([.ref mo])).length) Slot.unset).toArray = ls at hl ⊢
  have hl : lv_has ls 1 [(0, .ref mo)] := hl
  refine lv_aload_n hx hb dMO_bridge_0 rfl (lv_at hl 0 rfl) ?_
  refine lv_aload_n hx hb dMO_bridge_1 rfl (lv_at hl 0 rfl) ?_
  have hu7 : ∀ w ∈ u_ws "RingGuardModel" T_MO 53, w.before ([.ref mo] : List Value).toArray s = true := hB.words zU_MO
  refine va_get (D := (dC, dI)) (ci := 7) (v := .int 0) (C := "RingGuardModel") (T := T_MO) (N := 53) hx hb hu7 zid hown hK hP 0 rfl rfl 1 (by decide) (hB.word (zm4 k4_115) rfl) (fun _ h9 => h9) rfl dMO_bridge_2 ?_
  refine lv_if_ne (tgt := 17) hx hb dMO_bridge_5 (by decide) (fun c9 => absurd (by decide) c9) (fun _ => ?_)
  refine lv_aload_n hx hb dMO_bridge_8 rfl (lv_at hl 0 rfl) ?_
  refine va_get (D := (dC, dI)) (ci := 7) (v := .int 0) (C := "RingGuardModel") (T := T_MO) (N := 53) hx hb hu7 zid hown hK hP 0 rfl rfl 2 (by decide) (hB.word (zm4 k4_116) rfl) (fun _ h9 => h9) rfl dMO_bridge_9 ?_
  refine lv_bipush (v := 48) hx hb dMO_bridge_12 (by decide) ?_
  refine lv_icmp_ne (tgt := 21) hx hb dMO_bridge_14 (by decide) (fun _ => ?_) (fun c9 => absurd c9 (by decide))
  refine lv_iconst (v := 0) hx hb dMO_bridge_21 (by decide) ?_
  refine va_put (D := (dC, dI)) (ci := 7) (v := .int 0) (ty := .int) (C := "RingGuardModel") (T := T_MO) (N := 53) hx hb hu7 zid ty_MO ok_MO nm_MO hown hK hP hD hS 0 rfl rfl 0 (by decide) (hB.word (zm4 k4_114) rfl) (fun _ h9 => h9) rfl (by decide +kernel) rfl rfl (Nat.le_of_ble_eq_true rfl) dMO_bridge_22 (fun H locs hP hD hS => ?_)
  have hP : va_P (dC, dI) zCl [(mo, .inr (7, [.int 0, .int 0, .int 0, .int 0, .ref (mb 0), .ref (mb 1), .ref (mb 2), .ref (mb 3), .ref (mb 4), .ref (mb 5), .ref (mb 6), .ref (mb 7), .ref (mb 8), .ref (mb 9), .ref (mb 10), .ref (mb 11), .ref (mb 12), .ref (mb 13), .ref (mb 14), .ref (mb 15), .ref (mb 16), .ref (mb 17), .ref (mb 18), .ref (mb 19), .ref (mb 20), .ref (mb 21), .ref (mb 22), .ref (mb 23), .ref (mb 24), .ref (mb 25), .ref (mb 26), .ref (mb 27), .ref (mb 28), .ref (mb 29), .ref (mb 30), .ref (mb 31), .ref (mb 32), .int 0, .int 0, .int 0, .int 0, .int 0, .int 0, .int 0, .ref (mb 33), .ref (mb 34), .ref (mb 35), .ref (mb 36), .int 0, .int 0, .int 0, .int 0, .ref (mb 37)]))] H := hP
  have hD : va_D A [(mo, .inr (7, [.int 0, .int 0, .int 0, .int 0, .ref (mb 0), .ref (mb 1), .ref (mb 2), .ref (mb 3), .ref (mb 4), .ref (mb 5), .ref (mb 6), .ref (mb 7), .ref (mb 8), .ref (mb 9), .ref (mb 10), .ref (mb 11), .ref (mb 12), .ref (mb 13), .ref (mb 14), .ref (mb 15), .ref (mb 16), .ref (mb 17), .ref (mb 18), .ref (mb 19), .ref (mb 20), .ref (mb 21), .ref (mb 22), .ref (mb 23), .ref (mb 24), .ref (mb 25), .ref (mb 26), .ref (mb 27), .ref (mb 28), .ref (mb 29), .ref (mb 30), .ref (mb 31), .ref (mb 32), .int 0, .int 0, .int 0, .int 0, .int 0, .int 0, .int 0, .ref (mb 33), .ref (mb 34), .ref (mb 35), .ref (mb 36), .int 0, .int 0, .int 0, .int 0, .ref (mb 37)]))] := hD
  refine lv_aload_n hx hb dMO_bridge_25 rfl (lv_at hl 0 rfl) ?_
  refine va_get (D := (dC, dI)) (ci := 7) (v := .int 0) (C := "RingGuardModel") (T := T_MO) (N := 53) hx hb hu7 zid hown hK hP 0 rfl rfl 0 (by decide) (hB.word (zm4 k4_114) rfl) (fun _ h9 => h9) rfl dMO_bridge_26 ?_
  refine lv_if_le (tgt := 34) hx hb dMO_bridge_29 (by decide) (fun _ => ?_) (fun c9 => absurd (by decide) c9)
  refine lv_aload_n hx hb dMO_bridge_34 rfl (lv_at hl 0 rfl) ?_
  refine lv_dup hx hb dMO_bridge_35 rfl ?_
  refine va_get (D := (dC, dI)) (ci := 7) (v := .int 0) (C := "RingGuardModel") (T := T_MO) (N := 53) hx hb hu7 zid hown hK hP 0 rfl rfl 2 (by decide) (hB.word (zm4 k4_116) rfl) (fun _ h9 => h9) rfl dMO_bridge_36 ?_
  refine lv_iconst (v := 1) hx hb dMO_bridge_39 (by decide) ?_
  refine lv_iadd hx hb dMO_bridge_40 ?_
  refine lv_topi (fun k1 ek1 => ?_)
  have ek1 : k1 = 1 := ek1.trans (by decide)
  subst ek1
  refine va_put (D := (dC, dI)) (ci := 7) (v := .int 1) (ty := .int) (C := "RingGuardModel") (T := T_MO) (N := 53) hx hb hu7 zid ty_MO ok_MO nm_MO hown hK hP hD hS 0 rfl rfl 2 (by decide) (hB.word (zm4 k4_116) rfl) (fun _ h9 => h9) rfl (by decide +kernel) rfl rfl (Nat.le_of_ble_eq_true rfl) dMO_bridge_41 (fun H locs hP hD hS => ?_)
  have hP : va_P (dC, dI) zCl [(mo, .inr (7, [.int 0, .int 0, .int 1, .int 0, .ref (mb 0), .ref (mb 1), .ref (mb 2), .ref (mb 3), .ref (mb 4), .ref (mb 5), .ref (mb 6), .ref (mb 7), .ref (mb 8), .ref (mb 9), .ref (mb 10), .ref (mb 11), .ref (mb 12), .ref (mb 13), .ref (mb 14), .ref (mb 15), .ref (mb 16), .ref (mb 17), .ref (mb 18), .ref (mb 19), .ref (mb 20), .ref (mb 21), .ref (mb 22), .ref (mb 23), .ref (mb 24), .ref (mb 25), .ref (mb 26), .ref (mb 27), .ref (mb 28), .ref (mb 29), .ref (mb 30), .ref (mb 31), .ref (mb 32), .int 0, .int 0, .int 0, .int 0, .int 0, .int 0, .int 0, .ref (mb 33), .ref (mb 34), .ref (mb 35), .ref (mb 36), .int 0, .int 0, .int 0, .int 0, .ref (mb 37)]))] H := hP
  have hD : va_D A [(mo, .inr (7, [.int 0, .int 0, .int 1, .int 0, .ref (mb 0), .ref (mb 1), .ref (mb 2), .ref (mb 3), .ref (mb 4), .ref (mb 5), .ref (mb 6), .ref (mb 7), .ref (mb 8), .ref (mb 9), .ref (mb 10), .ref (mb 11), .ref (mb 12), .ref (mb 13), .ref (mb 14), .ref (mb 15), .ref (mb 16), .ref (mb 17), .ref (mb 18), .ref (mb 19), .ref (mb 20), .ref (mb 21), .ref (mb 22), .ref (mb 23), .ref (mb 24), .ref (mb 25), .ref (mb 26), .ref (mb 27), .ref (mb 28), .ref (mb 29), .ref (mb 30), .ref (mb 31), .ref (mb 32), .int 0, .int 0, .int 0, .int 0, .int 0, .int 0, .int 0, .ref (mb 33), .ref (mb 34), .ref (mb 35), .ref (mb 36), .int 0, .int 0, .int 0, .int 0, .ref (mb 37)]))] := hD
  refine lv_aload_n hx hb dMO_bridge_44 rfl (lv_at hl 0 rfl) ?_
  refine va_get (D := (dC, dI)) (ci := 7) (v := .int 1) (C := "RingGuardModel") (T := T_MO) (N := 53) hx hb hu7 zid hown hK hP 0 rfl rfl 2 (by decide) (hB.word (zm4 k4_116) rfl) (fun _ h9 => h9) rfl dMO_bridge_45 ?_
  refine lv_iconst (v := 1) hx hb dMO_bridge_48 (by decide) ?_
  refine lv_isub hx hb dMO_bridge_49 ?_
  refine lv_topi (fun k2 ek2 => ?_)
  have ek2 : k2 = 0 := ek2.trans (by decide)
  subst ek2
  refine W.widen (k := 0) (n := 0) (Nat.le_of_ble_eq_true rfl) (Nat.le_of_ble_eq_true rfl) ?_
  have hP9 : va_P (dC, dI) zCl [(mo, .inr (7, [.int 0, .int 0, .int 1, .int 0, .ref (mb 0), .ref (mb 1), .ref (mb 2), .ref (mb 3), .ref (mb 4), .ref (mb 5), .ref (mb 6), .ref (mb 7), .ref (mb 8), .ref (mb 9), .ref (mb 10), .ref (mb 11), .ref (mb 12), .ref (mb 13), .ref (mb 14), .ref (mb 15), .ref (mb 16), .ref (mb 17), .ref (mb 18), .ref (mb 19), .ref (mb 20), .ref (mb 21), .ref (mb 22), .ref (mb 23), .ref (mb 24), .ref (mb 25), .ref (mb 26), .ref (mb 27), .ref (mb 28), .ref (mb 29), .ref (mb 30), .ref (mb 31), .ref (mb 32), .int 0, .int 0, .int 0, .int 0, .int 0, .int 0, .int 0, .ref (mb 33), .ref (mb 34), .ref (mb 35), .ref (mb 36), .int 0, .int 0, .int 0, .int 0, .ref (mb 37)]))] H := hP.sub [0] rfl
  have hD9 : va_D A [(mo, .inr (7, [.int 0, .int 0, .int 1, .int 0, .ref (mb 0), .ref (mb 1), .ref (mb 2), .ref (mb 3), .ref (mb 4), .ref (mb 5), .ref (mb 6), .ref (mb 7), .ref (mb 8), .ref (mb 9), .ref (mb 10), .ref (mb 11), .ref (mb 12), .ref (mb 13), .ref (mb 14), .ref (mb 15), .ref (mb 16), .ref (mb 17), .ref (mb 18), .ref (mb 19), .ref (mb 20), .ref (mb 21), .ref (mb 22), .ref (mb 23), .ref (mb 24), .ref (mb 25), .ref (mb 26), .ref (mb 27), .ref (mb 28), .ref (mb 29), .ref (mb 30), .ref (mb 31), .ref (mb 32), .int 0, .int 0, .int 0, .int 0, .int 0, .int 0, .int 0, .ref (mb 33), .ref (mb 34), .ref (mb 35), .ref (mb 36), .int 0, .int 0, .int 0, .int 0, .ref (mb 37)]))] := hD.sub [0] (by decide) rfl
  exact W.iret (v := 0) hx hb hr (fun t ht hW => ⟨⟨0, (), rfl, rfl, by rw [ht]; exact hP9, hD9⟩, hS.F ht⟩) hS.2.2 dMO_bridge_50
set_option maxHeartbeats 4000000 in
set_option maxRecDepth 100000 in
theorem zm_start (l : Launch) (dC : Nat → ClassId) (dI : Nat → Nat → Nat) (cI cZ cJ : ClassId) (a0 : Array Value) (s0 : State) (mo : Nat) (mb : Nat → Nat) (sz : Nat) : Met l yMO_start [Cond.code yMO_start bMO_start 5 (some .int)] ({ frames := 1, cells := 0, slots := 0, locals := 23 } : Room) (zP zCl dC dI (zTY cI cZ cJ) a0 s0 [.ref mo] sz [(mo, .inr (7, [.int 0, .int 0, .int 0, .int 0, .ref (mb 0), .ref (mb 1), .ref (mb 2), .ref (mb 3), .ref (mb 4), .ref (mb 5), .ref (mb 6), .ref (mb 7), .ref (mb 8), .ref (mb 9), .ref (mb 10), .ref (mb 11), .ref (mb 12), .ref (mb 13), .ref (mb 14), .ref (mb 15), .ref (mb 16), .ref (mb 17), .ref (mb 18), .ref (mb 19), .ref (mb 20), .ref (mb 21), .ref (mb 22), .ref (mb 23), .ref (mb 24), .ref (mb 25), .ref (mb 26), .ref (mb 27), .ref (mb 28), .ref (mb 29), .ref (mb 30), .ref (mb 31), .ref (mb 32), .int 0, .int 0, .int 0, .int 0, .int 0, .int 0, .int 0, .ref (mb 33), .ref (mb 34), .ref (mb 35), .ref (mb 36), .int 0, .int 0, .int 0, .int 0, .ref (mb 37)]))]) (zQi zCl dC dI (fun r => r = 7) [(mo, .inr (7, [.int 0, .int 0, .int 0, .int 0, .ref (mb 0), .ref (mb 1), .ref (mb 2), .ref (mb 3), .ref (mb 4), .ref (mb 5), .ref (mb 6), .ref (mb 7), .ref (mb 8), .ref (mb 9), .ref (mb 10), .ref (mb 11), .ref (mb 12), .ref (mb 13), .ref (mb 14), .ref (mb 15), .ref (mb 16), .ref (mb 17), .ref (mb 18), .ref (mb 19), .ref (mb 20), .ref (mb 21), .ref (mb 22), .ref (mb 23), .ref (mb 24), .ref (mb 25), .ref (mb 26), .ref (mb 27), .ref (mb 28), .ref (mb 29), .ref (mb 30), .ref (mb 31), .ref (mb 32), .int 0, .int 0, .int 0, .int 0, .int 0, .int 0, .int 0, .ref (mb 33), .ref (mb 34), .ref (mb 35), .ref (mb 36), .int 0, .int 0, .int 0, .int 0, .ref (mb 37)]))] (va_A [(mo, .inr (7, [.int 0, .int 0, .int 0, .int 0, .ref (mb 0), .ref (mb 1), .ref (mb 2), .ref (mb 3), .ref (mb 4), .ref (mb 5), .ref (mb 6), .ref (mb 7), .ref (mb 8), .ref (mb 9), .ref (mb 10), .ref (mb 11), .ref (mb 12), .ref (mb 13), .ref (mb 14), .ref (mb 15), .ref (mb 16), .ref (mb 17), .ref (mb 18), .ref (mb 19), .ref (mb 20), .ref (mb 21), .ref (mb 22), .ref (mb 23), .ref (mb 24), .ref (mb 25), .ref (mb 26), .ref (mb 27), .ref (mb 28), .ref (mb 29), .ref (mb 30), .ref (mb 31), .ref (mb 32), .int 0, .int 0, .int 0, .int 0, .int 0, .int 0, .int 0, .ref (mb 33), .ref (mb 34), .ref (mb 35), .ref (mb 36), .int 0, .int 0, .int 0, .int 0, .ref (mb 37)]))] sz)) 0 0 (va_A [(mo, .inr (7, [.int 0, .int 0, .int 0, .int 0, .ref (mb 0), .ref (mb 1), .ref (mb 2), .ref (mb 3), .ref (mb 4), .ref (mb 5), .ref (mb 6), .ref (mb 7), .ref (mb 8), .ref (mb 9), .ref (mb 10), .ref (mb 11), .ref (mb 12), .ref (mb 13), .ref (mb 14), .ref (mb 15), .ref (mb 16), .ref (mb 17), .ref (mb 18), .ref (mb 19), .ref (mb 20), .ref (mb 21), .ref (mb 22), .ref (mb 23), .ref (mb 24), .ref (mb 25), .ref (mb 26), .ref (mb 27), .ref (mb 28), .ref (mb 29), .ref (mb 30), .ref (mb 31), .ref (mb 32), .int 0, .int 0, .int 0, .int 0, .int 0, .int 0, .int 0, .ref (mb 33), .ref (mb 34), .ref (mb 35), .ref (mb 36), .int 0, .int 0, .int 0, .int 0, .ref (mb 37)]))] sz) := by
  refine Met.ofW (cc := bMO_start) (maxL := 5) (ret := (some .int)) (by decide) rfl ?_
  intro p e s m args below meth c s₁ B hml hv
  obtain ⟨rfl, hsz, hP, hK, hD0, hB⟩ := hv
  have hx := B.exec
  have hb := B.bytes
  have hr := B.returns
  have hown : s.vm.findClass "RingGuardModel" = some m.cls := findClass_of_methodNamed B.named
  have hlocks := B.notSynchronized
  subst hsz
  have hD := hD0.self (sz := s.heap.size)
  have hA0 := zA0 hD0 hB
  generalize hAe : va_A [(mo, .inr (7, [.int 0, .int 0, .int 0, .int 0, .ref (mb 0), .ref (mb 1), .ref (mb 2), .ref (mb 3), .ref (mb 4), .ref (mb 5), .ref (mb 6), .ref (mb 7), .ref (mb 8), .ref (mb 9), .ref (mb 10), .ref (mb 11), .ref (mb 12), .ref (mb 13), .ref (mb 14), .ref (mb 15), .ref (mb 16), .ref (mb 17), .ref (mb 18), .ref (mb 19), .ref (mb 20), .ref (mb 21), .ref (mb 22), .ref (mb 23), .ref (mb 24), .ref (mb 25), .ref (mb 26), .ref (mb 27), .ref (mb 28), .ref (mb 29), .ref (mb 30), .ref (mb 31), .ref (mb 32), .int 0, .int 0, .int 0, .int 0, .int 0, .int 0, .int 0, .ref (mb 33), .ref (mb 34), .ref (mb 35), .ref (mb 36), .int 0, .int 0, .int 0, .int 0, .ref (mb 37)]))] s.heap.size = A at hD hA0 ⊢
  have hAD := hA0
  have hA : ∀ q : Nat, s.heap.size ≤ q → A q := fun q h => by rw [← hAe]; exact Or.inr h
  have hS : va_S A s.heap s.heap [] := va_S.rf
  have hP : va_P (dC, dI) zCl [(mo, .inr (7, [.int 0, .int 0, .int 0, .int 0, .ref (mb 0), .ref (mb 1), .ref (mb 2), .ref (mb 3), .ref (mb 4), .ref (mb 5), .ref (mb 6), .ref (mb 7), .ref (mb 8), .ref (mb 9), .ref (mb 10), .ref (mb 11), .ref (mb 12), .ref (mb 13), .ref (mb 14), .ref (mb 15), .ref (mb 16), .ref (mb 17), .ref (mb 18), .ref (mb 19), .ref (mb 20), .ref (mb 21), .ref (mb 22), .ref (mb 23), .ref (mb 24), .ref (mb 25), .ref (mb 26), .ref (mb 27), .ref (mb 28), .ref (mb 29), .ref (mb 30), .ref (mb 31), .ref (mb 32), .int 0, .int 0, .int 0, .int 0, .int 0, .int 0, .int 0, .ref (mb 33), .ref (mb 34), .ref (mb 35), .ref (mb 36), .int 0, .int 0, .int 0, .int 0, .ref (mb 37)]))] s.heap := hP
  have hl := lv_entry ([.ref mo]) (n := 5) (Nat.le_of_ble_eq_true rfl)
  rw [lg_entry_eq]
  generalize (lg_sl ([.ref mo]) ++ List.replicate (5 - (lg_sl ([.ref mo])).length) Slot.unset).toArray = ls at hl ⊢
  have hl : lv_has ls 5 [(0, .ref mo)] := hl
  refine lv_aload_n hx hb dMO_start_0 rfl (lv_at hl 0 rfl) ?_
  refine lv_aload_n hx hb dMO_start_1 rfl (lv_at hl 0 rfl) ?_
  have hu7 : ∀ w ∈ u_ws "RingGuardModel" T_MO 53, w.before ([.ref mo] : List Value).toArray s = true := hB.words zU_MO
  refine va_get (D := (dC, dI)) (ci := 7) (v := .int 0) (C := "RingGuardModel") (T := T_MO) (N := 53) hx hb hu7 zid hown hK hP 0 rfl rfl 1 (by decide) (hB.word (zm4 k4_115) rfl) (fun _ h9 => h9) rfl dMO_start_2 ?_
  refine lv_if_eq (tgt := 12) hx hb dMO_start_5 (by decide) (fun _ => ?_) (fun c9 => absurd (by decide) c9)
  refine lv_iconst (v := 0) hx hb dMO_start_12 (by decide) ?_
  refine va_put (D := (dC, dI)) (ci := 7) (v := .int 0) (ty := .int) (C := "RingGuardModel") (T := T_MO) (N := 53) hx hb hu7 zid ty_MO ok_MO nm_MO hown hK hP hD hS 0 rfl rfl 0 (by decide) (hB.word (zm4 k4_114) rfl) (fun _ h9 => h9) rfl (by decide +kernel) rfl rfl (Nat.le_of_ble_eq_true rfl) dMO_start_13 (fun H locs hP hD hS => ?_)
  have hP : va_P (dC, dI) zCl [(mo, .inr (7, [.int 0, .int 0, .int 0, .int 0, .ref (mb 0), .ref (mb 1), .ref (mb 2), .ref (mb 3), .ref (mb 4), .ref (mb 5), .ref (mb 6), .ref (mb 7), .ref (mb 8), .ref (mb 9), .ref (mb 10), .ref (mb 11), .ref (mb 12), .ref (mb 13), .ref (mb 14), .ref (mb 15), .ref (mb 16), .ref (mb 17), .ref (mb 18), .ref (mb 19), .ref (mb 20), .ref (mb 21), .ref (mb 22), .ref (mb 23), .ref (mb 24), .ref (mb 25), .ref (mb 26), .ref (mb 27), .ref (mb 28), .ref (mb 29), .ref (mb 30), .ref (mb 31), .ref (mb 32), .int 0, .int 0, .int 0, .int 0, .int 0, .int 0, .int 0, .ref (mb 33), .ref (mb 34), .ref (mb 35), .ref (mb 36), .int 0, .int 0, .int 0, .int 0, .ref (mb 37)]))] H := hP
  have hD : va_D A [(mo, .inr (7, [.int 0, .int 0, .int 0, .int 0, .ref (mb 0), .ref (mb 1), .ref (mb 2), .ref (mb 3), .ref (mb 4), .ref (mb 5), .ref (mb 6), .ref (mb 7), .ref (mb 8), .ref (mb 9), .ref (mb 10), .ref (mb 11), .ref (mb 12), .ref (mb 13), .ref (mb 14), .ref (mb 15), .ref (mb 16), .ref (mb 17), .ref (mb 18), .ref (mb 19), .ref (mb 20), .ref (mb 21), .ref (mb 22), .ref (mb 23), .ref (mb 24), .ref (mb 25), .ref (mb 26), .ref (mb 27), .ref (mb 28), .ref (mb 29), .ref (mb 30), .ref (mb 31), .ref (mb 32), .int 0, .int 0, .int 0, .int 0, .int 0, .int 0, .int 0, .ref (mb 33), .ref (mb 34), .ref (mb 35), .ref (mb 36), .int 0, .int 0, .int 0, .int 0, .ref (mb 37)]))] := hD
  refine lv_aload_n hx hb dMO_start_16 rfl (lv_at hl 0 rfl) ?_
  refine va_get (D := (dC, dI)) (ci := 7) (v := .int 0) (C := "RingGuardModel") (T := T_MO) (N := 53) hx hb hu7 zid hown hK hP 0 rfl rfl 0 (by decide) (hB.word (zm4 k4_114) rfl) (fun _ h9 => h9) rfl dMO_start_17 ?_
  refine lv_if_le (tgt := 25) hx hb dMO_start_20 (by decide) (fun _ => ?_) (fun c9 => absurd (by decide) c9)
  refine lv_aload_n hx hb dMO_start_25 rfl (lv_at hl 0 rfl) ?_
  have hPc : va_P (dC, dI) zCl [(mo, .inr (7, [.int 0, .int 0, .int 0, .int 0, .ref (mb 0), .ref (mb 1), .ref (mb 2), .ref (mb 3), .ref (mb 4), .ref (mb 5), .ref (mb 6), .ref (mb 7), .ref (mb 8), .ref (mb 9), .ref (mb 10), .ref (mb 11), .ref (mb 12), .ref (mb 13), .ref (mb 14), .ref (mb 15), .ref (mb 16), .ref (mb 17), .ref (mb 18), .ref (mb 19), .ref (mb 20), .ref (mb 21), .ref (mb 22), .ref (mb 23), .ref (mb 24), .ref (mb 25), .ref (mb 26), .ref (mb 27), .ref (mb 28), .ref (mb 29), .ref (mb 30), .ref (mb 31), .ref (mb 32), .int 0, .int 0, .int 0, .int 0, .int 0, .int 0, .int 0, .ref (mb 33), .ref (mb 34), .ref (mb 35), .ref (mb 36), .int 0, .int 0, .int 0, .int 0, .ref (mb 37)]))] H := hP.sub [0] rfl
  have hDc : va_D A [(mo, .inr (7, [.int 0, .int 0, .int 0, .int 0, .ref (mb 0), .ref (mb 1), .ref (mb 2), .ref (mb 3), .ref (mb 4), .ref (mb 5), .ref (mb 6), .ref (mb 7), .ref (mb 8), .ref (mb 9), .ref (mb 10), .ref (mb 11), .ref (mb 12), .ref (mb 13), .ref (mb 14), .ref (mb 15), .ref (mb 16), .ref (mb 17), .ref (mb 18), .ref (mb 19), .ref (mb 20), .ref (mb 21), .ref (mb 22), .ref (mb 23), .ref (mb 24), .ref (mb 25), .ref (mb 26), .ref (mb 27), .ref (mb 28), .ref (mb 29), .ref (mb 30), .ref (mb 31), .ref (mb 32), .int 0, .int 0, .int 0, .int 0, .int 0, .int 0, .int 0, .ref (mb 33), .ref (mb 34), .ref (mb 35), .ref (mb 36), .int 0, .int 0, .int 0, .int 0, .ref (mb 37)]))] := hD.sub [0] (by decide) rfl
  refine zcallp (va_runV (As := []) (rest := []) ⟨hx, hb, hml, hown, zno⟩ (zm_faultOf l dC dI cI cZ cJ a0 s0 mo mb H.size) (zcw 0 (hB.word (zm5 k5_72) rfl) (hB.word (zm1 k1_9) rfl) (hB.word (zm5 k5_69) rfl) (hB.word (zm5 k5_71) rfl) (k2_selects_private (by decide) (hB.word (zm4 k4_109) rfl) (hB.word (zm5 k5_70) rfl) (hB.word (zm5 k5_71) rfl)) rfl rfl (by decide +kernel) ⟨Nat.le_of_ble_eq_true rfl, Nat.le_of_ble_eq_true rfl⟩) ⟨zP_blind, va_recv hK hP (ci := 7) (q0 := 0) rfl rfl, zP_pre hPc hK hDc hAD (zB_on hB hA0 hS)⟩ rfl rfl hl.1 rfl (lv_room (Nat.le_of_ble_eq_true rfl)) dMO_start_26 ⟨Nat.le_of_ble_eq_true rfl, Nat.le_of_ble_eq_true rfl⟩) hS hA (fun r1 H1 locs hr1 hz1 hk1 hS => ?_)
  have hP := zKeep hP hk1
  generalize H1 = H at hP hS ⊢
  have hP : va_P (dC, dI) zCl [(mo, .inr (7, [.int 0, .int 0, .int 0, .int 0, .ref (mb 0), .ref (mb 1), .ref (mb 2), .ref (mb 3), .ref (mb 4), .ref (mb 5), .ref (mb 6), .ref (mb 7), .ref (mb 8), .ref (mb 9), .ref (mb 10), .ref (mb 11), .ref (mb 12), .ref (mb 13), .ref (mb 14), .ref (mb 15), .ref (mb 16), .ref (mb 17), .ref (mb 18), .ref (mb 19), .ref (mb 20), .ref (mb 21), .ref (mb 22), .ref (mb 23), .ref (mb 24), .ref (mb 25), .ref (mb 26), .ref (mb 27), .ref (mb 28), .ref (mb 29), .ref (mb 30), .ref (mb 31), .ref (mb 32), .int 0, .int 0, .int 0, .int 0, .int 0, .int 0, .int 0, .ref (mb 33), .ref (mb 34), .ref (mb 35), .ref (mb 36), .int 0, .int 0, .int 0, .int 0, .ref (mb 37)]))] H := hP
  subst hr1
  refine lv_istore_n (lv' := [(1, .int 7), (0, .ref mo)]) hx hb dMO_start_29 rfl hl (by decide) rfl (fun ls hl => ?_)
  refine lv_iload_n hx hb dMO_start_30 rfl (lv_at hl 0 rfl) ?_
  refine lv_if_le (tgt := 36) hx hb dMO_start_31 (by decide) (fun c9 => absurd c9 (by decide)) (fun _ => ?_)
  refine lv_iload_n hx hb dMO_start_34 rfl (lv_at hl 0 rfl) ?_
  refine W.widen (k := 0) (n := 0) (Nat.le_of_ble_eq_true rfl) (Nat.le_of_ble_eq_true rfl) ?_
  have hP9 : va_P (dC, dI) zCl [(mo, .inr (7, [.int 0, .int 0, .int 0, .int 0, .ref (mb 0), .ref (mb 1), .ref (mb 2), .ref (mb 3), .ref (mb 4), .ref (mb 5), .ref (mb 6), .ref (mb 7), .ref (mb 8), .ref (mb 9), .ref (mb 10), .ref (mb 11), .ref (mb 12), .ref (mb 13), .ref (mb 14), .ref (mb 15), .ref (mb 16), .ref (mb 17), .ref (mb 18), .ref (mb 19), .ref (mb 20), .ref (mb 21), .ref (mb 22), .ref (mb 23), .ref (mb 24), .ref (mb 25), .ref (mb 26), .ref (mb 27), .ref (mb 28), .ref (mb 29), .ref (mb 30), .ref (mb 31), .ref (mb 32), .int 0, .int 0, .int 0, .int 0, .int 0, .int 0, .int 0, .ref (mb 33), .ref (mb 34), .ref (mb 35), .ref (mb 36), .int 0, .int 0, .int 0, .int 0, .ref (mb 37)]))] H := hP.sub [0] rfl
  have hD9 : va_D A [(mo, .inr (7, [.int 0, .int 0, .int 0, .int 0, .ref (mb 0), .ref (mb 1), .ref (mb 2), .ref (mb 3), .ref (mb 4), .ref (mb 5), .ref (mb 6), .ref (mb 7), .ref (mb 8), .ref (mb 9), .ref (mb 10), .ref (mb 11), .ref (mb 12), .ref (mb 13), .ref (mb 14), .ref (mb 15), .ref (mb 16), .ref (mb 17), .ref (mb 18), .ref (mb 19), .ref (mb 20), .ref (mb 21), .ref (mb 22), .ref (mb 23), .ref (mb 24), .ref (mb 25), .ref (mb 26), .ref (mb 27), .ref (mb 28), .ref (mb 29), .ref (mb 30), .ref (mb 31), .ref (mb 32), .int 0, .int 0, .int 0, .int 0, .int 0, .int 0, .int 0, .ref (mb 33), .ref (mb 34), .ref (mb 35), .ref (mb 36), .int 0, .int 0, .int 0, .int 0, .ref (mb 37)]))] := hD.sub [0] (by decide) rfl
  exact W.iret (v := 7) hx hb hr (fun t ht hW => ⟨⟨7, (), rfl, rfl, by rw [ht]; exact hP9, hD9⟩, hS.F ht⟩) hS.2.2 dMO_start_35
set_option maxHeartbeats 4000000 in
set_option maxRecDepth 100000 in
theorem zm_link (l : Launch) (dC : Nat → ClassId) (dI : Nat → Nat → Nat) (cI cZ cJ : ClassId) (a0 : Array Value) (s0 : State) (mo : Nat) (mb : Nat → Nat) (sz : Nat) (p0 p1 p2 : Int32) : Met l yMO_link [Cond.code yMO_link bMO_link 4 (some .int)] ({ frames := 1, cells := 0, slots := 0, locals := 22 } : Room) (zP zCl dC dI (zTY cI cZ cJ) a0 s0 [.ref mo, .int p0, .int p1, .int p2] sz [(mo, .inr (7, [.int 0, .int 0, .int 0, .int 0, .ref (mb 0), .ref (mb 1), .ref (mb 2), .ref (mb 3), .ref (mb 4), .ref (mb 5), .ref (mb 6), .ref (mb 7), .ref (mb 8), .ref (mb 9), .ref (mb 10), .ref (mb 11), .ref (mb 12), .ref (mb 13), .ref (mb 14), .ref (mb 15), .ref (mb 16), .ref (mb 17), .ref (mb 18), .ref (mb 19), .ref (mb 20), .ref (mb 21), .ref (mb 22), .ref (mb 23), .ref (mb 24), .ref (mb 25), .ref (mb 26), .ref (mb 27), .ref (mb 28), .ref (mb 29), .ref (mb 30), .ref (mb 31), .ref (mb 32), .int 0, .int 0, .int 0, .int 0, .int 0, .int 0, .int 0, .ref (mb 33), .ref (mb 34), .ref (mb 35), .ref (mb 36), .int 0, .int 0, .int 0, .int 0, .ref (mb 37)]))]) (zQi zCl dC dI (fun r => r = 0) [(mo, .inr (7, [.int 1, .int 0, .int 0, .int 0, .ref (mb 0), .ref (mb 1), .ref (mb 2), .ref (mb 3), .ref (mb 4), .ref (mb 5), .ref (mb 6), .ref (mb 7), .ref (mb 8), .ref (mb 9), .ref (mb 10), .ref (mb 11), .ref (mb 12), .ref (mb 13), .ref (mb 14), .ref (mb 15), .ref (mb 16), .ref (mb 17), .ref (mb 18), .ref (mb 19), .ref (mb 20), .ref (mb 21), .ref (mb 22), .ref (mb 23), .ref (mb 24), .ref (mb 25), .ref (mb 26), .ref (mb 27), .ref (mb 28), .ref (mb 29), .ref (mb 30), .ref (mb 31), .ref (mb 32), .int 0, .int 0, .int 0, .int 0, .int 0, .int 0, .int 0, .ref (mb 33), .ref (mb 34), .ref (mb 35), .ref (mb 36), .int 0, .int 0, .int 0, .int 0, .ref (mb 37)]))] (va_A [(mo, .inr (7, [.int 0, .int 0, .int 0, .int 0, .ref (mb 0), .ref (mb 1), .ref (mb 2), .ref (mb 3), .ref (mb 4), .ref (mb 5), .ref (mb 6), .ref (mb 7), .ref (mb 8), .ref (mb 9), .ref (mb 10), .ref (mb 11), .ref (mb 12), .ref (mb 13), .ref (mb 14), .ref (mb 15), .ref (mb 16), .ref (mb 17), .ref (mb 18), .ref (mb 19), .ref (mb 20), .ref (mb 21), .ref (mb 22), .ref (mb 23), .ref (mb 24), .ref (mb 25), .ref (mb 26), .ref (mb 27), .ref (mb 28), .ref (mb 29), .ref (mb 30), .ref (mb 31), .ref (mb 32), .int 0, .int 0, .int 0, .int 0, .int 0, .int 0, .int 0, .ref (mb 33), .ref (mb 34), .ref (mb 35), .ref (mb 36), .int 0, .int 0, .int 0, .int 0, .ref (mb 37)]))] sz)) 0 0 (va_A [(mo, .inr (7, [.int 0, .int 0, .int 0, .int 0, .ref (mb 0), .ref (mb 1), .ref (mb 2), .ref (mb 3), .ref (mb 4), .ref (mb 5), .ref (mb 6), .ref (mb 7), .ref (mb 8), .ref (mb 9), .ref (mb 10), .ref (mb 11), .ref (mb 12), .ref (mb 13), .ref (mb 14), .ref (mb 15), .ref (mb 16), .ref (mb 17), .ref (mb 18), .ref (mb 19), .ref (mb 20), .ref (mb 21), .ref (mb 22), .ref (mb 23), .ref (mb 24), .ref (mb 25), .ref (mb 26), .ref (mb 27), .ref (mb 28), .ref (mb 29), .ref (mb 30), .ref (mb 31), .ref (mb 32), .int 0, .int 0, .int 0, .int 0, .int 0, .int 0, .int 0, .ref (mb 33), .ref (mb 34), .ref (mb 35), .ref (mb 36), .int 0, .int 0, .int 0, .int 0, .ref (mb 37)]))] sz) := by
  refine Met.ofW (cc := bMO_link) (maxL := 4) (ret := (some .int)) (by decide) rfl ?_
  intro p e s m args below meth c s₁ B hml hv
  obtain ⟨rfl, hsz, hP, hK, hD0, hB⟩ := hv
  have hx := B.exec
  have hb := B.bytes
  have hr := B.returns
  have hown : s.vm.findClass "RingGuardModel" = some m.cls := findClass_of_methodNamed B.named
  have hlocks := B.notSynchronized
  subst hsz
  have hD := hD0.self (sz := s.heap.size)
  have hA0 := zA0 hD0 hB
  generalize hAe : va_A [(mo, .inr (7, [.int 0, .int 0, .int 0, .int 0, .ref (mb 0), .ref (mb 1), .ref (mb 2), .ref (mb 3), .ref (mb 4), .ref (mb 5), .ref (mb 6), .ref (mb 7), .ref (mb 8), .ref (mb 9), .ref (mb 10), .ref (mb 11), .ref (mb 12), .ref (mb 13), .ref (mb 14), .ref (mb 15), .ref (mb 16), .ref (mb 17), .ref (mb 18), .ref (mb 19), .ref (mb 20), .ref (mb 21), .ref (mb 22), .ref (mb 23), .ref (mb 24), .ref (mb 25), .ref (mb 26), .ref (mb 27), .ref (mb 28), .ref (mb 29), .ref (mb 30), .ref (mb 31), .ref (mb 32), .int 0, .int 0, .int 0, .int 0, .int 0, .int 0, .int 0, .ref (mb 33), .ref (mb 34), .ref (mb 35), .ref (mb 36), .int 0, .int 0, .int 0, .int 0, .ref (mb 37)]))] s.heap.size = A at hD hA0 ⊢
  have hAD := hA0
  have hA : ∀ q : Nat, s.heap.size ≤ q → A q := fun q h => by rw [← hAe]; exact Or.inr h
  have hS : va_S A s.heap s.heap [] := va_S.rf
  have hP : va_P (dC, dI) zCl [(mo, .inr (7, [.int 0, .int 0, .int 0, .int 0, .ref (mb 0), .ref (mb 1), .ref (mb 2), .ref (mb 3), .ref (mb 4), .ref (mb 5), .ref (mb 6), .ref (mb 7), .ref (mb 8), .ref (mb 9), .ref (mb 10), .ref (mb 11), .ref (mb 12), .ref (mb 13), .ref (mb 14), .ref (mb 15), .ref (mb 16), .ref (mb 17), .ref (mb 18), .ref (mb 19), .ref (mb 20), .ref (mb 21), .ref (mb 22), .ref (mb 23), .ref (mb 24), .ref (mb 25), .ref (mb 26), .ref (mb 27), .ref (mb 28), .ref (mb 29), .ref (mb 30), .ref (mb 31), .ref (mb 32), .int 0, .int 0, .int 0, .int 0, .int 0, .int 0, .int 0, .ref (mb 33), .ref (mb 34), .ref (mb 35), .ref (mb 36), .int 0, .int 0, .int 0, .int 0, .ref (mb 37)]))] s.heap := hP
  have hl := lv_entry ([.ref mo, .int p0, .int p1, .int p2]) (n := 4) (Nat.le_of_ble_eq_true rfl)
  rw [lg_entry_eq]
  generalize (lg_sl ([.ref mo, .int p0, .int p1, .int p2]) ++ List.replicate (4 - (lg_sl ([.ref mo, .int p0, .int p1, .int p2])).length) Slot.unset).toArray = ls at hl ⊢
  have hl : lv_has ls 4 [(0, .ref mo), (1, .int p0), (2, .int p1), (3, .int p2)] := hl
  refine lv_aload_n hx hb dMO_link_0 rfl (lv_at hl 0 rfl) ?_
  refine lv_aload_n hx hb dMO_link_1 rfl (lv_at hl 0 rfl) ?_
  refine lv_iload_n hx hb dMO_link_2 rfl (lv_at hl 1 rfl) ?_
  have hPc : va_P (dC, dI) zCl [(mo, .inr (7, [.int 0, .int 0, .int 0, .int 0, .ref (mb 0), .ref (mb 1), .ref (mb 2), .ref (mb 3), .ref (mb 4), .ref (mb 5), .ref (mb 6), .ref (mb 7), .ref (mb 8), .ref (mb 9), .ref (mb 10), .ref (mb 11), .ref (mb 12), .ref (mb 13), .ref (mb 14), .ref (mb 15), .ref (mb 16), .ref (mb 17), .ref (mb 18), .ref (mb 19), .ref (mb 20), .ref (mb 21), .ref (mb 22), .ref (mb 23), .ref (mb 24), .ref (mb 25), .ref (mb 26), .ref (mb 27), .ref (mb 28), .ref (mb 29), .ref (mb 30), .ref (mb 31), .ref (mb 32), .int 0, .int 0, .int 0, .int 0, .int 0, .int 0, .int 0, .ref (mb 33), .ref (mb 34), .ref (mb 35), .ref (mb 36), .int 0, .int 0, .int 0, .int 0, .ref (mb 37)]))] s.heap := hP.sub [0] rfl
  have hDc : va_D A [(mo, .inr (7, [.int 0, .int 0, .int 0, .int 0, .ref (mb 0), .ref (mb 1), .ref (mb 2), .ref (mb 3), .ref (mb 4), .ref (mb 5), .ref (mb 6), .ref (mb 7), .ref (mb 8), .ref (mb 9), .ref (mb 10), .ref (mb 11), .ref (mb 12), .ref (mb 13), .ref (mb 14), .ref (mb 15), .ref (mb 16), .ref (mb 17), .ref (mb 18), .ref (mb 19), .ref (mb 20), .ref (mb 21), .ref (mb 22), .ref (mb 23), .ref (mb 24), .ref (mb 25), .ref (mb 26), .ref (mb 27), .ref (mb 28), .ref (mb 29), .ref (mb 30), .ref (mb 31), .ref (mb 32), .int 0, .int 0, .int 0, .int 0, .int 0, .int 0, .int 0, .ref (mb 33), .ref (mb 34), .ref (mb 35), .ref (mb 36), .int 0, .int 0, .int 0, .int 0, .ref (mb 37)]))] := hD.sub [0] (by decide) rfl
  refine zcallp (va_runV (As := [.int p0]) (rest := [.ref mo]) ⟨hx, hb, hml, hown, zno⟩ (zm_isBridge l dC dI cI cZ cJ a0 s0 mo mb s.heap.size p0) (zcw 1 (hB.word (zm5 k5_49) rfl) (hB.word (zm1 k1_9) rfl) (hB.word (zm5 k5_46) rfl) (hB.word (zm5 k5_48) rfl) (k2_selects_private (by decide) (hB.word (zm4 k4_109) rfl) (hB.word (zm5 k5_47) rfl) (hB.word (zm5 k5_48) rfl)) rfl rfl (by decide +kernel) ⟨Nat.le_of_ble_eq_true rfl, Nat.le_of_ble_eq_true rfl⟩) ⟨zP_blind, va_recv hK hP (ci := 7) (q0 := 0) rfl rfl, zP_pre hPc hK hDc hAD (zB_on hB hA0 hS)⟩ rfl rfl hl.1 rfl (lv_room (Nat.le_of_ble_eq_true rfl)) dMO_link_3 ⟨Nat.le_of_ble_eq_true rfl, Nat.le_of_ble_eq_true rfl⟩) hS hA (fun r1 H1 locs hr1 hz1 hk1 hS => ?_)
  have hP := zKeep hP hk1
  generalize H1 = H at hP hS ⊢
  have hP : va_P (dC, dI) zCl [(mo, .inr (7, [.int 0, .int 0, .int 0, .int 0, .ref (mb 0), .ref (mb 1), .ref (mb 2), .ref (mb 3), .ref (mb 4), .ref (mb 5), .ref (mb 6), .ref (mb 7), .ref (mb 8), .ref (mb 9), .ref (mb 10), .ref (mb 11), .ref (mb 12), .ref (mb 13), .ref (mb 14), .ref (mb 15), .ref (mb 16), .ref (mb 17), .ref (mb 18), .ref (mb 19), .ref (mb 20), .ref (mb 21), .ref (mb 22), .ref (mb 23), .ref (mb 24), .ref (mb 25), .ref (mb 26), .ref (mb 27), .ref (mb 28), .ref (mb 29), .ref (mb 30), .ref (mb 31), .ref (mb 32), .int 0, .int 0, .int 0, .int 0, .int 0, .int 0, .int 0, .ref (mb 33), .ref (mb 34), .ref (mb 35), .ref (mb 36), .int 0, .int 0, .int 0, .int 0, .ref (mb 37)]))] H := hP
  subst hr1
  refine lv_if_eq (tgt := 33) hx hb dMO_link_6 (by decide) (fun _ => ?_) (fun c9 => absurd (by decide) c9)
  refine lv_iconst (v := 0) hx hb dMO_link_33 (by decide) ?_
  refine lv_aload_n hx hb dMO_link_34 rfl (lv_at hl 0 rfl) ?_
  have hu7 : ∀ w ∈ u_ws "RingGuardModel" T_MO 53, w.before ([.ref mo, .int p0, .int p1, .int p2] : List Value).toArray s = true := hB.words zU_MO
  refine va_get (D := (dC, dI)) (ci := 7) (v := .int 0) (C := "RingGuardModel") (T := T_MO) (N := 53) hx hb hu7 zid hown hK hP 0 rfl rfl 1 (by decide) (hB.word (zm4 k4_115) rfl) (fun _ h9 => h9) rfl dMO_link_35 ?_
  refine lv_if_ne (tgt := 54) hx hb dMO_link_38 (by decide) (fun c9 => absurd (by decide) c9) (fun _ => ?_)
  refine lv_aload_n hx hb dMO_link_41 rfl (lv_at hl 0 rfl) ?_
  refine va_get (D := (dC, dI)) (ci := 7) (v := .int 0) (C := "RingGuardModel") (T := T_MO) (N := 53) hx hb hu7 zid hown hK hP 0 rfl rfl 3 (by decide) (hB.word (zm4 k4_117) rfl) (fun _ h9 => h9) rfl dMO_link_42 ?_
  refine lv_bipush (v := 60) hx hb dMO_link_45 (by decide) ?_
  refine lv_icmp_ge (tgt := 54) hx hb dMO_link_47 (by decide) (fun c9 => absurd c9 (by decide)) (fun _ => ?_)
  refine lv_iconst (v := 1) hx hb dMO_link_50 (by decide) ?_
  refine lv_goto (tgt := 55) hx hb dMO_link_51 (by decide) ?_
  have hPc : va_P (dC, dI) zCl [(mo, .inr (7, [.int 0, .int 0, .int 0, .int 0, .ref (mb 0), .ref (mb 1), .ref (mb 2), .ref (mb 3), .ref (mb 4), .ref (mb 5), .ref (mb 6), .ref (mb 7), .ref (mb 8), .ref (mb 9), .ref (mb 10), .ref (mb 11), .ref (mb 12), .ref (mb 13), .ref (mb 14), .ref (mb 15), .ref (mb 16), .ref (mb 17), .ref (mb 18), .ref (mb 19), .ref (mb 20), .ref (mb 21), .ref (mb 22), .ref (mb 23), .ref (mb 24), .ref (mb 25), .ref (mb 26), .ref (mb 27), .ref (mb 28), .ref (mb 29), .ref (mb 30), .ref (mb 31), .ref (mb 32), .int 0, .int 0, .int 0, .int 0, .int 0, .int 0, .int 0, .ref (mb 33), .ref (mb 34), .ref (mb 35), .ref (mb 36), .int 0, .int 0, .int 0, .int 0, .ref (mb 37)]))] H := hP.sub [0] rfl
  have hDc : va_D A [(mo, .inr (7, [.int 0, .int 0, .int 0, .int 0, .ref (mb 0), .ref (mb 1), .ref (mb 2), .ref (mb 3), .ref (mb 4), .ref (mb 5), .ref (mb 6), .ref (mb 7), .ref (mb 8), .ref (mb 9), .ref (mb 10), .ref (mb 11), .ref (mb 12), .ref (mb 13), .ref (mb 14), .ref (mb 15), .ref (mb 16), .ref (mb 17), .ref (mb 18), .ref (mb 19), .ref (mb 20), .ref (mb 21), .ref (mb 22), .ref (mb 23), .ref (mb 24), .ref (mb 25), .ref (mb 26), .ref (mb 27), .ref (mb 28), .ref (mb 29), .ref (mb 30), .ref (mb 31), .ref (mb 32), .int 0, .int 0, .int 0, .int 0, .int 0, .int 0, .int 0, .ref (mb 33), .ref (mb 34), .ref (mb 35), .ref (mb 36), .int 0, .int 0, .int 0, .int 0, .ref (mb 37)]))] := hD.sub [0] (by decide) rfl
  refine zcalli (wr := []) (va_runV (As := [.int 0, .int 1]) (rest := []) ⟨hx, hb, hml, hown, zno⟩ (zm_goes0 l dC dI cI cZ cJ a0 s0 mo mb H.size 1) (zcw 2 (hB.word (zm5 k5_56) rfl) (hB.word (zm1 k1_9) rfl) (hB.word (zm5 k5_53) rfl) (hB.word (zm5 k5_55) rfl) (k2_selects_private (by decide) (hB.word (zm4 k4_109) rfl) (hB.word (zm5 k5_54) rfl) (hB.word (zm5 k5_55) rfl)) rfl rfl (by decide +kernel) ⟨Nat.le_of_ble_eq_true rfl, Nat.le_of_ble_eq_true rfl⟩) ⟨zP_blind, va_recv hK hP (ci := 7) (q0 := 0) rfl rfl, zP_pre hPc hK hDc hAD (zB_on hB hA0 hS)⟩ rfl rfl hl.1 rfl (lv_room (Nat.le_of_ble_eq_true rfl)) dMO_link_55 ⟨Nat.le_of_ble_eq_true rfl, Nat.le_of_ble_eq_true rfl⟩) hP hD hS hA [0] [] rfl rfl (by decide) (by decide) (fun r2 H1 locs hr2 hP hD hS => ?_)
  generalize H1 = H at hP hS ⊢
  have hP : va_P (dC, dI) zCl [(mo, .inr (7, [.int 1, .int 0, .int 0, .int 0, .ref (mb 0), .ref (mb 1), .ref (mb 2), .ref (mb 3), .ref (mb 4), .ref (mb 5), .ref (mb 6), .ref (mb 7), .ref (mb 8), .ref (mb 9), .ref (mb 10), .ref (mb 11), .ref (mb 12), .ref (mb 13), .ref (mb 14), .ref (mb 15), .ref (mb 16), .ref (mb 17), .ref (mb 18), .ref (mb 19), .ref (mb 20), .ref (mb 21), .ref (mb 22), .ref (mb 23), .ref (mb 24), .ref (mb 25), .ref (mb 26), .ref (mb 27), .ref (mb 28), .ref (mb 29), .ref (mb 30), .ref (mb 31), .ref (mb 32), .int 0, .int 0, .int 0, .int 0, .int 0, .int 0, .int 0, .ref (mb 33), .ref (mb 34), .ref (mb 35), .ref (mb 36), .int 0, .int 0, .int 0, .int 0, .ref (mb 37)]))] H := hP
  have hD : va_D A [(mo, .inr (7, [.int 1, .int 0, .int 0, .int 0, .ref (mb 0), .ref (mb 1), .ref (mb 2), .ref (mb 3), .ref (mb 4), .ref (mb 5), .ref (mb 6), .ref (mb 7), .ref (mb 8), .ref (mb 9), .ref (mb 10), .ref (mb 11), .ref (mb 12), .ref (mb 13), .ref (mb 14), .ref (mb 15), .ref (mb 16), .ref (mb 17), .ref (mb 18), .ref (mb 19), .ref (mb 20), .ref (mb 21), .ref (mb 22), .ref (mb 23), .ref (mb 24), .ref (mb 25), .ref (mb 26), .ref (mb 27), .ref (mb 28), .ref (mb 29), .ref (mb 30), .ref (mb 31), .ref (mb 32), .int 0, .int 0, .int 0, .int 0, .int 0, .int 0, .int 0, .ref (mb 33), .ref (mb 34), .ref (mb 35), .ref (mb 36), .int 0, .int 0, .int 0, .int 0, .ref (mb 37)]))] := hD
  subst hr2
  refine lv_if_ne (tgt := 63) hx hb dMO_link_58 (by decide) (fun c9 => absurd (by decide) c9) (fun _ => ?_)
  refine lv_iconst (v := 0) hx hb dMO_link_61 (by decide) ?_
  refine W.widen (k := 0) (n := 0) (Nat.le_of_ble_eq_true rfl) (Nat.le_of_ble_eq_true rfl) ?_
  have hP9 : va_P (dC, dI) zCl [(mo, .inr (7, [.int 1, .int 0, .int 0, .int 0, .ref (mb 0), .ref (mb 1), .ref (mb 2), .ref (mb 3), .ref (mb 4), .ref (mb 5), .ref (mb 6), .ref (mb 7), .ref (mb 8), .ref (mb 9), .ref (mb 10), .ref (mb 11), .ref (mb 12), .ref (mb 13), .ref (mb 14), .ref (mb 15), .ref (mb 16), .ref (mb 17), .ref (mb 18), .ref (mb 19), .ref (mb 20), .ref (mb 21), .ref (mb 22), .ref (mb 23), .ref (mb 24), .ref (mb 25), .ref (mb 26), .ref (mb 27), .ref (mb 28), .ref (mb 29), .ref (mb 30), .ref (mb 31), .ref (mb 32), .int 0, .int 0, .int 0, .int 0, .int 0, .int 0, .int 0, .ref (mb 33), .ref (mb 34), .ref (mb 35), .ref (mb 36), .int 0, .int 0, .int 0, .int 0, .ref (mb 37)]))] H := hP.sub [0] rfl
  have hD9 : va_D A [(mo, .inr (7, [.int 1, .int 0, .int 0, .int 0, .ref (mb 0), .ref (mb 1), .ref (mb 2), .ref (mb 3), .ref (mb 4), .ref (mb 5), .ref (mb 6), .ref (mb 7), .ref (mb 8), .ref (mb 9), .ref (mb 10), .ref (mb 11), .ref (mb 12), .ref (mb 13), .ref (mb 14), .ref (mb 15), .ref (mb 16), .ref (mb 17), .ref (mb 18), .ref (mb 19), .ref (mb 20), .ref (mb 21), .ref (mb 22), .ref (mb 23), .ref (mb 24), .ref (mb 25), .ref (mb 26), .ref (mb 27), .ref (mb 28), .ref (mb 29), .ref (mb 30), .ref (mb 31), .ref (mb 32), .int 0, .int 0, .int 0, .int 0, .int 0, .int 0, .int 0, .ref (mb 33), .ref (mb 34), .ref (mb 35), .ref (mb 36), .int 0, .int 0, .int 0, .int 0, .ref (mb 37)]))] := hD.sub [0] (by decide) rfl
  exact W.iret (v := 0) hx hb hr (fun t ht hW => ⟨⟨0, (), rfl, rfl, by rw [ht]; exact hP9, hD9⟩, hS.F ht⟩) hS.2.2 dMO_link_62
set_option maxHeartbeats 4000000 in
set_option maxRecDepth 100000 in
theorem zm_owner (l : Launch) (dC : Nat → ClassId) (dI : Nat → Nat → Nat) (cI cZ cJ : ClassId) (a0 : Array Value) (s0 : State) (mo : Nat) (mb : Nat → Nat) (sz : Nat) (p0 p1 p2 : Int32) : Met l yMO_owner [Cond.code yMO_owner bMO_owner 4 none] ({ frames := 1, cells := 0, slots := 0, locals := 22 } : Room) (zP zCl dC dI (zTY cI cZ cJ) a0 s0 [.ref mo, .int p0, .int p1, .int p2] sz [(mo, .inr (7, [.int 0, .int 0, .int 0, .int 0, .ref (mb 0), .ref (mb 1), .ref (mb 2), .ref (mb 3), .ref (mb 4), .ref (mb 5), .ref (mb 6), .ref (mb 7), .ref (mb 8), .ref (mb 9), .ref (mb 10), .ref (mb 11), .ref (mb 12), .ref (mb 13), .ref (mb 14), .ref (mb 15), .ref (mb 16), .ref (mb 17), .ref (mb 18), .ref (mb 19), .ref (mb 20), .ref (mb 21), .ref (mb 22), .ref (mb 23), .ref (mb 24), .ref (mb 25), .ref (mb 26), .ref (mb 27), .ref (mb 28), .ref (mb 29), .ref (mb 30), .ref (mb 31), .ref (mb 32), .int 0, .int 0, .int 0, .int 0, .int 0, .int 0, .int 0, .ref (mb 33), .ref (mb 34), .ref (mb 35), .ref (mb 36), .int 0, .int 0, .int 0, .int 0, .ref (mb 37)]))]) (zQv zCl dC dI [(mo, .inr (7, [.int 1, .int 0, .int 0, .int 0, .ref (mb 0), .ref (mb 1), .ref (mb 2), .ref (mb 3), .ref (mb 4), .ref (mb 5), .ref (mb 6), .ref (mb 7), .ref (mb 8), .ref (mb 9), .ref (mb 10), .ref (mb 11), .ref (mb 12), .ref (mb 13), .ref (mb 14), .ref (mb 15), .ref (mb 16), .ref (mb 17), .ref (mb 18), .ref (mb 19), .ref (mb 20), .ref (mb 21), .ref (mb 22), .ref (mb 23), .ref (mb 24), .ref (mb 25), .ref (mb 26), .ref (mb 27), .ref (mb 28), .ref (mb 29), .ref (mb 30), .ref (mb 31), .ref (mb 32), .int 0, .int 0, .int 0, .int 0, .int 0, .int 0, .int 0, .ref (mb 33), .ref (mb 34), .ref (mb 35), .ref (mb 36), .int 0, .int 0, .int 0, .int 0, .ref (mb 37)]))] (va_A [(mo, .inr (7, [.int 0, .int 0, .int 0, .int 0, .ref (mb 0), .ref (mb 1), .ref (mb 2), .ref (mb 3), .ref (mb 4), .ref (mb 5), .ref (mb 6), .ref (mb 7), .ref (mb 8), .ref (mb 9), .ref (mb 10), .ref (mb 11), .ref (mb 12), .ref (mb 13), .ref (mb 14), .ref (mb 15), .ref (mb 16), .ref (mb 17), .ref (mb 18), .ref (mb 19), .ref (mb 20), .ref (mb 21), .ref (mb 22), .ref (mb 23), .ref (mb 24), .ref (mb 25), .ref (mb 26), .ref (mb 27), .ref (mb 28), .ref (mb 29), .ref (mb 30), .ref (mb 31), .ref (mb 32), .int 0, .int 0, .int 0, .int 0, .int 0, .int 0, .int 0, .ref (mb 33), .ref (mb 34), .ref (mb 35), .ref (mb 36), .int 0, .int 0, .int 0, .int 0, .ref (mb 37)]))] sz)) 0 0 (va_A [(mo, .inr (7, [.int 0, .int 0, .int 0, .int 0, .ref (mb 0), .ref (mb 1), .ref (mb 2), .ref (mb 3), .ref (mb 4), .ref (mb 5), .ref (mb 6), .ref (mb 7), .ref (mb 8), .ref (mb 9), .ref (mb 10), .ref (mb 11), .ref (mb 12), .ref (mb 13), .ref (mb 14), .ref (mb 15), .ref (mb 16), .ref (mb 17), .ref (mb 18), .ref (mb 19), .ref (mb 20), .ref (mb 21), .ref (mb 22), .ref (mb 23), .ref (mb 24), .ref (mb 25), .ref (mb 26), .ref (mb 27), .ref (mb 28), .ref (mb 29), .ref (mb 30), .ref (mb 31), .ref (mb 32), .int 0, .int 0, .int 0, .int 0, .int 0, .int 0, .int 0, .ref (mb 33), .ref (mb 34), .ref (mb 35), .ref (mb 36), .int 0, .int 0, .int 0, .int 0, .ref (mb 37)]))] sz) := by
  refine Met.ofW (cc := bMO_owner) (maxL := 4) (ret := none) (by decide) rfl ?_
  intro p e s m args below meth c s₁ B hml hv
  obtain ⟨rfl, hsz, hP, hK, hD0, hB⟩ := hv
  have hx := B.exec
  have hb := B.bytes
  have hr := B.returns
  have hown : s.vm.findClass "RingGuardModel" = some m.cls := findClass_of_methodNamed B.named
  have hlocks := B.notSynchronized
  subst hsz
  have hD := hD0.self (sz := s.heap.size)
  have hA0 := zA0 hD0 hB
  generalize hAe : va_A [(mo, .inr (7, [.int 0, .int 0, .int 0, .int 0, .ref (mb 0), .ref (mb 1), .ref (mb 2), .ref (mb 3), .ref (mb 4), .ref (mb 5), .ref (mb 6), .ref (mb 7), .ref (mb 8), .ref (mb 9), .ref (mb 10), .ref (mb 11), .ref (mb 12), .ref (mb 13), .ref (mb 14), .ref (mb 15), .ref (mb 16), .ref (mb 17), .ref (mb 18), .ref (mb 19), .ref (mb 20), .ref (mb 21), .ref (mb 22), .ref (mb 23), .ref (mb 24), .ref (mb 25), .ref (mb 26), .ref (mb 27), .ref (mb 28), .ref (mb 29), .ref (mb 30), .ref (mb 31), .ref (mb 32), .int 0, .int 0, .int 0, .int 0, .int 0, .int 0, .int 0, .ref (mb 33), .ref (mb 34), .ref (mb 35), .ref (mb 36), .int 0, .int 0, .int 0, .int 0, .ref (mb 37)]))] s.heap.size = A at hD hA0 ⊢
  have hAD := hA0
  have hA : ∀ q : Nat, s.heap.size ≤ q → A q := fun q h => by rw [← hAe]; exact Or.inr h
  have hS : va_S A s.heap s.heap [] := va_S.rf
  have hP : va_P (dC, dI) zCl [(mo, .inr (7, [.int 0, .int 0, .int 0, .int 0, .ref (mb 0), .ref (mb 1), .ref (mb 2), .ref (mb 3), .ref (mb 4), .ref (mb 5), .ref (mb 6), .ref (mb 7), .ref (mb 8), .ref (mb 9), .ref (mb 10), .ref (mb 11), .ref (mb 12), .ref (mb 13), .ref (mb 14), .ref (mb 15), .ref (mb 16), .ref (mb 17), .ref (mb 18), .ref (mb 19), .ref (mb 20), .ref (mb 21), .ref (mb 22), .ref (mb 23), .ref (mb 24), .ref (mb 25), .ref (mb 26), .ref (mb 27), .ref (mb 28), .ref (mb 29), .ref (mb 30), .ref (mb 31), .ref (mb 32), .int 0, .int 0, .int 0, .int 0, .int 0, .int 0, .int 0, .ref (mb 33), .ref (mb 34), .ref (mb 35), .ref (mb 36), .int 0, .int 0, .int 0, .int 0, .ref (mb 37)]))] s.heap := hP
  have hl := lv_entry ([.ref mo, .int p0, .int p1, .int p2]) (n := 4) (Nat.le_of_ble_eq_true rfl)
  rw [lg_entry_eq]
  generalize (lg_sl ([.ref mo, .int p0, .int p1, .int p2]) ++ List.replicate (4 - (lg_sl ([.ref mo, .int p0, .int p1, .int p2])).length) Slot.unset).toArray = ls at hl ⊢
  have hl : lv_has ls 4 [(0, .ref mo), (1, .int p0), (2, .int p1), (3, .int p2)] := hl
  refine lv_aload_n hx hb dMO_owner_0 rfl (lv_at hl 0 rfl) ?_
  refine lv_iload_n hx hb dMO_owner_1 rfl (lv_at hl 1 rfl) ?_
  have hPc : va_P (dC, dI) zCl [] s.heap := hP.sub [] rfl
  have hDc : va_D A [] := hD.sub [] (by decide) rfl
  refine zcallp (va_runS (As := [.int p0]) (rest := [.ref mo]) ⟨hx, hb, hml, hown, zno⟩ (zm_isRing l dC dI cI cZ cJ a0 s0 s.heap.size p0) ⟨zcb 1 (hB.word (zm5 k5_52) rfl) (hB.word (zm1 k1_9) rfl) (hB.word (zm5 k5_50) rfl) rfl rfl (by decide +kernel) ⟨Nat.le_of_ble_eq_true rfl, Nat.le_of_ble_eq_true rfl⟩, hB.word (zm5 k5_51) rfl⟩ ⟨zP_blind, zP_pre hPc hK hDc hAD (zB_on hB hA0 hS)⟩ rfl rfl hl.1 rfl (lv_room (Nat.le_of_ble_eq_true rfl)) dMO_owner_2 ⟨Nat.le_of_ble_eq_true rfl, Nat.le_of_ble_eq_true rfl⟩) hS hA (fun r1 H1 locs hr1 hz1 hk1 hS => ?_)
  have hP := zKeep hP hk1
  generalize H1 = H at hP hS ⊢
  have hP : va_P (dC, dI) zCl [(mo, .inr (7, [.int 0, .int 0, .int 0, .int 0, .ref (mb 0), .ref (mb 1), .ref (mb 2), .ref (mb 3), .ref (mb 4), .ref (mb 5), .ref (mb 6), .ref (mb 7), .ref (mb 8), .ref (mb 9), .ref (mb 10), .ref (mb 11), .ref (mb 12), .ref (mb 13), .ref (mb 14), .ref (mb 15), .ref (mb 16), .ref (mb 17), .ref (mb 18), .ref (mb 19), .ref (mb 20), .ref (mb 21), .ref (mb 22), .ref (mb 23), .ref (mb 24), .ref (mb 25), .ref (mb 26), .ref (mb 27), .ref (mb 28), .ref (mb 29), .ref (mb 30), .ref (mb 31), .ref (mb 32), .int 0, .int 0, .int 0, .int 0, .int 0, .int 0, .int 0, .ref (mb 33), .ref (mb 34), .ref (mb 35), .ref (mb 36), .int 0, .int 0, .int 0, .int 0, .ref (mb 37)]))] H := hP
  refine lv_if_eq (tgt := 28) hx hb dMO_owner_5 (by decide) (fun c_5 => ?_) (fun c_5 => ?_)
  · refine lv_iconst (v := 0) hx hb dMO_owner_28 (by decide) ?_
    refine lv_aload_n hx hb dMO_owner_29 rfl (lv_at hl 0 rfl) ?_
    have hu7 : ∀ w ∈ u_ws "RingGuardModel" T_MO 53, w.before ([.ref mo, .int p0, .int p1, .int p2] : List Value).toArray s = true := hB.words zU_MO
    refine va_get (D := (dC, dI)) (ci := 7) (v := .int 0) (C := "RingGuardModel") (T := T_MO) (N := 53) hx hb hu7 zid hown hK hP 0 rfl rfl 1 (by decide) (hB.word (zm4 k4_115) rfl) (fun _ h9 => h9) rfl dMO_owner_30 ?_
    refine lv_if_ne (tgt := 40) hx hb dMO_owner_33 (by decide) (fun c9 => absurd (by decide) c9) (fun _ => ?_)
    refine lv_iconst (v := 1) hx hb dMO_owner_36 (by decide) ?_
    refine lv_goto (tgt := 41) hx hb dMO_owner_37 (by decide) ?_
    have hPc : va_P (dC, dI) zCl [(mo, .inr (7, [.int 0, .int 0, .int 0, .int 0, .ref (mb 0), .ref (mb 1), .ref (mb 2), .ref (mb 3), .ref (mb 4), .ref (mb 5), .ref (mb 6), .ref (mb 7), .ref (mb 8), .ref (mb 9), .ref (mb 10), .ref (mb 11), .ref (mb 12), .ref (mb 13), .ref (mb 14), .ref (mb 15), .ref (mb 16), .ref (mb 17), .ref (mb 18), .ref (mb 19), .ref (mb 20), .ref (mb 21), .ref (mb 22), .ref (mb 23), .ref (mb 24), .ref (mb 25), .ref (mb 26), .ref (mb 27), .ref (mb 28), .ref (mb 29), .ref (mb 30), .ref (mb 31), .ref (mb 32), .int 0, .int 0, .int 0, .int 0, .int 0, .int 0, .int 0, .ref (mb 33), .ref (mb 34), .ref (mb 35), .ref (mb 36), .int 0, .int 0, .int 0, .int 0, .ref (mb 37)]))] H := hP.sub [0] rfl
    have hDc : va_D A [(mo, .inr (7, [.int 0, .int 0, .int 0, .int 0, .ref (mb 0), .ref (mb 1), .ref (mb 2), .ref (mb 3), .ref (mb 4), .ref (mb 5), .ref (mb 6), .ref (mb 7), .ref (mb 8), .ref (mb 9), .ref (mb 10), .ref (mb 11), .ref (mb 12), .ref (mb 13), .ref (mb 14), .ref (mb 15), .ref (mb 16), .ref (mb 17), .ref (mb 18), .ref (mb 19), .ref (mb 20), .ref (mb 21), .ref (mb 22), .ref (mb 23), .ref (mb 24), .ref (mb 25), .ref (mb 26), .ref (mb 27), .ref (mb 28), .ref (mb 29), .ref (mb 30), .ref (mb 31), .ref (mb 32), .int 0, .int 0, .int 0, .int 0, .int 0, .int 0, .int 0, .ref (mb 33), .ref (mb 34), .ref (mb 35), .ref (mb 36), .int 0, .int 0, .int 0, .int 0, .ref (mb 37)]))] := hD.sub [0] (by decide) rfl
    refine zcalli (wr := []) (va_runV (As := [.int 0, .int 1]) (rest := []) ⟨hx, hb, hml, hown, zno⟩ (zm_goes0 l dC dI cI cZ cJ a0 s0 mo mb H.size 1) (zcw 2 (hB.word (zm5 k5_56) rfl) (hB.word (zm1 k1_9) rfl) (hB.word (zm5 k5_53) rfl) (hB.word (zm5 k5_55) rfl) (k2_selects_private (by decide) (hB.word (zm4 k4_109) rfl) (hB.word (zm5 k5_54) rfl) (hB.word (zm5 k5_55) rfl)) rfl rfl (by decide +kernel) ⟨Nat.le_of_ble_eq_true rfl, Nat.le_of_ble_eq_true rfl⟩) ⟨zP_blind, va_recv hK hP (ci := 7) (q0 := 0) rfl rfl, zP_pre hPc hK hDc hAD (zB_on hB hA0 hS)⟩ rfl rfl hl.1 rfl (lv_room (Nat.le_of_ble_eq_true rfl)) dMO_owner_41 ⟨Nat.le_of_ble_eq_true rfl, Nat.le_of_ble_eq_true rfl⟩) hP hD hS hA [0] [] rfl rfl (by decide) (by decide) (fun r2 H1 locs hr2 hP hD hS => ?_)
    generalize H1 = H at hP hS ⊢
    have hP : va_P (dC, dI) zCl [(mo, .inr (7, [.int 1, .int 0, .int 0, .int 0, .ref (mb 0), .ref (mb 1), .ref (mb 2), .ref (mb 3), .ref (mb 4), .ref (mb 5), .ref (mb 6), .ref (mb 7), .ref (mb 8), .ref (mb 9), .ref (mb 10), .ref (mb 11), .ref (mb 12), .ref (mb 13), .ref (mb 14), .ref (mb 15), .ref (mb 16), .ref (mb 17), .ref (mb 18), .ref (mb 19), .ref (mb 20), .ref (mb 21), .ref (mb 22), .ref (mb 23), .ref (mb 24), .ref (mb 25), .ref (mb 26), .ref (mb 27), .ref (mb 28), .ref (mb 29), .ref (mb 30), .ref (mb 31), .ref (mb 32), .int 0, .int 0, .int 0, .int 0, .int 0, .int 0, .int 0, .ref (mb 33), .ref (mb 34), .ref (mb 35), .ref (mb 36), .int 0, .int 0, .int 0, .int 0, .ref (mb 37)]))] H := hP
    have hD : va_D A [(mo, .inr (7, [.int 1, .int 0, .int 0, .int 0, .ref (mb 0), .ref (mb 1), .ref (mb 2), .ref (mb 3), .ref (mb 4), .ref (mb 5), .ref (mb 6), .ref (mb 7), .ref (mb 8), .ref (mb 9), .ref (mb 10), .ref (mb 11), .ref (mb 12), .ref (mb 13), .ref (mb 14), .ref (mb 15), .ref (mb 16), .ref (mb 17), .ref (mb 18), .ref (mb 19), .ref (mb 20), .ref (mb 21), .ref (mb 22), .ref (mb 23), .ref (mb 24), .ref (mb 25), .ref (mb 26), .ref (mb 27), .ref (mb 28), .ref (mb 29), .ref (mb 30), .ref (mb 31), .ref (mb 32), .int 0, .int 0, .int 0, .int 0, .int 0, .int 0, .int 0, .ref (mb 33), .ref (mb 34), .ref (mb 35), .ref (mb 36), .int 0, .int 0, .int 0, .int 0, .ref (mb 37)]))] := hD
    subst hr2
    refine lv_if_eq (tgt := 61) hx hb dMO_owner_44 (by decide) (fun _ => ?_) (fun c9 => absurd (by decide) c9)
    refine W.widen (k := 0) (n := 0) (Nat.le_of_ble_eq_true rfl) (Nat.le_of_ble_eq_true rfl) ?_
    have hP9 : va_P (dC, dI) zCl [(mo, .inr (7, [.int 1, .int 0, .int 0, .int 0, .ref (mb 0), .ref (mb 1), .ref (mb 2), .ref (mb 3), .ref (mb 4), .ref (mb 5), .ref (mb 6), .ref (mb 7), .ref (mb 8), .ref (mb 9), .ref (mb 10), .ref (mb 11), .ref (mb 12), .ref (mb 13), .ref (mb 14), .ref (mb 15), .ref (mb 16), .ref (mb 17), .ref (mb 18), .ref (mb 19), .ref (mb 20), .ref (mb 21), .ref (mb 22), .ref (mb 23), .ref (mb 24), .ref (mb 25), .ref (mb 26), .ref (mb 27), .ref (mb 28), .ref (mb 29), .ref (mb 30), .ref (mb 31), .ref (mb 32), .int 0, .int 0, .int 0, .int 0, .int 0, .int 0, .int 0, .ref (mb 33), .ref (mb 34), .ref (mb 35), .ref (mb 36), .int 0, .int 0, .int 0, .int 0, .ref (mb 37)]))] H := hP.sub [0] rfl
    have hD9 : va_D A [(mo, .inr (7, [.int 1, .int 0, .int 0, .int 0, .ref (mb 0), .ref (mb 1), .ref (mb 2), .ref (mb 3), .ref (mb 4), .ref (mb 5), .ref (mb 6), .ref (mb 7), .ref (mb 8), .ref (mb 9), .ref (mb 10), .ref (mb 11), .ref (mb 12), .ref (mb 13), .ref (mb 14), .ref (mb 15), .ref (mb 16), .ref (mb 17), .ref (mb 18), .ref (mb 19), .ref (mb 20), .ref (mb 21), .ref (mb 22), .ref (mb 23), .ref (mb 24), .ref (mb 25), .ref (mb 26), .ref (mb 27), .ref (mb 28), .ref (mb 29), .ref (mb 30), .ref (mb 31), .ref (mb 32), .int 0, .int 0, .int 0, .int 0, .int 0, .int 0, .int 0, .ref (mb 33), .ref (mb 34), .ref (mb 35), .ref (mb 36), .int 0, .int 0, .int 0, .int 0, .ref (mb 37)]))] := hD.sub [0] (by decide) rfl
    exact W.vret hx hb hr (fun t ht hW => ⟨⟨(), rfl, trivial, by rw [ht]; exact hP9, hD9⟩, hS.F ht⟩) hS.2.2 dMO_owner_61
  · refine lv_aload_n hx hb dMO_owner_8 rfl (lv_at hl 0 rfl) ?_
    refine lv_iload_n hx hb dMO_owner_9 rfl (lv_at hl 2 rfl) ?_
    have hPc : va_P (dC, dI) zCl [(mo, .inr (7, [.int 0, .int 0, .int 0, .int 0, .ref (mb 0), .ref (mb 1), .ref (mb 2), .ref (mb 3), .ref (mb 4), .ref (mb 5), .ref (mb 6), .ref (mb 7), .ref (mb 8), .ref (mb 9), .ref (mb 10), .ref (mb 11), .ref (mb 12), .ref (mb 13), .ref (mb 14), .ref (mb 15), .ref (mb 16), .ref (mb 17), .ref (mb 18), .ref (mb 19), .ref (mb 20), .ref (mb 21), .ref (mb 22), .ref (mb 23), .ref (mb 24), .ref (mb 25), .ref (mb 26), .ref (mb 27), .ref (mb 28), .ref (mb 29), .ref (mb 30), .ref (mb 31), .ref (mb 32), .int 0, .int 0, .int 0, .int 0, .int 0, .int 0, .int 0, .ref (mb 33), .ref (mb 34), .ref (mb 35), .ref (mb 36), .int 0, .int 0, .int 0, .int 0, .ref (mb 37)]))] H := hP.sub [0] rfl
    have hDc : va_D A [(mo, .inr (7, [.int 0, .int 0, .int 0, .int 0, .ref (mb 0), .ref (mb 1), .ref (mb 2), .ref (mb 3), .ref (mb 4), .ref (mb 5), .ref (mb 6), .ref (mb 7), .ref (mb 8), .ref (mb 9), .ref (mb 10), .ref (mb 11), .ref (mb 12), .ref (mb 13), .ref (mb 14), .ref (mb 15), .ref (mb 16), .ref (mb 17), .ref (mb 18), .ref (mb 19), .ref (mb 20), .ref (mb 21), .ref (mb 22), .ref (mb 23), .ref (mb 24), .ref (mb 25), .ref (mb 26), .ref (mb 27), .ref (mb 28), .ref (mb 29), .ref (mb 30), .ref (mb 31), .ref (mb 32), .int 0, .int 0, .int 0, .int 0, .int 0, .int 0, .int 0, .ref (mb 33), .ref (mb 34), .ref (mb 35), .ref (mb 36), .int 0, .int 0, .int 0, .int 0, .ref (mb 37)]))] := hD.sub [0] (by decide) rfl
    refine zcallp (va_runV (As := [.int p1]) (rest := [.ref mo]) ⟨hx, hb, hml, hown, zno⟩ (zm_isBridge l dC dI cI cZ cJ a0 s0 mo mb H.size p1) (zcw 1 (hB.word (zm5 k5_49) rfl) (hB.word (zm1 k1_9) rfl) (hB.word (zm5 k5_46) rfl) (hB.word (zm5 k5_48) rfl) (k2_selects_private (by decide) (hB.word (zm4 k4_109) rfl) (hB.word (zm5 k5_47) rfl) (hB.word (zm5 k5_48) rfl)) rfl rfl (by decide +kernel) ⟨Nat.le_of_ble_eq_true rfl, Nat.le_of_ble_eq_true rfl⟩) ⟨zP_blind, va_recv hK hP (ci := 7) (q0 := 0) rfl rfl, zP_pre hPc hK hDc hAD (zB_on hB hA0 hS)⟩ rfl rfl hl.1 rfl (lv_room (Nat.le_of_ble_eq_true rfl)) dMO_owner_10 ⟨Nat.le_of_ble_eq_true rfl, Nat.le_of_ble_eq_true rfl⟩) hS hA (fun r3 H1 locs hr3 hz1 hk1 hS => ?_)
    have hP := zKeep hP hk1
    generalize H1 = H at hP hS ⊢
    have hP : va_P (dC, dI) zCl [(mo, .inr (7, [.int 0, .int 0, .int 0, .int 0, .ref (mb 0), .ref (mb 1), .ref (mb 2), .ref (mb 3), .ref (mb 4), .ref (mb 5), .ref (mb 6), .ref (mb 7), .ref (mb 8), .ref (mb 9), .ref (mb 10), .ref (mb 11), .ref (mb 12), .ref (mb 13), .ref (mb 14), .ref (mb 15), .ref (mb 16), .ref (mb 17), .ref (mb 18), .ref (mb 19), .ref (mb 20), .ref (mb 21), .ref (mb 22), .ref (mb 23), .ref (mb 24), .ref (mb 25), .ref (mb 26), .ref (mb 27), .ref (mb 28), .ref (mb 29), .ref (mb 30), .ref (mb 31), .ref (mb 32), .int 0, .int 0, .int 0, .int 0, .int 0, .int 0, .int 0, .ref (mb 33), .ref (mb 34), .ref (mb 35), .ref (mb 36), .int 0, .int 0, .int 0, .int 0, .ref (mb 37)]))] H := hP
    subst hr3
    refine lv_if_eq (tgt := 28) hx hb dMO_owner_13 (by decide) (fun _ => ?_) (fun c9 => absurd (by decide) c9)
    refine lv_iconst (v := 0) hx hb dMO_owner_28 (by decide) ?_
    refine lv_aload_n hx hb dMO_owner_29 rfl (lv_at hl 0 rfl) ?_
    have hu7 : ∀ w ∈ u_ws "RingGuardModel" T_MO 53, w.before ([.ref mo, .int p0, .int p1, .int p2] : List Value).toArray s = true := hB.words zU_MO
    refine va_get (D := (dC, dI)) (ci := 7) (v := .int 0) (C := "RingGuardModel") (T := T_MO) (N := 53) hx hb hu7 zid hown hK hP 0 rfl rfl 1 (by decide) (hB.word (zm4 k4_115) rfl) (fun _ h9 => h9) rfl dMO_owner_30 ?_
    refine lv_if_ne (tgt := 40) hx hb dMO_owner_33 (by decide) (fun c9 => absurd (by decide) c9) (fun _ => ?_)
    refine lv_iconst (v := 1) hx hb dMO_owner_36 (by decide) ?_
    refine lv_goto (tgt := 41) hx hb dMO_owner_37 (by decide) ?_
    have hPc : va_P (dC, dI) zCl [(mo, .inr (7, [.int 0, .int 0, .int 0, .int 0, .ref (mb 0), .ref (mb 1), .ref (mb 2), .ref (mb 3), .ref (mb 4), .ref (mb 5), .ref (mb 6), .ref (mb 7), .ref (mb 8), .ref (mb 9), .ref (mb 10), .ref (mb 11), .ref (mb 12), .ref (mb 13), .ref (mb 14), .ref (mb 15), .ref (mb 16), .ref (mb 17), .ref (mb 18), .ref (mb 19), .ref (mb 20), .ref (mb 21), .ref (mb 22), .ref (mb 23), .ref (mb 24), .ref (mb 25), .ref (mb 26), .ref (mb 27), .ref (mb 28), .ref (mb 29), .ref (mb 30), .ref (mb 31), .ref (mb 32), .int 0, .int 0, .int 0, .int 0, .int 0, .int 0, .int 0, .ref (mb 33), .ref (mb 34), .ref (mb 35), .ref (mb 36), .int 0, .int 0, .int 0, .int 0, .ref (mb 37)]))] H := hP.sub [0] rfl
    have hDc : va_D A [(mo, .inr (7, [.int 0, .int 0, .int 0, .int 0, .ref (mb 0), .ref (mb 1), .ref (mb 2), .ref (mb 3), .ref (mb 4), .ref (mb 5), .ref (mb 6), .ref (mb 7), .ref (mb 8), .ref (mb 9), .ref (mb 10), .ref (mb 11), .ref (mb 12), .ref (mb 13), .ref (mb 14), .ref (mb 15), .ref (mb 16), .ref (mb 17), .ref (mb 18), .ref (mb 19), .ref (mb 20), .ref (mb 21), .ref (mb 22), .ref (mb 23), .ref (mb 24), .ref (mb 25), .ref (mb 26), .ref (mb 27), .ref (mb 28), .ref (mb 29), .ref (mb 30), .ref (mb 31), .ref (mb 32), .int 0, .int 0, .int 0, .int 0, .int 0, .int 0, .int 0, .ref (mb 33), .ref (mb 34), .ref (mb 35), .ref (mb 36), .int 0, .int 0, .int 0, .int 0, .ref (mb 37)]))] := hD.sub [0] (by decide) rfl
    refine zcalli (wr := []) (va_runV (As := [.int 0, .int 1]) (rest := []) ⟨hx, hb, hml, hown, zno⟩ (zm_goes0 l dC dI cI cZ cJ a0 s0 mo mb H.size 1) (zcw 2 (hB.word (zm5 k5_56) rfl) (hB.word (zm1 k1_9) rfl) (hB.word (zm5 k5_53) rfl) (hB.word (zm5 k5_55) rfl) (k2_selects_private (by decide) (hB.word (zm4 k4_109) rfl) (hB.word (zm5 k5_54) rfl) (hB.word (zm5 k5_55) rfl)) rfl rfl (by decide +kernel) ⟨Nat.le_of_ble_eq_true rfl, Nat.le_of_ble_eq_true rfl⟩) ⟨zP_blind, va_recv hK hP (ci := 7) (q0 := 0) rfl rfl, zP_pre hPc hK hDc hAD (zB_on hB hA0 hS)⟩ rfl rfl hl.1 rfl (lv_room (Nat.le_of_ble_eq_true rfl)) dMO_owner_41 ⟨Nat.le_of_ble_eq_true rfl, Nat.le_of_ble_eq_true rfl⟩) hP hD hS hA [0] [] rfl rfl (by decide) (by decide) (fun r4 H1 locs hr4 hP hD hS => ?_)
    generalize H1 = H at hP hS ⊢
    have hP : va_P (dC, dI) zCl [(mo, .inr (7, [.int 1, .int 0, .int 0, .int 0, .ref (mb 0), .ref (mb 1), .ref (mb 2), .ref (mb 3), .ref (mb 4), .ref (mb 5), .ref (mb 6), .ref (mb 7), .ref (mb 8), .ref (mb 9), .ref (mb 10), .ref (mb 11), .ref (mb 12), .ref (mb 13), .ref (mb 14), .ref (mb 15), .ref (mb 16), .ref (mb 17), .ref (mb 18), .ref (mb 19), .ref (mb 20), .ref (mb 21), .ref (mb 22), .ref (mb 23), .ref (mb 24), .ref (mb 25), .ref (mb 26), .ref (mb 27), .ref (mb 28), .ref (mb 29), .ref (mb 30), .ref (mb 31), .ref (mb 32), .int 0, .int 0, .int 0, .int 0, .int 0, .int 0, .int 0, .ref (mb 33), .ref (mb 34), .ref (mb 35), .ref (mb 36), .int 0, .int 0, .int 0, .int 0, .ref (mb 37)]))] H := hP
    have hD : va_D A [(mo, .inr (7, [.int 1, .int 0, .int 0, .int 0, .ref (mb 0), .ref (mb 1), .ref (mb 2), .ref (mb 3), .ref (mb 4), .ref (mb 5), .ref (mb 6), .ref (mb 7), .ref (mb 8), .ref (mb 9), .ref (mb 10), .ref (mb 11), .ref (mb 12), .ref (mb 13), .ref (mb 14), .ref (mb 15), .ref (mb 16), .ref (mb 17), .ref (mb 18), .ref (mb 19), .ref (mb 20), .ref (mb 21), .ref (mb 22), .ref (mb 23), .ref (mb 24), .ref (mb 25), .ref (mb 26), .ref (mb 27), .ref (mb 28), .ref (mb 29), .ref (mb 30), .ref (mb 31), .ref (mb 32), .int 0, .int 0, .int 0, .int 0, .int 0, .int 0, .int 0, .ref (mb 33), .ref (mb 34), .ref (mb 35), .ref (mb 36), .int 0, .int 0, .int 0, .int 0, .ref (mb 37)]))] := hD
    subst hr4
    refine lv_if_eq (tgt := 61) hx hb dMO_owner_44 (by decide) (fun _ => ?_) (fun c9 => absurd (by decide) c9)
    refine W.widen (k := 0) (n := 0) (Nat.le_of_ble_eq_true rfl) (Nat.le_of_ble_eq_true rfl) ?_
    have hP9 : va_P (dC, dI) zCl [(mo, .inr (7, [.int 1, .int 0, .int 0, .int 0, .ref (mb 0), .ref (mb 1), .ref (mb 2), .ref (mb 3), .ref (mb 4), .ref (mb 5), .ref (mb 6), .ref (mb 7), .ref (mb 8), .ref (mb 9), .ref (mb 10), .ref (mb 11), .ref (mb 12), .ref (mb 13), .ref (mb 14), .ref (mb 15), .ref (mb 16), .ref (mb 17), .ref (mb 18), .ref (mb 19), .ref (mb 20), .ref (mb 21), .ref (mb 22), .ref (mb 23), .ref (mb 24), .ref (mb 25), .ref (mb 26), .ref (mb 27), .ref (mb 28), .ref (mb 29), .ref (mb 30), .ref (mb 31), .ref (mb 32), .int 0, .int 0, .int 0, .int 0, .int 0, .int 0, .int 0, .ref (mb 33), .ref (mb 34), .ref (mb 35), .ref (mb 36), .int 0, .int 0, .int 0, .int 0, .ref (mb 37)]))] H := hP.sub [0] rfl
    have hD9 : va_D A [(mo, .inr (7, [.int 1, .int 0, .int 0, .int 0, .ref (mb 0), .ref (mb 1), .ref (mb 2), .ref (mb 3), .ref (mb 4), .ref (mb 5), .ref (mb 6), .ref (mb 7), .ref (mb 8), .ref (mb 9), .ref (mb 10), .ref (mb 11), .ref (mb 12), .ref (mb 13), .ref (mb 14), .ref (mb 15), .ref (mb 16), .ref (mb 17), .ref (mb 18), .ref (mb 19), .ref (mb 20), .ref (mb 21), .ref (mb 22), .ref (mb 23), .ref (mb 24), .ref (mb 25), .ref (mb 26), .ref (mb 27), .ref (mb 28), .ref (mb 29), .ref (mb 30), .ref (mb 31), .ref (mb 32), .int 0, .int 0, .int 0, .int 0, .int 0, .int 0, .int 0, .ref (mb 33), .ref (mb 34), .ref (mb 35), .ref (mb 36), .int 0, .int 0, .int 0, .int 0, .ref (mb 37)]))] := hD.sub [0] (by decide) rfl
    exact W.vret hx hb hr (fun t ht hW => ⟨⟨(), rfl, trivial, by rw [ht]; exact hP9, hD9⟩, hS.F ht⟩) hS.2.2 dMO_owner_61
set_option maxHeartbeats 4000000 in
set_option maxRecDepth 100000 in
theorem zm_fail (l : Launch) (dC : Nat → ClassId) (dI : Nat → Nat → Nat) (cI cZ cJ : ClassId) (a0 : Array Value) (s0 : State) (mo : Nat) (mb : Nat → Nat) (sz : Nat) (p0 : Int32) : Met l yMO_fail [Cond.code yMO_fail bMO_fail 4 (some .boolean)] ({ frames := 1, cells := 0, slots := 0, locals := 22 } : Room) (zP zCl dC dI (zTY cI cZ cJ) a0 s0 [.ref mo, .int p0] sz [(mo, .inr (7, [.int 0, .int 0, .int 0, .int 0, .ref (mb 0), .ref (mb 1), .ref (mb 2), .ref (mb 3), .ref (mb 4), .ref (mb 5), .ref (mb 6), .ref (mb 7), .ref (mb 8), .ref (mb 9), .ref (mb 10), .ref (mb 11), .ref (mb 12), .ref (mb 13), .ref (mb 14), .ref (mb 15), .ref (mb 16), .ref (mb 17), .ref (mb 18), .ref (mb 19), .ref (mb 20), .ref (mb 21), .ref (mb 22), .ref (mb 23), .ref (mb 24), .ref (mb 25), .ref (mb 26), .ref (mb 27), .ref (mb 28), .ref (mb 29), .ref (mb 30), .ref (mb 31), .ref (mb 32), .int 0, .int 0, .int 0, .int 0, .int 0, .int 0, .int 0, .ref (mb 33), .ref (mb 34), .ref (mb 35), .ref (mb 36), .int 0, .int 0, .int 0, .int 0, .ref (mb 37)]))]) (zQi zCl dC dI (fun r => r = 0) [(mo, .inr (7, [.int 1, .int 0, .int 0, .int 0, .ref (mb 0), .ref (mb 1), .ref (mb 2), .ref (mb 3), .ref (mb 4), .ref (mb 5), .ref (mb 6), .ref (mb 7), .ref (mb 8), .ref (mb 9), .ref (mb 10), .ref (mb 11), .ref (mb 12), .ref (mb 13), .ref (mb 14), .ref (mb 15), .ref (mb 16), .ref (mb 17), .ref (mb 18), .ref (mb 19), .ref (mb 20), .ref (mb 21), .ref (mb 22), .ref (mb 23), .ref (mb 24), .ref (mb 25), .ref (mb 26), .ref (mb 27), .ref (mb 28), .ref (mb 29), .ref (mb 30), .ref (mb 31), .ref (mb 32), .int 0, .int 0, .int 0, .int 0, .int 0, .int 0, .int 0, .ref (mb 33), .ref (mb 34), .ref (mb 35), .ref (mb 36), .int 0, .int 0, .int 0, .int 0, .ref (mb 37)]))] (va_A [(mo, .inr (7, [.int 0, .int 0, .int 0, .int 0, .ref (mb 0), .ref (mb 1), .ref (mb 2), .ref (mb 3), .ref (mb 4), .ref (mb 5), .ref (mb 6), .ref (mb 7), .ref (mb 8), .ref (mb 9), .ref (mb 10), .ref (mb 11), .ref (mb 12), .ref (mb 13), .ref (mb 14), .ref (mb 15), .ref (mb 16), .ref (mb 17), .ref (mb 18), .ref (mb 19), .ref (mb 20), .ref (mb 21), .ref (mb 22), .ref (mb 23), .ref (mb 24), .ref (mb 25), .ref (mb 26), .ref (mb 27), .ref (mb 28), .ref (mb 29), .ref (mb 30), .ref (mb 31), .ref (mb 32), .int 0, .int 0, .int 0, .int 0, .int 0, .int 0, .int 0, .ref (mb 33), .ref (mb 34), .ref (mb 35), .ref (mb 36), .int 0, .int 0, .int 0, .int 0, .ref (mb 37)]))] sz)) 0 0 (va_A [(mo, .inr (7, [.int 0, .int 0, .int 0, .int 0, .ref (mb 0), .ref (mb 1), .ref (mb 2), .ref (mb 3), .ref (mb 4), .ref (mb 5), .ref (mb 6), .ref (mb 7), .ref (mb 8), .ref (mb 9), .ref (mb 10), .ref (mb 11), .ref (mb 12), .ref (mb 13), .ref (mb 14), .ref (mb 15), .ref (mb 16), .ref (mb 17), .ref (mb 18), .ref (mb 19), .ref (mb 20), .ref (mb 21), .ref (mb 22), .ref (mb 23), .ref (mb 24), .ref (mb 25), .ref (mb 26), .ref (mb 27), .ref (mb 28), .ref (mb 29), .ref (mb 30), .ref (mb 31), .ref (mb 32), .int 0, .int 0, .int 0, .int 0, .int 0, .int 0, .int 0, .ref (mb 33), .ref (mb 34), .ref (mb 35), .ref (mb 36), .int 0, .int 0, .int 0, .int 0, .ref (mb 37)]))] sz) := by
  refine Met.ofW (cc := bMO_fail) (maxL := 4) (ret := (some .boolean)) (by decide) rfl ?_
  intro p e s m args below meth c s₁ B hml hv
  obtain ⟨rfl, hsz, hP, hK, hD0, hB⟩ := hv
  have hx := B.exec
  have hb := B.bytes
  have hr := B.returns
  have hown : s.vm.findClass "RingGuardModel" = some m.cls := findClass_of_methodNamed B.named
  have hlocks := B.notSynchronized
  subst hsz
  have hD := hD0.self (sz := s.heap.size)
  have hA0 := zA0 hD0 hB
  generalize hAe : va_A [(mo, .inr (7, [.int 0, .int 0, .int 0, .int 0, .ref (mb 0), .ref (mb 1), .ref (mb 2), .ref (mb 3), .ref (mb 4), .ref (mb 5), .ref (mb 6), .ref (mb 7), .ref (mb 8), .ref (mb 9), .ref (mb 10), .ref (mb 11), .ref (mb 12), .ref (mb 13), .ref (mb 14), .ref (mb 15), .ref (mb 16), .ref (mb 17), .ref (mb 18), .ref (mb 19), .ref (mb 20), .ref (mb 21), .ref (mb 22), .ref (mb 23), .ref (mb 24), .ref (mb 25), .ref (mb 26), .ref (mb 27), .ref (mb 28), .ref (mb 29), .ref (mb 30), .ref (mb 31), .ref (mb 32), .int 0, .int 0, .int 0, .int 0, .int 0, .int 0, .int 0, .ref (mb 33), .ref (mb 34), .ref (mb 35), .ref (mb 36), .int 0, .int 0, .int 0, .int 0, .ref (mb 37)]))] s.heap.size = A at hD hA0 ⊢
  have hAD := hA0
  have hA : ∀ q : Nat, s.heap.size ≤ q → A q := fun q h => by rw [← hAe]; exact Or.inr h
  have hS : va_S A s.heap s.heap [] := va_S.rf
  have hP : va_P (dC, dI) zCl [(mo, .inr (7, [.int 0, .int 0, .int 0, .int 0, .ref (mb 0), .ref (mb 1), .ref (mb 2), .ref (mb 3), .ref (mb 4), .ref (mb 5), .ref (mb 6), .ref (mb 7), .ref (mb 8), .ref (mb 9), .ref (mb 10), .ref (mb 11), .ref (mb 12), .ref (mb 13), .ref (mb 14), .ref (mb 15), .ref (mb 16), .ref (mb 17), .ref (mb 18), .ref (mb 19), .ref (mb 20), .ref (mb 21), .ref (mb 22), .ref (mb 23), .ref (mb 24), .ref (mb 25), .ref (mb 26), .ref (mb 27), .ref (mb 28), .ref (mb 29), .ref (mb 30), .ref (mb 31), .ref (mb 32), .int 0, .int 0, .int 0, .int 0, .int 0, .int 0, .int 0, .ref (mb 33), .ref (mb 34), .ref (mb 35), .ref (mb 36), .int 0, .int 0, .int 0, .int 0, .ref (mb 37)]))] s.heap := hP
  have hl := lv_entry ([.ref mo, .int p0]) (n := 4) (Nat.le_of_ble_eq_true rfl)
  rw [lg_entry_eq]
  generalize (lg_sl ([.ref mo, .int p0]) ++ List.replicate (4 - (lg_sl ([.ref mo, .int p0])).length) Slot.unset).toArray = ls at hl ⊢
  have hl : lv_has ls 4 [(0, .ref mo), (1, .int p0)] := hl
  refine lv_aload_n hx hb dMO_fail_0 rfl (lv_at hl 0 rfl) ?_
  refine lv_aload_n hx hb dMO_fail_1 rfl (lv_at hl 0 rfl) ?_
  refine lv_iload_n hx hb dMO_fail_2 rfl (lv_at hl 1 rfl) ?_
  have hPc : va_P (dC, dI) zCl [(mo, .inr (7, [.int 0, .int 0, .int 0, .int 0, .ref (mb 0), .ref (mb 1), .ref (mb 2), .ref (mb 3), .ref (mb 4), .ref (mb 5), .ref (mb 6), .ref (mb 7), .ref (mb 8), .ref (mb 9), .ref (mb 10), .ref (mb 11), .ref (mb 12), .ref (mb 13), .ref (mb 14), .ref (mb 15), .ref (mb 16), .ref (mb 17), .ref (mb 18), .ref (mb 19), .ref (mb 20), .ref (mb 21), .ref (mb 22), .ref (mb 23), .ref (mb 24), .ref (mb 25), .ref (mb 26), .ref (mb 27), .ref (mb 28), .ref (mb 29), .ref (mb 30), .ref (mb 31), .ref (mb 32), .int 0, .int 0, .int 0, .int 0, .int 0, .int 0, .int 0, .ref (mb 33), .ref (mb 34), .ref (mb 35), .ref (mb 36), .int 0, .int 0, .int 0, .int 0, .ref (mb 37)]))] s.heap := hP.sub [0] rfl
  have hDc : va_D A [(mo, .inr (7, [.int 0, .int 0, .int 0, .int 0, .ref (mb 0), .ref (mb 1), .ref (mb 2), .ref (mb 3), .ref (mb 4), .ref (mb 5), .ref (mb 6), .ref (mb 7), .ref (mb 8), .ref (mb 9), .ref (mb 10), .ref (mb 11), .ref (mb 12), .ref (mb 13), .ref (mb 14), .ref (mb 15), .ref (mb 16), .ref (mb 17), .ref (mb 18), .ref (mb 19), .ref (mb 20), .ref (mb 21), .ref (mb 22), .ref (mb 23), .ref (mb 24), .ref (mb 25), .ref (mb 26), .ref (mb 27), .ref (mb 28), .ref (mb 29), .ref (mb 30), .ref (mb 31), .ref (mb 32), .int 0, .int 0, .int 0, .int 0, .int 0, .int 0, .int 0, .ref (mb 33), .ref (mb 34), .ref (mb 35), .ref (mb 36), .int 0, .int 0, .int 0, .int 0, .ref (mb 37)]))] := hD.sub [0] (by decide) rfl
  refine zcallp (va_runV (As := [.int p0]) (rest := [.ref mo]) ⟨hx, hb, hml, hown, zno⟩ (zm_isLink l dC dI cI cZ cJ a0 s0 mo mb s.heap.size p0) (zcw 1 (hB.word (zm5 k5_64) rfl) (hB.word (zm1 k1_9) rfl) (hB.word (zm5 k5_61) rfl) (hB.word (zm5 k5_63) rfl) (k2_selects_private (by decide) (hB.word (zm4 k4_109) rfl) (hB.word (zm5 k5_62) rfl) (hB.word (zm5 k5_63) rfl)) rfl rfl (by decide +kernel) ⟨Nat.le_of_ble_eq_true rfl, Nat.le_of_ble_eq_true rfl⟩) ⟨zP_blind, va_recv hK hP (ci := 7) (q0 := 0) rfl rfl, zP_pre hPc hK hDc hAD (zB_on hB hA0 hS)⟩ rfl rfl hl.1 rfl (lv_room (Nat.le_of_ble_eq_true rfl)) dMO_fail_3 ⟨Nat.le_of_ble_eq_true rfl, Nat.le_of_ble_eq_true rfl⟩) hS hA (fun r1 H1 locs hr1 hz1 hk1 hS => ?_)
  have hP := zKeep hP hk1
  generalize H1 = H at hP hS ⊢
  have hP : va_P (dC, dI) zCl [(mo, .inr (7, [.int 0, .int 0, .int 0, .int 0, .ref (mb 0), .ref (mb 1), .ref (mb 2), .ref (mb 3), .ref (mb 4), .ref (mb 5), .ref (mb 6), .ref (mb 7), .ref (mb 8), .ref (mb 9), .ref (mb 10), .ref (mb 11), .ref (mb 12), .ref (mb 13), .ref (mb 14), .ref (mb 15), .ref (mb 16), .ref (mb 17), .ref (mb 18), .ref (mb 19), .ref (mb 20), .ref (mb 21), .ref (mb 22), .ref (mb 23), .ref (mb 24), .ref (mb 25), .ref (mb 26), .ref (mb 27), .ref (mb 28), .ref (mb 29), .ref (mb 30), .ref (mb 31), .ref (mb 32), .int 0, .int 0, .int 0, .int 0, .int 0, .int 0, .int 0, .ref (mb 33), .ref (mb 34), .ref (mb 35), .ref (mb 36), .int 0, .int 0, .int 0, .int 0, .ref (mb 37)]))] H := hP
  subst hr1
  refine lv_aload_n hx hb dMO_fail_6 rfl (lv_at hl 0 rfl) ?_
  have hu7 : ∀ w ∈ u_ws "RingGuardModel" T_MO 53, w.before ([.ref mo, .int p0] : List Value).toArray s = true := hB.words zU_MO
  refine va_get (D := (dC, dI)) (ci := 7) (v := .int 0) (C := "RingGuardModel") (T := T_MO) (N := 53) hx hb hu7 zid hown hK hP 0 rfl rfl 1 (by decide) (hB.word (zm4 k4_115) rfl) (fun _ h9 => h9) rfl dMO_fail_7 ?_
  have hPc : va_P (dC, dI) zCl [(mo, .inr (7, [.int 0, .int 0, .int 0, .int 0, .ref (mb 0), .ref (mb 1), .ref (mb 2), .ref (mb 3), .ref (mb 4), .ref (mb 5), .ref (mb 6), .ref (mb 7), .ref (mb 8), .ref (mb 9), .ref (mb 10), .ref (mb 11), .ref (mb 12), .ref (mb 13), .ref (mb 14), .ref (mb 15), .ref (mb 16), .ref (mb 17), .ref (mb 18), .ref (mb 19), .ref (mb 20), .ref (mb 21), .ref (mb 22), .ref (mb 23), .ref (mb 24), .ref (mb 25), .ref (mb 26), .ref (mb 27), .ref (mb 28), .ref (mb 29), .ref (mb 30), .ref (mb 31), .ref (mb 32), .int 0, .int 0, .int 0, .int 0, .int 0, .int 0, .int 0, .ref (mb 33), .ref (mb 34), .ref (mb 35), .ref (mb 36), .int 0, .int 0, .int 0, .int 0, .ref (mb 37)]))] H := hP.sub [0] rfl
  have hDc : va_D A [(mo, .inr (7, [.int 0, .int 0, .int 0, .int 0, .ref (mb 0), .ref (mb 1), .ref (mb 2), .ref (mb 3), .ref (mb 4), .ref (mb 5), .ref (mb 6), .ref (mb 7), .ref (mb 8), .ref (mb 9), .ref (mb 10), .ref (mb 11), .ref (mb 12), .ref (mb 13), .ref (mb 14), .ref (mb 15), .ref (mb 16), .ref (mb 17), .ref (mb 18), .ref (mb 19), .ref (mb 20), .ref (mb 21), .ref (mb 22), .ref (mb 23), .ref (mb 24), .ref (mb 25), .ref (mb 26), .ref (mb 27), .ref (mb 28), .ref (mb 29), .ref (mb 30), .ref (mb 31), .ref (mb 32), .int 0, .int 0, .int 0, .int 0, .int 0, .int 0, .int 0, .ref (mb 33), .ref (mb 34), .ref (mb 35), .ref (mb 36), .int 0, .int 0, .int 0, .int 0, .ref (mb 37)]))] := hD.sub [0] (by decide) rfl
  refine zcalli (wr := []) (va_runV (As := [.int 0, .int 0]) (rest := []) ⟨hx, hb, hml, hown, zno⟩ (zm_goes0 l dC dI cI cZ cJ a0 s0 mo mb H.size 0) (zcw 2 (hB.word (zm5 k5_56) rfl) (hB.word (zm1 k1_9) rfl) (hB.word (zm5 k5_53) rfl) (hB.word (zm5 k5_55) rfl) (k2_selects_private (by decide) (hB.word (zm4 k4_109) rfl) (hB.word (zm5 k5_54) rfl) (hB.word (zm5 k5_55) rfl)) rfl rfl (by decide +kernel) ⟨Nat.le_of_ble_eq_true rfl, Nat.le_of_ble_eq_true rfl⟩) ⟨zP_blind, va_recv hK hP (ci := 7) (q0 := 0) rfl rfl, zP_pre hPc hK hDc hAD (zB_on hB hA0 hS)⟩ rfl rfl hl.1 rfl (lv_room (Nat.le_of_ble_eq_true rfl)) dMO_fail_10 ⟨Nat.le_of_ble_eq_true rfl, Nat.le_of_ble_eq_true rfl⟩) hP hD hS hA [0] [] rfl rfl (by decide) (by decide) (fun r2 H1 locs hr2 hP hD hS => ?_)
  generalize H1 = H at hP hS ⊢
  have hP : va_P (dC, dI) zCl [(mo, .inr (7, [.int 1, .int 0, .int 0, .int 0, .ref (mb 0), .ref (mb 1), .ref (mb 2), .ref (mb 3), .ref (mb 4), .ref (mb 5), .ref (mb 6), .ref (mb 7), .ref (mb 8), .ref (mb 9), .ref (mb 10), .ref (mb 11), .ref (mb 12), .ref (mb 13), .ref (mb 14), .ref (mb 15), .ref (mb 16), .ref (mb 17), .ref (mb 18), .ref (mb 19), .ref (mb 20), .ref (mb 21), .ref (mb 22), .ref (mb 23), .ref (mb 24), .ref (mb 25), .ref (mb 26), .ref (mb 27), .ref (mb 28), .ref (mb 29), .ref (mb 30), .ref (mb 31), .ref (mb 32), .int 0, .int 0, .int 0, .int 0, .int 0, .int 0, .int 0, .ref (mb 33), .ref (mb 34), .ref (mb 35), .ref (mb 36), .int 0, .int 0, .int 0, .int 0, .ref (mb 37)]))] H := hP
  have hD : va_D A [(mo, .inr (7, [.int 1, .int 0, .int 0, .int 0, .ref (mb 0), .ref (mb 1), .ref (mb 2), .ref (mb 3), .ref (mb 4), .ref (mb 5), .ref (mb 6), .ref (mb 7), .ref (mb 8), .ref (mb 9), .ref (mb 10), .ref (mb 11), .ref (mb 12), .ref (mb 13), .ref (mb 14), .ref (mb 15), .ref (mb 16), .ref (mb 17), .ref (mb 18), .ref (mb 19), .ref (mb 20), .ref (mb 21), .ref (mb 22), .ref (mb 23), .ref (mb 24), .ref (mb 25), .ref (mb 26), .ref (mb 27), .ref (mb 28), .ref (mb 29), .ref (mb 30), .ref (mb 31), .ref (mb 32), .int 0, .int 0, .int 0, .int 0, .int 0, .int 0, .int 0, .ref (mb 33), .ref (mb 34), .ref (mb 35), .ref (mb 36), .int 0, .int 0, .int 0, .int 0, .ref (mb 37)]))] := hD
  subst hr2
  refine lv_if_eq (tgt := 25) hx hb dMO_fail_13 (by decide) (fun _ => ?_) (fun c9 => absurd (by decide) c9)
  refine lv_aload_n hx hb dMO_fail_25 rfl (lv_at hl 0 rfl) ?_
  have hPc : va_P (dC, dI) zCl [(mo, .inr (7, [.int 1, .int 0, .int 0, .int 0, .ref (mb 0), .ref (mb 1), .ref (mb 2), .ref (mb 3), .ref (mb 4), .ref (mb 5), .ref (mb 6), .ref (mb 7), .ref (mb 8), .ref (mb 9), .ref (mb 10), .ref (mb 11), .ref (mb 12), .ref (mb 13), .ref (mb 14), .ref (mb 15), .ref (mb 16), .ref (mb 17), .ref (mb 18), .ref (mb 19), .ref (mb 20), .ref (mb 21), .ref (mb 22), .ref (mb 23), .ref (mb 24), .ref (mb 25), .ref (mb 26), .ref (mb 27), .ref (mb 28), .ref (mb 29), .ref (mb 30), .ref (mb 31), .ref (mb 32), .int 0, .int 0, .int 0, .int 0, .int 0, .int 0, .int 0, .ref (mb 33), .ref (mb 34), .ref (mb 35), .ref (mb 36), .int 0, .int 0, .int 0, .int 0, .ref (mb 37)]))] H := hP.sub [0] rfl
  have hDc : va_D A [(mo, .inr (7, [.int 1, .int 0, .int 0, .int 0, .ref (mb 0), .ref (mb 1), .ref (mb 2), .ref (mb 3), .ref (mb 4), .ref (mb 5), .ref (mb 6), .ref (mb 7), .ref (mb 8), .ref (mb 9), .ref (mb 10), .ref (mb 11), .ref (mb 12), .ref (mb 13), .ref (mb 14), .ref (mb 15), .ref (mb 16), .ref (mb 17), .ref (mb 18), .ref (mb 19), .ref (mb 20), .ref (mb 21), .ref (mb 22), .ref (mb 23), .ref (mb 24), .ref (mb 25), .ref (mb 26), .ref (mb 27), .ref (mb 28), .ref (mb 29), .ref (mb 30), .ref (mb 31), .ref (mb 32), .int 0, .int 0, .int 0, .int 0, .int 0, .int 0, .int 0, .ref (mb 33), .ref (mb 34), .ref (mb 35), .ref (mb 36), .int 0, .int 0, .int 0, .int 0, .ref (mb 37)]))] := hD.sub [0] (by decide) rfl
  refine zcallo (va_runV (As := []) (rest := []) ⟨hx, hb, hml, hown, zno⟩ (zm_look l dC dI cI cZ cJ a0 s0 mo mb H.size) (zcw 0 (hB.word (zm5 k5_143) rfl) (hB.word (zm1 k1_9) rfl) (hB.word (zm5 k5_140) rfl) (hB.word (zm5 k5_142) rfl) (k2_selects_private (by decide) (hB.word (zm4 k4_109) rfl) (hB.word (zm5 k5_141) rfl) (hB.word (zm5 k5_142) rfl)) rfl rfl (by decide +kernel) ⟨Nat.le_of_ble_eq_true rfl, Nat.le_of_ble_eq_true rfl⟩) ⟨zP_blind, va_recv hK hP (ci := 7) (q0 := 0) rfl rfl, zP_pre hPc hK hDc hAD (zB_on hB hA0 hS)⟩ rfl rfl hl.1 rfl (lv_room (Nat.le_of_ble_eq_true rfl)) dMO_fail_26 ⟨Nat.le_of_ble_eq_true rfl, Nat.le_of_ble_eq_true rfl⟩) hS hA (fun H1 locs hz1 hk1 hS => ?_)
  have hP := zKeep hP hk1
  generalize H1 = H at hP hS ⊢
  have hP : va_P (dC, dI) zCl [(mo, .inr (7, [.int 1, .int 0, .int 0, .int 0, .ref (mb 0), .ref (mb 1), .ref (mb 2), .ref (mb 3), .ref (mb 4), .ref (mb 5), .ref (mb 6), .ref (mb 7), .ref (mb 8), .ref (mb 9), .ref (mb 10), .ref (mb 11), .ref (mb 12), .ref (mb 13), .ref (mb 14), .ref (mb 15), .ref (mb 16), .ref (mb 17), .ref (mb 18), .ref (mb 19), .ref (mb 20), .ref (mb 21), .ref (mb 22), .ref (mb 23), .ref (mb 24), .ref (mb 25), .ref (mb 26), .ref (mb 27), .ref (mb 28), .ref (mb 29), .ref (mb 30), .ref (mb 31), .ref (mb 32), .int 0, .int 0, .int 0, .int 0, .int 0, .int 0, .int 0, .ref (mb 33), .ref (mb 34), .ref (mb 35), .ref (mb 36), .int 0, .int 0, .int 0, .int 0, .ref (mb 37)]))] H := hP
  refine lv_iconst (v := 0) hx hb dMO_fail_29 (by decide) ?_
  refine W.widen (k := 0) (n := 0) (Nat.le_of_ble_eq_true rfl) (Nat.le_of_ble_eq_true rfl) ?_
  have hP9 : va_P (dC, dI) zCl [(mo, .inr (7, [.int 1, .int 0, .int 0, .int 0, .ref (mb 0), .ref (mb 1), .ref (mb 2), .ref (mb 3), .ref (mb 4), .ref (mb 5), .ref (mb 6), .ref (mb 7), .ref (mb 8), .ref (mb 9), .ref (mb 10), .ref (mb 11), .ref (mb 12), .ref (mb 13), .ref (mb 14), .ref (mb 15), .ref (mb 16), .ref (mb 17), .ref (mb 18), .ref (mb 19), .ref (mb 20), .ref (mb 21), .ref (mb 22), .ref (mb 23), .ref (mb 24), .ref (mb 25), .ref (mb 26), .ref (mb 27), .ref (mb 28), .ref (mb 29), .ref (mb 30), .ref (mb 31), .ref (mb 32), .int 0, .int 0, .int 0, .int 0, .int 0, .int 0, .int 0, .ref (mb 33), .ref (mb 34), .ref (mb 35), .ref (mb 36), .int 0, .int 0, .int 0, .int 0, .ref (mb 37)]))] H := hP.sub [0] rfl
  have hD9 : va_D A [(mo, .inr (7, [.int 1, .int 0, .int 0, .int 0, .ref (mb 0), .ref (mb 1), .ref (mb 2), .ref (mb 3), .ref (mb 4), .ref (mb 5), .ref (mb 6), .ref (mb 7), .ref (mb 8), .ref (mb 9), .ref (mb 10), .ref (mb 11), .ref (mb 12), .ref (mb 13), .ref (mb 14), .ref (mb 15), .ref (mb 16), .ref (mb 17), .ref (mb 18), .ref (mb 19), .ref (mb 20), .ref (mb 21), .ref (mb 22), .ref (mb 23), .ref (mb 24), .ref (mb 25), .ref (mb 26), .ref (mb 27), .ref (mb 28), .ref (mb 29), .ref (mb 30), .ref (mb 31), .ref (mb 32), .int 0, .int 0, .int 0, .int 0, .int 0, .int 0, .int 0, .ref (mb 33), .ref (mb 34), .ref (mb 35), .ref (mb 36), .int 0, .int 0, .int 0, .int 0, .ref (mb 37)]))] := hD.sub [0] (by decide) rfl
  exact W.zret (v := 0) (ty := .boolean) hx hb hr rfl (fun t ht hW => ⟨⟨0, (), rfl, rfl, by rw [ht]; exact hP9, hD9⟩, hS.F ht⟩) hS.2.2 dMO_fail_30
set_option maxHeartbeats 4000000 in
set_option maxRecDepth 100000 in
theorem zm_heal (l : Launch) (dC : Nat → ClassId) (dI : Nat → Nat → Nat) (cI cZ cJ : ClassId) (a0 : Array Value) (s0 : State) (mo : Nat) (mb : Nat → Nat) (sz : Nat) (p0 : Int32) : Met l yMO_heal [Cond.code yMO_heal bMO_heal 2 (some .boolean)] ({ frames := 1, cells := 0, slots := 0, locals := 22 } : Room) (zP zCl dC dI (zTY cI cZ cJ) a0 s0 [.ref mo, .int p0] sz [(mo, .inr (7, [.int 0, .int 0, .int 0, .int 0, .ref (mb 0), .ref (mb 1), .ref (mb 2), .ref (mb 3), .ref (mb 4), .ref (mb 5), .ref (mb 6), .ref (mb 7), .ref (mb 8), .ref (mb 9), .ref (mb 10), .ref (mb 11), .ref (mb 12), .ref (mb 13), .ref (mb 14), .ref (mb 15), .ref (mb 16), .ref (mb 17), .ref (mb 18), .ref (mb 19), .ref (mb 20), .ref (mb 21), .ref (mb 22), .ref (mb 23), .ref (mb 24), .ref (mb 25), .ref (mb 26), .ref (mb 27), .ref (mb 28), .ref (mb 29), .ref (mb 30), .ref (mb 31), .ref (mb 32), .int 0, .int 0, .int 0, .int 0, .int 0, .int 0, .int 0, .ref (mb 33), .ref (mb 34), .ref (mb 35), .ref (mb 36), .int 0, .int 0, .int 0, .int 0, .ref (mb 37)]))]) (zQi zCl dC dI (fun r => r = 0) [(mo, .inr (7, [.int 1, .int 0, .int 0, .int 0, .ref (mb 0), .ref (mb 1), .ref (mb 2), .ref (mb 3), .ref (mb 4), .ref (mb 5), .ref (mb 6), .ref (mb 7), .ref (mb 8), .ref (mb 9), .ref (mb 10), .ref (mb 11), .ref (mb 12), .ref (mb 13), .ref (mb 14), .ref (mb 15), .ref (mb 16), .ref (mb 17), .ref (mb 18), .ref (mb 19), .ref (mb 20), .ref (mb 21), .ref (mb 22), .ref (mb 23), .ref (mb 24), .ref (mb 25), .ref (mb 26), .ref (mb 27), .ref (mb 28), .ref (mb 29), .ref (mb 30), .ref (mb 31), .ref (mb 32), .int 0, .int 0, .int 0, .int 0, .int 0, .int 0, .int 0, .ref (mb 33), .ref (mb 34), .ref (mb 35), .ref (mb 36), .int 0, .int 0, .int 0, .int 0, .ref (mb 37)]))] (va_A [(mo, .inr (7, [.int 0, .int 0, .int 0, .int 0, .ref (mb 0), .ref (mb 1), .ref (mb 2), .ref (mb 3), .ref (mb 4), .ref (mb 5), .ref (mb 6), .ref (mb 7), .ref (mb 8), .ref (mb 9), .ref (mb 10), .ref (mb 11), .ref (mb 12), .ref (mb 13), .ref (mb 14), .ref (mb 15), .ref (mb 16), .ref (mb 17), .ref (mb 18), .ref (mb 19), .ref (mb 20), .ref (mb 21), .ref (mb 22), .ref (mb 23), .ref (mb 24), .ref (mb 25), .ref (mb 26), .ref (mb 27), .ref (mb 28), .ref (mb 29), .ref (mb 30), .ref (mb 31), .ref (mb 32), .int 0, .int 0, .int 0, .int 0, .int 0, .int 0, .int 0, .ref (mb 33), .ref (mb 34), .ref (mb 35), .ref (mb 36), .int 0, .int 0, .int 0, .int 0, .ref (mb 37)]))] sz)) 0 0 (va_A [(mo, .inr (7, [.int 0, .int 0, .int 0, .int 0, .ref (mb 0), .ref (mb 1), .ref (mb 2), .ref (mb 3), .ref (mb 4), .ref (mb 5), .ref (mb 6), .ref (mb 7), .ref (mb 8), .ref (mb 9), .ref (mb 10), .ref (mb 11), .ref (mb 12), .ref (mb 13), .ref (mb 14), .ref (mb 15), .ref (mb 16), .ref (mb 17), .ref (mb 18), .ref (mb 19), .ref (mb 20), .ref (mb 21), .ref (mb 22), .ref (mb 23), .ref (mb 24), .ref (mb 25), .ref (mb 26), .ref (mb 27), .ref (mb 28), .ref (mb 29), .ref (mb 30), .ref (mb 31), .ref (mb 32), .int 0, .int 0, .int 0, .int 0, .int 0, .int 0, .int 0, .ref (mb 33), .ref (mb 34), .ref (mb 35), .ref (mb 36), .int 0, .int 0, .int 0, .int 0, .ref (mb 37)]))] sz) := by
  refine Met.ofW (cc := bMO_heal) (maxL := 2) (ret := (some .boolean)) (by decide) rfl ?_
  intro p e s m args below meth c s₁ B hml hv
  obtain ⟨rfl, hsz, hP, hK, hD0, hB⟩ := hv
  have hx := B.exec
  have hb := B.bytes
  have hr := B.returns
  have hown : s.vm.findClass "RingGuardModel" = some m.cls := findClass_of_methodNamed B.named
  have hlocks := B.notSynchronized
  subst hsz
  have hD := hD0.self (sz := s.heap.size)
  have hA0 := zA0 hD0 hB
  generalize hAe : va_A [(mo, .inr (7, [.int 0, .int 0, .int 0, .int 0, .ref (mb 0), .ref (mb 1), .ref (mb 2), .ref (mb 3), .ref (mb 4), .ref (mb 5), .ref (mb 6), .ref (mb 7), .ref (mb 8), .ref (mb 9), .ref (mb 10), .ref (mb 11), .ref (mb 12), .ref (mb 13), .ref (mb 14), .ref (mb 15), .ref (mb 16), .ref (mb 17), .ref (mb 18), .ref (mb 19), .ref (mb 20), .ref (mb 21), .ref (mb 22), .ref (mb 23), .ref (mb 24), .ref (mb 25), .ref (mb 26), .ref (mb 27), .ref (mb 28), .ref (mb 29), .ref (mb 30), .ref (mb 31), .ref (mb 32), .int 0, .int 0, .int 0, .int 0, .int 0, .int 0, .int 0, .ref (mb 33), .ref (mb 34), .ref (mb 35), .ref (mb 36), .int 0, .int 0, .int 0, .int 0, .ref (mb 37)]))] s.heap.size = A at hD hA0 ⊢
  have hAD := hA0
  have hA : ∀ q : Nat, s.heap.size ≤ q → A q := fun q h => by rw [← hAe]; exact Or.inr h
  have hS : va_S A s.heap s.heap [] := va_S.rf
  have hP : va_P (dC, dI) zCl [(mo, .inr (7, [.int 0, .int 0, .int 0, .int 0, .ref (mb 0), .ref (mb 1), .ref (mb 2), .ref (mb 3), .ref (mb 4), .ref (mb 5), .ref (mb 6), .ref (mb 7), .ref (mb 8), .ref (mb 9), .ref (mb 10), .ref (mb 11), .ref (mb 12), .ref (mb 13), .ref (mb 14), .ref (mb 15), .ref (mb 16), .ref (mb 17), .ref (mb 18), .ref (mb 19), .ref (mb 20), .ref (mb 21), .ref (mb 22), .ref (mb 23), .ref (mb 24), .ref (mb 25), .ref (mb 26), .ref (mb 27), .ref (mb 28), .ref (mb 29), .ref (mb 30), .ref (mb 31), .ref (mb 32), .int 0, .int 0, .int 0, .int 0, .int 0, .int 0, .int 0, .ref (mb 33), .ref (mb 34), .ref (mb 35), .ref (mb 36), .int 0, .int 0, .int 0, .int 0, .ref (mb 37)]))] s.heap := hP
  have hl := lv_entry ([.ref mo, .int p0]) (n := 2) (Nat.le_of_ble_eq_true rfl)
  rw [lg_entry_eq]
  generalize (lg_sl ([.ref mo, .int p0]) ++ List.replicate (2 - (lg_sl ([.ref mo, .int p0])).length) Slot.unset).toArray = ls at hl ⊢
  have hl : lv_has ls 2 [(0, .ref mo), (1, .int p0)] := hl
  refine lv_aload_n hx hb dMO_heal_0 rfl (lv_at hl 0 rfl) ?_
  refine lv_aload_n hx hb dMO_heal_1 rfl (lv_at hl 0 rfl) ?_
  refine lv_iload_n hx hb dMO_heal_2 rfl (lv_at hl 1 rfl) ?_
  have hPc : va_P (dC, dI) zCl [(mo, .inr (7, [.int 0, .int 0, .int 0, .int 0, .ref (mb 0), .ref (mb 1), .ref (mb 2), .ref (mb 3), .ref (mb 4), .ref (mb 5), .ref (mb 6), .ref (mb 7), .ref (mb 8), .ref (mb 9), .ref (mb 10), .ref (mb 11), .ref (mb 12), .ref (mb 13), .ref (mb 14), .ref (mb 15), .ref (mb 16), .ref (mb 17), .ref (mb 18), .ref (mb 19), .ref (mb 20), .ref (mb 21), .ref (mb 22), .ref (mb 23), .ref (mb 24), .ref (mb 25), .ref (mb 26), .ref (mb 27), .ref (mb 28), .ref (mb 29), .ref (mb 30), .ref (mb 31), .ref (mb 32), .int 0, .int 0, .int 0, .int 0, .int 0, .int 0, .int 0, .ref (mb 33), .ref (mb 34), .ref (mb 35), .ref (mb 36), .int 0, .int 0, .int 0, .int 0, .ref (mb 37)]))] s.heap := hP.sub [0] rfl
  have hDc : va_D A [(mo, .inr (7, [.int 0, .int 0, .int 0, .int 0, .ref (mb 0), .ref (mb 1), .ref (mb 2), .ref (mb 3), .ref (mb 4), .ref (mb 5), .ref (mb 6), .ref (mb 7), .ref (mb 8), .ref (mb 9), .ref (mb 10), .ref (mb 11), .ref (mb 12), .ref (mb 13), .ref (mb 14), .ref (mb 15), .ref (mb 16), .ref (mb 17), .ref (mb 18), .ref (mb 19), .ref (mb 20), .ref (mb 21), .ref (mb 22), .ref (mb 23), .ref (mb 24), .ref (mb 25), .ref (mb 26), .ref (mb 27), .ref (mb 28), .ref (mb 29), .ref (mb 30), .ref (mb 31), .ref (mb 32), .int 0, .int 0, .int 0, .int 0, .int 0, .int 0, .int 0, .ref (mb 33), .ref (mb 34), .ref (mb 35), .ref (mb 36), .int 0, .int 0, .int 0, .int 0, .ref (mb 37)]))] := hD.sub [0] (by decide) rfl
  refine zcallp (va_runV (As := [.int p0]) (rest := [.ref mo]) ⟨hx, hb, hml, hown, zno⟩ (zm_isLink l dC dI cI cZ cJ a0 s0 mo mb s.heap.size p0) (zcw 1 (hB.word (zm5 k5_64) rfl) (hB.word (zm1 k1_9) rfl) (hB.word (zm5 k5_61) rfl) (hB.word (zm5 k5_63) rfl) (k2_selects_private (by decide) (hB.word (zm4 k4_109) rfl) (hB.word (zm5 k5_62) rfl) (hB.word (zm5 k5_63) rfl)) rfl rfl (by decide +kernel) ⟨Nat.le_of_ble_eq_true rfl, Nat.le_of_ble_eq_true rfl⟩) ⟨zP_blind, va_recv hK hP (ci := 7) (q0 := 0) rfl rfl, zP_pre hPc hK hDc hAD (zB_on hB hA0 hS)⟩ rfl rfl hl.1 rfl (lv_room (Nat.le_of_ble_eq_true rfl)) dMO_heal_3 ⟨Nat.le_of_ble_eq_true rfl, Nat.le_of_ble_eq_true rfl⟩) hS hA (fun r1 H1 locs hr1 hz1 hk1 hS => ?_)
  have hP := zKeep hP hk1
  generalize H1 = H at hP hS ⊢
  have hP : va_P (dC, dI) zCl [(mo, .inr (7, [.int 0, .int 0, .int 0, .int 0, .ref (mb 0), .ref (mb 1), .ref (mb 2), .ref (mb 3), .ref (mb 4), .ref (mb 5), .ref (mb 6), .ref (mb 7), .ref (mb 8), .ref (mb 9), .ref (mb 10), .ref (mb 11), .ref (mb 12), .ref (mb 13), .ref (mb 14), .ref (mb 15), .ref (mb 16), .ref (mb 17), .ref (mb 18), .ref (mb 19), .ref (mb 20), .ref (mb 21), .ref (mb 22), .ref (mb 23), .ref (mb 24), .ref (mb 25), .ref (mb 26), .ref (mb 27), .ref (mb 28), .ref (mb 29), .ref (mb 30), .ref (mb 31), .ref (mb 32), .int 0, .int 0, .int 0, .int 0, .int 0, .int 0, .int 0, .ref (mb 33), .ref (mb 34), .ref (mb 35), .ref (mb 36), .int 0, .int 0, .int 0, .int 0, .ref (mb 37)]))] H := hP
  subst hr1
  refine lv_aload_n hx hb dMO_heal_6 rfl (lv_at hl 0 rfl) ?_
  have hu7 : ∀ w ∈ u_ws "RingGuardModel" T_MO 53, w.before ([.ref mo, .int p0] : List Value).toArray s = true := hB.words zU_MO
  refine va_get (D := (dC, dI)) (ci := 7) (v := .int 0) (C := "RingGuardModel") (T := T_MO) (N := 53) hx hb hu7 zid hown hK hP 0 rfl rfl 1 (by decide) (hB.word (zm4 k4_115) rfl) (fun _ h9 => h9) rfl dMO_heal_7 ?_
  have hPc : va_P (dC, dI) zCl [(mo, .inr (7, [.int 0, .int 0, .int 0, .int 0, .ref (mb 0), .ref (mb 1), .ref (mb 2), .ref (mb 3), .ref (mb 4), .ref (mb 5), .ref (mb 6), .ref (mb 7), .ref (mb 8), .ref (mb 9), .ref (mb 10), .ref (mb 11), .ref (mb 12), .ref (mb 13), .ref (mb 14), .ref (mb 15), .ref (mb 16), .ref (mb 17), .ref (mb 18), .ref (mb 19), .ref (mb 20), .ref (mb 21), .ref (mb 22), .ref (mb 23), .ref (mb 24), .ref (mb 25), .ref (mb 26), .ref (mb 27), .ref (mb 28), .ref (mb 29), .ref (mb 30), .ref (mb 31), .ref (mb 32), .int 0, .int 0, .int 0, .int 0, .int 0, .int 0, .int 0, .ref (mb 33), .ref (mb 34), .ref (mb 35), .ref (mb 36), .int 0, .int 0, .int 0, .int 0, .ref (mb 37)]))] H := hP.sub [0] rfl
  have hDc : va_D A [(mo, .inr (7, [.int 0, .int 0, .int 0, .int 0, .ref (mb 0), .ref (mb 1), .ref (mb 2), .ref (mb 3), .ref (mb 4), .ref (mb 5), .ref (mb 6), .ref (mb 7), .ref (mb 8), .ref (mb 9), .ref (mb 10), .ref (mb 11), .ref (mb 12), .ref (mb 13), .ref (mb 14), .ref (mb 15), .ref (mb 16), .ref (mb 17), .ref (mb 18), .ref (mb 19), .ref (mb 20), .ref (mb 21), .ref (mb 22), .ref (mb 23), .ref (mb 24), .ref (mb 25), .ref (mb 26), .ref (mb 27), .ref (mb 28), .ref (mb 29), .ref (mb 30), .ref (mb 31), .ref (mb 32), .int 0, .int 0, .int 0, .int 0, .int 0, .int 0, .int 0, .ref (mb 33), .ref (mb 34), .ref (mb 35), .ref (mb 36), .int 0, .int 0, .int 0, .int 0, .ref (mb 37)]))] := hD.sub [0] (by decide) rfl
  refine zcalli (wr := []) (va_runV (As := [.int 0, .int 0]) (rest := []) ⟨hx, hb, hml, hown, zno⟩ (zm_goes0 l dC dI cI cZ cJ a0 s0 mo mb H.size 0) (zcw 2 (hB.word (zm5 k5_56) rfl) (hB.word (zm1 k1_9) rfl) (hB.word (zm5 k5_53) rfl) (hB.word (zm5 k5_55) rfl) (k2_selects_private (by decide) (hB.word (zm4 k4_109) rfl) (hB.word (zm5 k5_54) rfl) (hB.word (zm5 k5_55) rfl)) rfl rfl (by decide +kernel) ⟨Nat.le_of_ble_eq_true rfl, Nat.le_of_ble_eq_true rfl⟩) ⟨zP_blind, va_recv hK hP (ci := 7) (q0 := 0) rfl rfl, zP_pre hPc hK hDc hAD (zB_on hB hA0 hS)⟩ rfl rfl hl.1 rfl (lv_room (Nat.le_of_ble_eq_true rfl)) dMO_heal_10 ⟨Nat.le_of_ble_eq_true rfl, Nat.le_of_ble_eq_true rfl⟩) hP hD hS hA [0] [] rfl rfl (by decide) (by decide) (fun r2 H1 locs hr2 hP hD hS => ?_)
  generalize H1 = H at hP hS ⊢
  have hP : va_P (dC, dI) zCl [(mo, .inr (7, [.int 1, .int 0, .int 0, .int 0, .ref (mb 0), .ref (mb 1), .ref (mb 2), .ref (mb 3), .ref (mb 4), .ref (mb 5), .ref (mb 6), .ref (mb 7), .ref (mb 8), .ref (mb 9), .ref (mb 10), .ref (mb 11), .ref (mb 12), .ref (mb 13), .ref (mb 14), .ref (mb 15), .ref (mb 16), .ref (mb 17), .ref (mb 18), .ref (mb 19), .ref (mb 20), .ref (mb 21), .ref (mb 22), .ref (mb 23), .ref (mb 24), .ref (mb 25), .ref (mb 26), .ref (mb 27), .ref (mb 28), .ref (mb 29), .ref (mb 30), .ref (mb 31), .ref (mb 32), .int 0, .int 0, .int 0, .int 0, .int 0, .int 0, .int 0, .ref (mb 33), .ref (mb 34), .ref (mb 35), .ref (mb 36), .int 0, .int 0, .int 0, .int 0, .ref (mb 37)]))] H := hP
  have hD : va_D A [(mo, .inr (7, [.int 1, .int 0, .int 0, .int 0, .ref (mb 0), .ref (mb 1), .ref (mb 2), .ref (mb 3), .ref (mb 4), .ref (mb 5), .ref (mb 6), .ref (mb 7), .ref (mb 8), .ref (mb 9), .ref (mb 10), .ref (mb 11), .ref (mb 12), .ref (mb 13), .ref (mb 14), .ref (mb 15), .ref (mb 16), .ref (mb 17), .ref (mb 18), .ref (mb 19), .ref (mb 20), .ref (mb 21), .ref (mb 22), .ref (mb 23), .ref (mb 24), .ref (mb 25), .ref (mb 26), .ref (mb 27), .ref (mb 28), .ref (mb 29), .ref (mb 30), .ref (mb 31), .ref (mb 32), .int 0, .int 0, .int 0, .int 0, .int 0, .int 0, .int 0, .ref (mb 33), .ref (mb 34), .ref (mb 35), .ref (mb 36), .int 0, .int 0, .int 0, .int 0, .ref (mb 37)]))] := hD
  subst hr2
  refine lv_if_eq (tgt := 25) hx hb dMO_heal_13 (by decide) (fun _ => ?_) (fun c9 => absurd (by decide) c9)
  refine lv_aload_n hx hb dMO_heal_25 rfl (lv_at hl 0 rfl) ?_
  have hPc : va_P (dC, dI) zCl [(mo, .inr (7, [.int 1, .int 0, .int 0, .int 0, .ref (mb 0), .ref (mb 1), .ref (mb 2), .ref (mb 3), .ref (mb 4), .ref (mb 5), .ref (mb 6), .ref (mb 7), .ref (mb 8), .ref (mb 9), .ref (mb 10), .ref (mb 11), .ref (mb 12), .ref (mb 13), .ref (mb 14), .ref (mb 15), .ref (mb 16), .ref (mb 17), .ref (mb 18), .ref (mb 19), .ref (mb 20), .ref (mb 21), .ref (mb 22), .ref (mb 23), .ref (mb 24), .ref (mb 25), .ref (mb 26), .ref (mb 27), .ref (mb 28), .ref (mb 29), .ref (mb 30), .ref (mb 31), .ref (mb 32), .int 0, .int 0, .int 0, .int 0, .int 0, .int 0, .int 0, .ref (mb 33), .ref (mb 34), .ref (mb 35), .ref (mb 36), .int 0, .int 0, .int 0, .int 0, .ref (mb 37)]))] H := hP.sub [0] rfl
  have hDc : va_D A [(mo, .inr (7, [.int 1, .int 0, .int 0, .int 0, .ref (mb 0), .ref (mb 1), .ref (mb 2), .ref (mb 3), .ref (mb 4), .ref (mb 5), .ref (mb 6), .ref (mb 7), .ref (mb 8), .ref (mb 9), .ref (mb 10), .ref (mb 11), .ref (mb 12), .ref (mb 13), .ref (mb 14), .ref (mb 15), .ref (mb 16), .ref (mb 17), .ref (mb 18), .ref (mb 19), .ref (mb 20), .ref (mb 21), .ref (mb 22), .ref (mb 23), .ref (mb 24), .ref (mb 25), .ref (mb 26), .ref (mb 27), .ref (mb 28), .ref (mb 29), .ref (mb 30), .ref (mb 31), .ref (mb 32), .int 0, .int 0, .int 0, .int 0, .int 0, .int 0, .int 0, .ref (mb 33), .ref (mb 34), .ref (mb 35), .ref (mb 36), .int 0, .int 0, .int 0, .int 0, .ref (mb 37)]))] := hD.sub [0] (by decide) rfl
  refine zcallo (va_runV (As := []) (rest := []) ⟨hx, hb, hml, hown, zno⟩ (zm_look l dC dI cI cZ cJ a0 s0 mo mb H.size) (zcw 0 (hB.word (zm5 k5_143) rfl) (hB.word (zm1 k1_9) rfl) (hB.word (zm5 k5_140) rfl) (hB.word (zm5 k5_142) rfl) (k2_selects_private (by decide) (hB.word (zm4 k4_109) rfl) (hB.word (zm5 k5_141) rfl) (hB.word (zm5 k5_142) rfl)) rfl rfl (by decide +kernel) ⟨Nat.le_of_ble_eq_true rfl, Nat.le_of_ble_eq_true rfl⟩) ⟨zP_blind, va_recv hK hP (ci := 7) (q0 := 0) rfl rfl, zP_pre hPc hK hDc hAD (zB_on hB hA0 hS)⟩ rfl rfl hl.1 rfl (lv_room (Nat.le_of_ble_eq_true rfl)) dMO_heal_26 ⟨Nat.le_of_ble_eq_true rfl, Nat.le_of_ble_eq_true rfl⟩) hS hA (fun H1 locs hz1 hk1 hS => ?_)
  have hP := zKeep hP hk1
  generalize H1 = H at hP hS ⊢
  have hP : va_P (dC, dI) zCl [(mo, .inr (7, [.int 1, .int 0, .int 0, .int 0, .ref (mb 0), .ref (mb 1), .ref (mb 2), .ref (mb 3), .ref (mb 4), .ref (mb 5), .ref (mb 6), .ref (mb 7), .ref (mb 8), .ref (mb 9), .ref (mb 10), .ref (mb 11), .ref (mb 12), .ref (mb 13), .ref (mb 14), .ref (mb 15), .ref (mb 16), .ref (mb 17), .ref (mb 18), .ref (mb 19), .ref (mb 20), .ref (mb 21), .ref (mb 22), .ref (mb 23), .ref (mb 24), .ref (mb 25), .ref (mb 26), .ref (mb 27), .ref (mb 28), .ref (mb 29), .ref (mb 30), .ref (mb 31), .ref (mb 32), .int 0, .int 0, .int 0, .int 0, .int 0, .int 0, .int 0, .ref (mb 33), .ref (mb 34), .ref (mb 35), .ref (mb 36), .int 0, .int 0, .int 0, .int 0, .ref (mb 37)]))] H := hP
  refine lv_iconst (v := 0) hx hb dMO_heal_29 (by decide) ?_
  refine W.widen (k := 0) (n := 0) (Nat.le_of_ble_eq_true rfl) (Nat.le_of_ble_eq_true rfl) ?_
  have hP9 : va_P (dC, dI) zCl [(mo, .inr (7, [.int 1, .int 0, .int 0, .int 0, .ref (mb 0), .ref (mb 1), .ref (mb 2), .ref (mb 3), .ref (mb 4), .ref (mb 5), .ref (mb 6), .ref (mb 7), .ref (mb 8), .ref (mb 9), .ref (mb 10), .ref (mb 11), .ref (mb 12), .ref (mb 13), .ref (mb 14), .ref (mb 15), .ref (mb 16), .ref (mb 17), .ref (mb 18), .ref (mb 19), .ref (mb 20), .ref (mb 21), .ref (mb 22), .ref (mb 23), .ref (mb 24), .ref (mb 25), .ref (mb 26), .ref (mb 27), .ref (mb 28), .ref (mb 29), .ref (mb 30), .ref (mb 31), .ref (mb 32), .int 0, .int 0, .int 0, .int 0, .int 0, .int 0, .int 0, .ref (mb 33), .ref (mb 34), .ref (mb 35), .ref (mb 36), .int 0, .int 0, .int 0, .int 0, .ref (mb 37)]))] H := hP.sub [0] rfl
  have hD9 : va_D A [(mo, .inr (7, [.int 1, .int 0, .int 0, .int 0, .ref (mb 0), .ref (mb 1), .ref (mb 2), .ref (mb 3), .ref (mb 4), .ref (mb 5), .ref (mb 6), .ref (mb 7), .ref (mb 8), .ref (mb 9), .ref (mb 10), .ref (mb 11), .ref (mb 12), .ref (mb 13), .ref (mb 14), .ref (mb 15), .ref (mb 16), .ref (mb 17), .ref (mb 18), .ref (mb 19), .ref (mb 20), .ref (mb 21), .ref (mb 22), .ref (mb 23), .ref (mb 24), .ref (mb 25), .ref (mb 26), .ref (mb 27), .ref (mb 28), .ref (mb 29), .ref (mb 30), .ref (mb 31), .ref (mb 32), .int 0, .int 0, .int 0, .int 0, .int 0, .int 0, .int 0, .ref (mb 33), .ref (mb 34), .ref (mb 35), .ref (mb 36), .int 0, .int 0, .int 0, .int 0, .ref (mb 37)]))] := hD.sub [0] (by decide) rfl
  exact W.zret (v := 0) (ty := .boolean) hx hb hr rfl (fun t ht hW => ⟨⟨0, (), rfl, rfl, by rw [ht]; exact hP9, hD9⟩, hS.F ht⟩) hS.2.2 dMO_heal_30
set_option maxHeartbeats 4000000 in
set_option maxRecDepth 100000 in
theorem zm_lose (l : Launch) (dC : Nat → ClassId) (dI : Nat → Nat → Nat) (cI cZ cJ : ClassId) (a0 : Array Value) (s0 : State) (mo : Nat) (mb : Nat → Nat) (sz : Nat) (p0 p1 : Int32) : Met l yMO_lose [Cond.code yMO_lose bMO_lose 4 (some .int)] ({ frames := 1, cells := 0, slots := 0, locals := 22 } : Room) (zP zCl dC dI (zTY cI cZ cJ) a0 s0 [.ref mo, .int p0, .int p1] sz [(mo, .inr (7, [.int 0, .int 0, .int 0, .int 0, .ref (mb 0), .ref (mb 1), .ref (mb 2), .ref (mb 3), .ref (mb 4), .ref (mb 5), .ref (mb 6), .ref (mb 7), .ref (mb 8), .ref (mb 9), .ref (mb 10), .ref (mb 11), .ref (mb 12), .ref (mb 13), .ref (mb 14), .ref (mb 15), .ref (mb 16), .ref (mb 17), .ref (mb 18), .ref (mb 19), .ref (mb 20), .ref (mb 21), .ref (mb 22), .ref (mb 23), .ref (mb 24), .ref (mb 25), .ref (mb 26), .ref (mb 27), .ref (mb 28), .ref (mb 29), .ref (mb 30), .ref (mb 31), .ref (mb 32), .int 0, .int 0, .int 0, .int 0, .int 0, .int 0, .int 0, .ref (mb 33), .ref (mb 34), .ref (mb 35), .ref (mb 36), .int 0, .int 0, .int 0, .int 0, .ref (mb 37)]))]) (zQi zCl dC dI (fun r => r = 0) [(mo, .inr (7, [.int 1, .int 0, .int 0, .int 0, .ref (mb 0), .ref (mb 1), .ref (mb 2), .ref (mb 3), .ref (mb 4), .ref (mb 5), .ref (mb 6), .ref (mb 7), .ref (mb 8), .ref (mb 9), .ref (mb 10), .ref (mb 11), .ref (mb 12), .ref (mb 13), .ref (mb 14), .ref (mb 15), .ref (mb 16), .ref (mb 17), .ref (mb 18), .ref (mb 19), .ref (mb 20), .ref (mb 21), .ref (mb 22), .ref (mb 23), .ref (mb 24), .ref (mb 25), .ref (mb 26), .ref (mb 27), .ref (mb 28), .ref (mb 29), .ref (mb 30), .ref (mb 31), .ref (mb 32), .int 0, .int 0, .int 0, .int 0, .int 0, .int 0, .int 0, .ref (mb 33), .ref (mb 34), .ref (mb 35), .ref (mb 36), .int 0, .int 0, .int 0, .int 0, .ref (mb 37)]))] (va_A [(mo, .inr (7, [.int 0, .int 0, .int 0, .int 0, .ref (mb 0), .ref (mb 1), .ref (mb 2), .ref (mb 3), .ref (mb 4), .ref (mb 5), .ref (mb 6), .ref (mb 7), .ref (mb 8), .ref (mb 9), .ref (mb 10), .ref (mb 11), .ref (mb 12), .ref (mb 13), .ref (mb 14), .ref (mb 15), .ref (mb 16), .ref (mb 17), .ref (mb 18), .ref (mb 19), .ref (mb 20), .ref (mb 21), .ref (mb 22), .ref (mb 23), .ref (mb 24), .ref (mb 25), .ref (mb 26), .ref (mb 27), .ref (mb 28), .ref (mb 29), .ref (mb 30), .ref (mb 31), .ref (mb 32), .int 0, .int 0, .int 0, .int 0, .int 0, .int 0, .int 0, .ref (mb 33), .ref (mb 34), .ref (mb 35), .ref (mb 36), .int 0, .int 0, .int 0, .int 0, .ref (mb 37)]))] sz)) 0 0 (va_A [(mo, .inr (7, [.int 0, .int 0, .int 0, .int 0, .ref (mb 0), .ref (mb 1), .ref (mb 2), .ref (mb 3), .ref (mb 4), .ref (mb 5), .ref (mb 6), .ref (mb 7), .ref (mb 8), .ref (mb 9), .ref (mb 10), .ref (mb 11), .ref (mb 12), .ref (mb 13), .ref (mb 14), .ref (mb 15), .ref (mb 16), .ref (mb 17), .ref (mb 18), .ref (mb 19), .ref (mb 20), .ref (mb 21), .ref (mb 22), .ref (mb 23), .ref (mb 24), .ref (mb 25), .ref (mb 26), .ref (mb 27), .ref (mb 28), .ref (mb 29), .ref (mb 30), .ref (mb 31), .ref (mb 32), .int 0, .int 0, .int 0, .int 0, .int 0, .int 0, .int 0, .ref (mb 33), .ref (mb 34), .ref (mb 35), .ref (mb 36), .int 0, .int 0, .int 0, .int 0, .ref (mb 37)]))] sz) := by
  refine Met.ofW (cc := bMO_lose) (maxL := 4) (ret := (some .int)) (by decide) rfl ?_
  intro p e s m args below meth c s₁ B hml hv
  obtain ⟨rfl, hsz, hP, hK, hD0, hB⟩ := hv
  have hx := B.exec
  have hb := B.bytes
  have hr := B.returns
  have hown : s.vm.findClass "RingGuardModel" = some m.cls := findClass_of_methodNamed B.named
  have hlocks := B.notSynchronized
  subst hsz
  have hD := hD0.self (sz := s.heap.size)
  have hA0 := zA0 hD0 hB
  generalize hAe : va_A [(mo, .inr (7, [.int 0, .int 0, .int 0, .int 0, .ref (mb 0), .ref (mb 1), .ref (mb 2), .ref (mb 3), .ref (mb 4), .ref (mb 5), .ref (mb 6), .ref (mb 7), .ref (mb 8), .ref (mb 9), .ref (mb 10), .ref (mb 11), .ref (mb 12), .ref (mb 13), .ref (mb 14), .ref (mb 15), .ref (mb 16), .ref (mb 17), .ref (mb 18), .ref (mb 19), .ref (mb 20), .ref (mb 21), .ref (mb 22), .ref (mb 23), .ref (mb 24), .ref (mb 25), .ref (mb 26), .ref (mb 27), .ref (mb 28), .ref (mb 29), .ref (mb 30), .ref (mb 31), .ref (mb 32), .int 0, .int 0, .int 0, .int 0, .int 0, .int 0, .int 0, .ref (mb 33), .ref (mb 34), .ref (mb 35), .ref (mb 36), .int 0, .int 0, .int 0, .int 0, .ref (mb 37)]))] s.heap.size = A at hD hA0 ⊢
  have hAD := hA0
  have hA : ∀ q : Nat, s.heap.size ≤ q → A q := fun q h => by rw [← hAe]; exact Or.inr h
  have hS : va_S A s.heap s.heap [] := va_S.rf
  have hP : va_P (dC, dI) zCl [(mo, .inr (7, [.int 0, .int 0, .int 0, .int 0, .ref (mb 0), .ref (mb 1), .ref (mb 2), .ref (mb 3), .ref (mb 4), .ref (mb 5), .ref (mb 6), .ref (mb 7), .ref (mb 8), .ref (mb 9), .ref (mb 10), .ref (mb 11), .ref (mb 12), .ref (mb 13), .ref (mb 14), .ref (mb 15), .ref (mb 16), .ref (mb 17), .ref (mb 18), .ref (mb 19), .ref (mb 20), .ref (mb 21), .ref (mb 22), .ref (mb 23), .ref (mb 24), .ref (mb 25), .ref (mb 26), .ref (mb 27), .ref (mb 28), .ref (mb 29), .ref (mb 30), .ref (mb 31), .ref (mb 32), .int 0, .int 0, .int 0, .int 0, .int 0, .int 0, .int 0, .ref (mb 33), .ref (mb 34), .ref (mb 35), .ref (mb 36), .int 0, .int 0, .int 0, .int 0, .ref (mb 37)]))] s.heap := hP
  have hl := lv_entry ([.ref mo, .int p0, .int p1]) (n := 4) (Nat.le_of_ble_eq_true rfl)
  rw [lg_entry_eq]
  generalize (lg_sl ([.ref mo, .int p0, .int p1]) ++ List.replicate (4 - (lg_sl ([.ref mo, .int p0, .int p1])).length) Slot.unset).toArray = ls at hl ⊢
  have hl : lv_has ls 4 [(0, .ref mo), (1, .int p0), (2, .int p1)] := hl
  refine lv_aload_n hx hb dMO_lose_0 rfl (lv_at hl 0 rfl) ?_
  refine lv_aload_n hx hb dMO_lose_1 rfl (lv_at hl 0 rfl) ?_
  refine lv_iload_n hx hb dMO_lose_2 rfl (lv_at hl 1 rfl) ?_
  have hPc : va_P (dC, dI) zCl [(mo, .inr (7, [.int 0, .int 0, .int 0, .int 0, .ref (mb 0), .ref (mb 1), .ref (mb 2), .ref (mb 3), .ref (mb 4), .ref (mb 5), .ref (mb 6), .ref (mb 7), .ref (mb 8), .ref (mb 9), .ref (mb 10), .ref (mb 11), .ref (mb 12), .ref (mb 13), .ref (mb 14), .ref (mb 15), .ref (mb 16), .ref (mb 17), .ref (mb 18), .ref (mb 19), .ref (mb 20), .ref (mb 21), .ref (mb 22), .ref (mb 23), .ref (mb 24), .ref (mb 25), .ref (mb 26), .ref (mb 27), .ref (mb 28), .ref (mb 29), .ref (mb 30), .ref (mb 31), .ref (mb 32), .int 0, .int 0, .int 0, .int 0, .int 0, .int 0, .int 0, .ref (mb 33), .ref (mb 34), .ref (mb 35), .ref (mb 36), .int 0, .int 0, .int 0, .int 0, .ref (mb 37)]))] s.heap := hP.sub [0] rfl
  have hDc : va_D A [(mo, .inr (7, [.int 0, .int 0, .int 0, .int 0, .ref (mb 0), .ref (mb 1), .ref (mb 2), .ref (mb 3), .ref (mb 4), .ref (mb 5), .ref (mb 6), .ref (mb 7), .ref (mb 8), .ref (mb 9), .ref (mb 10), .ref (mb 11), .ref (mb 12), .ref (mb 13), .ref (mb 14), .ref (mb 15), .ref (mb 16), .ref (mb 17), .ref (mb 18), .ref (mb 19), .ref (mb 20), .ref (mb 21), .ref (mb 22), .ref (mb 23), .ref (mb 24), .ref (mb 25), .ref (mb 26), .ref (mb 27), .ref (mb 28), .ref (mb 29), .ref (mb 30), .ref (mb 31), .ref (mb 32), .int 0, .int 0, .int 0, .int 0, .int 0, .int 0, .int 0, .ref (mb 33), .ref (mb 34), .ref (mb 35), .ref (mb 36), .int 0, .int 0, .int 0, .int 0, .ref (mb 37)]))] := hD.sub [0] (by decide) rfl
  refine zcallp (va_runV (As := [.int p0]) (rest := [.ref mo]) ⟨hx, hb, hml, hown, zno⟩ (zm_isLink l dC dI cI cZ cJ a0 s0 mo mb s.heap.size p0) (zcw 1 (hB.word (zm5 k5_64) rfl) (hB.word (zm1 k1_9) rfl) (hB.word (zm5 k5_61) rfl) (hB.word (zm5 k5_63) rfl) (k2_selects_private (by decide) (hB.word (zm4 k4_109) rfl) (hB.word (zm5 k5_62) rfl) (hB.word (zm5 k5_63) rfl)) rfl rfl (by decide +kernel) ⟨Nat.le_of_ble_eq_true rfl, Nat.le_of_ble_eq_true rfl⟩) ⟨zP_blind, va_recv hK hP (ci := 7) (q0 := 0) rfl rfl, zP_pre hPc hK hDc hAD (zB_on hB hA0 hS)⟩ rfl rfl hl.1 rfl (lv_room (Nat.le_of_ble_eq_true rfl)) dMO_lose_3 ⟨Nat.le_of_ble_eq_true rfl, Nat.le_of_ble_eq_true rfl⟩) hS hA (fun r1 H1 locs hr1 hz1 hk1 hS => ?_)
  have hP := zKeep hP hk1
  generalize H1 = H at hP hS ⊢
  have hP : va_P (dC, dI) zCl [(mo, .inr (7, [.int 0, .int 0, .int 0, .int 0, .ref (mb 0), .ref (mb 1), .ref (mb 2), .ref (mb 3), .ref (mb 4), .ref (mb 5), .ref (mb 6), .ref (mb 7), .ref (mb 8), .ref (mb 9), .ref (mb 10), .ref (mb 11), .ref (mb 12), .ref (mb 13), .ref (mb 14), .ref (mb 15), .ref (mb 16), .ref (mb 17), .ref (mb 18), .ref (mb 19), .ref (mb 20), .ref (mb 21), .ref (mb 22), .ref (mb 23), .ref (mb 24), .ref (mb 25), .ref (mb 26), .ref (mb 27), .ref (mb 28), .ref (mb 29), .ref (mb 30), .ref (mb 31), .ref (mb 32), .int 0, .int 0, .int 0, .int 0, .int 0, .int 0, .int 0, .ref (mb 33), .ref (mb 34), .ref (mb 35), .ref (mb 36), .int 0, .int 0, .int 0, .int 0, .ref (mb 37)]))] H := hP
  subst hr1
  refine lv_if_eq (tgt := 24) hx hb dMO_lose_6 (by decide) (fun _ => ?_) (fun c9 => absurd (by decide) c9)
  refine lv_iconst (v := 0) hx hb dMO_lose_24 (by decide) ?_
  refine lv_aload_n hx hb dMO_lose_25 rfl (lv_at hl 0 rfl) ?_
  have hu7 : ∀ w ∈ u_ws "RingGuardModel" T_MO 53, w.before ([.ref mo, .int p0, .int p1] : List Value).toArray s = true := hB.words zU_MO
  refine va_get (D := (dC, dI)) (ci := 7) (v := .int 0) (C := "RingGuardModel") (T := T_MO) (N := 53) hx hb hu7 zid hown hK hP 0 rfl rfl 1 (by decide) (hB.word (zm4 k4_115) rfl) (fun _ h9 => h9) rfl dMO_lose_26 ?_
  have hPc : va_P (dC, dI) zCl [(mo, .inr (7, [.int 0, .int 0, .int 0, .int 0, .ref (mb 0), .ref (mb 1), .ref (mb 2), .ref (mb 3), .ref (mb 4), .ref (mb 5), .ref (mb 6), .ref (mb 7), .ref (mb 8), .ref (mb 9), .ref (mb 10), .ref (mb 11), .ref (mb 12), .ref (mb 13), .ref (mb 14), .ref (mb 15), .ref (mb 16), .ref (mb 17), .ref (mb 18), .ref (mb 19), .ref (mb 20), .ref (mb 21), .ref (mb 22), .ref (mb 23), .ref (mb 24), .ref (mb 25), .ref (mb 26), .ref (mb 27), .ref (mb 28), .ref (mb 29), .ref (mb 30), .ref (mb 31), .ref (mb 32), .int 0, .int 0, .int 0, .int 0, .int 0, .int 0, .int 0, .ref (mb 33), .ref (mb 34), .ref (mb 35), .ref (mb 36), .int 0, .int 0, .int 0, .int 0, .ref (mb 37)]))] H := hP.sub [0] rfl
  have hDc : va_D A [(mo, .inr (7, [.int 0, .int 0, .int 0, .int 0, .ref (mb 0), .ref (mb 1), .ref (mb 2), .ref (mb 3), .ref (mb 4), .ref (mb 5), .ref (mb 6), .ref (mb 7), .ref (mb 8), .ref (mb 9), .ref (mb 10), .ref (mb 11), .ref (mb 12), .ref (mb 13), .ref (mb 14), .ref (mb 15), .ref (mb 16), .ref (mb 17), .ref (mb 18), .ref (mb 19), .ref (mb 20), .ref (mb 21), .ref (mb 22), .ref (mb 23), .ref (mb 24), .ref (mb 25), .ref (mb 26), .ref (mb 27), .ref (mb 28), .ref (mb 29), .ref (mb 30), .ref (mb 31), .ref (mb 32), .int 0, .int 0, .int 0, .int 0, .int 0, .int 0, .int 0, .ref (mb 33), .ref (mb 34), .ref (mb 35), .ref (mb 36), .int 0, .int 0, .int 0, .int 0, .ref (mb 37)]))] := hD.sub [0] (by decide) rfl
  refine zcalli (wr := []) (va_runV (As := [.int 0, .int 0]) (rest := []) ⟨hx, hb, hml, hown, zno⟩ (zm_goes0 l dC dI cI cZ cJ a0 s0 mo mb H.size 0) (zcw 2 (hB.word (zm5 k5_56) rfl) (hB.word (zm1 k1_9) rfl) (hB.word (zm5 k5_53) rfl) (hB.word (zm5 k5_55) rfl) (k2_selects_private (by decide) (hB.word (zm4 k4_109) rfl) (hB.word (zm5 k5_54) rfl) (hB.word (zm5 k5_55) rfl)) rfl rfl (by decide +kernel) ⟨Nat.le_of_ble_eq_true rfl, Nat.le_of_ble_eq_true rfl⟩) ⟨zP_blind, va_recv hK hP (ci := 7) (q0 := 0) rfl rfl, zP_pre hPc hK hDc hAD (zB_on hB hA0 hS)⟩ rfl rfl hl.1 rfl (lv_room (Nat.le_of_ble_eq_true rfl)) dMO_lose_29 ⟨Nat.le_of_ble_eq_true rfl, Nat.le_of_ble_eq_true rfl⟩) hP hD hS hA [0] [] rfl rfl (by decide) (by decide) (fun r2 H1 locs hr2 hP hD hS => ?_)
  generalize H1 = H at hP hS ⊢
  have hP : va_P (dC, dI) zCl [(mo, .inr (7, [.int 1, .int 0, .int 0, .int 0, .ref (mb 0), .ref (mb 1), .ref (mb 2), .ref (mb 3), .ref (mb 4), .ref (mb 5), .ref (mb 6), .ref (mb 7), .ref (mb 8), .ref (mb 9), .ref (mb 10), .ref (mb 11), .ref (mb 12), .ref (mb 13), .ref (mb 14), .ref (mb 15), .ref (mb 16), .ref (mb 17), .ref (mb 18), .ref (mb 19), .ref (mb 20), .ref (mb 21), .ref (mb 22), .ref (mb 23), .ref (mb 24), .ref (mb 25), .ref (mb 26), .ref (mb 27), .ref (mb 28), .ref (mb 29), .ref (mb 30), .ref (mb 31), .ref (mb 32), .int 0, .int 0, .int 0, .int 0, .int 0, .int 0, .int 0, .ref (mb 33), .ref (mb 34), .ref (mb 35), .ref (mb 36), .int 0, .int 0, .int 0, .int 0, .ref (mb 37)]))] H := hP
  have hD : va_D A [(mo, .inr (7, [.int 1, .int 0, .int 0, .int 0, .ref (mb 0), .ref (mb 1), .ref (mb 2), .ref (mb 3), .ref (mb 4), .ref (mb 5), .ref (mb 6), .ref (mb 7), .ref (mb 8), .ref (mb 9), .ref (mb 10), .ref (mb 11), .ref (mb 12), .ref (mb 13), .ref (mb 14), .ref (mb 15), .ref (mb 16), .ref (mb 17), .ref (mb 18), .ref (mb 19), .ref (mb 20), .ref (mb 21), .ref (mb 22), .ref (mb 23), .ref (mb 24), .ref (mb 25), .ref (mb 26), .ref (mb 27), .ref (mb 28), .ref (mb 29), .ref (mb 30), .ref (mb 31), .ref (mb 32), .int 0, .int 0, .int 0, .int 0, .int 0, .int 0, .int 0, .ref (mb 33), .ref (mb 34), .ref (mb 35), .ref (mb 36), .int 0, .int 0, .int 0, .int 0, .ref (mb 37)]))] := hD
  subst hr2
  refine lv_if_ne (tgt := 37) hx hb dMO_lose_32 (by decide) (fun c9 => absurd (by decide) c9) (fun _ => ?_)
  refine lv_iconst (v := 0) hx hb dMO_lose_35 (by decide) ?_
  refine W.widen (k := 0) (n := 0) (Nat.le_of_ble_eq_true rfl) (Nat.le_of_ble_eq_true rfl) ?_
  have hP9 : va_P (dC, dI) zCl [(mo, .inr (7, [.int 1, .int 0, .int 0, .int 0, .ref (mb 0), .ref (mb 1), .ref (mb 2), .ref (mb 3), .ref (mb 4), .ref (mb 5), .ref (mb 6), .ref (mb 7), .ref (mb 8), .ref (mb 9), .ref (mb 10), .ref (mb 11), .ref (mb 12), .ref (mb 13), .ref (mb 14), .ref (mb 15), .ref (mb 16), .ref (mb 17), .ref (mb 18), .ref (mb 19), .ref (mb 20), .ref (mb 21), .ref (mb 22), .ref (mb 23), .ref (mb 24), .ref (mb 25), .ref (mb 26), .ref (mb 27), .ref (mb 28), .ref (mb 29), .ref (mb 30), .ref (mb 31), .ref (mb 32), .int 0, .int 0, .int 0, .int 0, .int 0, .int 0, .int 0, .ref (mb 33), .ref (mb 34), .ref (mb 35), .ref (mb 36), .int 0, .int 0, .int 0, .int 0, .ref (mb 37)]))] H := hP.sub [0] rfl
  have hD9 : va_D A [(mo, .inr (7, [.int 1, .int 0, .int 0, .int 0, .ref (mb 0), .ref (mb 1), .ref (mb 2), .ref (mb 3), .ref (mb 4), .ref (mb 5), .ref (mb 6), .ref (mb 7), .ref (mb 8), .ref (mb 9), .ref (mb 10), .ref (mb 11), .ref (mb 12), .ref (mb 13), .ref (mb 14), .ref (mb 15), .ref (mb 16), .ref (mb 17), .ref (mb 18), .ref (mb 19), .ref (mb 20), .ref (mb 21), .ref (mb 22), .ref (mb 23), .ref (mb 24), .ref (mb 25), .ref (mb 26), .ref (mb 27), .ref (mb 28), .ref (mb 29), .ref (mb 30), .ref (mb 31), .ref (mb 32), .int 0, .int 0, .int 0, .int 0, .int 0, .int 0, .int 0, .ref (mb 33), .ref (mb 34), .ref (mb 35), .ref (mb 36), .int 0, .int 0, .int 0, .int 0, .ref (mb 37)]))] := hD.sub [0] (by decide) rfl
  exact W.iret (v := 0) hx hb hr (fun t ht hW => ⟨⟨0, (), rfl, rfl, by rw [ht]; exact hP9, hD9⟩, hS.F ht⟩) hS.2.2 dMO_lose_36
set_option maxHeartbeats 4000000 in
set_option maxRecDepth 100000 in
theorem zm_clear (l : Launch) (dC : Nat → ClassId) (dI : Nat → Nat → Nat) (cI cZ cJ : ClassId) (a0 : Array Value) (s0 : State) (mo : Nat) (mb : Nat → Nat) (sz : Nat) (p0 p1 : Int32) : Met l yMO_clear [Cond.code yMO_clear bMO_clear 4 (some .boolean)] ({ frames := 1, cells := 0, slots := 0, locals := 22 } : Room) (zP zCl dC dI (zTY cI cZ cJ) a0 s0 [.ref mo, .int p0, .int p1] sz [(mo, .inr (7, [.int 0, .int 0, .int 0, .int 0, .ref (mb 0), .ref (mb 1), .ref (mb 2), .ref (mb 3), .ref (mb 4), .ref (mb 5), .ref (mb 6), .ref (mb 7), .ref (mb 8), .ref (mb 9), .ref (mb 10), .ref (mb 11), .ref (mb 12), .ref (mb 13), .ref (mb 14), .ref (mb 15), .ref (mb 16), .ref (mb 17), .ref (mb 18), .ref (mb 19), .ref (mb 20), .ref (mb 21), .ref (mb 22), .ref (mb 23), .ref (mb 24), .ref (mb 25), .ref (mb 26), .ref (mb 27), .ref (mb 28), .ref (mb 29), .ref (mb 30), .ref (mb 31), .ref (mb 32), .int 0, .int 0, .int 0, .int 0, .int 0, .int 0, .int 0, .ref (mb 33), .ref (mb 34), .ref (mb 35), .ref (mb 36), .int 0, .int 0, .int 0, .int 0, .ref (mb 37)]))]) (zQi zCl dC dI (fun r => r = 0) [(mo, .inr (7, [.int 1, .int 0, .int 0, .int 0, .ref (mb 0), .ref (mb 1), .ref (mb 2), .ref (mb 3), .ref (mb 4), .ref (mb 5), .ref (mb 6), .ref (mb 7), .ref (mb 8), .ref (mb 9), .ref (mb 10), .ref (mb 11), .ref (mb 12), .ref (mb 13), .ref (mb 14), .ref (mb 15), .ref (mb 16), .ref (mb 17), .ref (mb 18), .ref (mb 19), .ref (mb 20), .ref (mb 21), .ref (mb 22), .ref (mb 23), .ref (mb 24), .ref (mb 25), .ref (mb 26), .ref (mb 27), .ref (mb 28), .ref (mb 29), .ref (mb 30), .ref (mb 31), .ref (mb 32), .int 0, .int 0, .int 0, .int 0, .int 0, .int 0, .int 0, .ref (mb 33), .ref (mb 34), .ref (mb 35), .ref (mb 36), .int 0, .int 0, .int 0, .int 0, .ref (mb 37)]))] (va_A [(mo, .inr (7, [.int 0, .int 0, .int 0, .int 0, .ref (mb 0), .ref (mb 1), .ref (mb 2), .ref (mb 3), .ref (mb 4), .ref (mb 5), .ref (mb 6), .ref (mb 7), .ref (mb 8), .ref (mb 9), .ref (mb 10), .ref (mb 11), .ref (mb 12), .ref (mb 13), .ref (mb 14), .ref (mb 15), .ref (mb 16), .ref (mb 17), .ref (mb 18), .ref (mb 19), .ref (mb 20), .ref (mb 21), .ref (mb 22), .ref (mb 23), .ref (mb 24), .ref (mb 25), .ref (mb 26), .ref (mb 27), .ref (mb 28), .ref (mb 29), .ref (mb 30), .ref (mb 31), .ref (mb 32), .int 0, .int 0, .int 0, .int 0, .int 0, .int 0, .int 0, .ref (mb 33), .ref (mb 34), .ref (mb 35), .ref (mb 36), .int 0, .int 0, .int 0, .int 0, .ref (mb 37)]))] sz)) 0 0 (va_A [(mo, .inr (7, [.int 0, .int 0, .int 0, .int 0, .ref (mb 0), .ref (mb 1), .ref (mb 2), .ref (mb 3), .ref (mb 4), .ref (mb 5), .ref (mb 6), .ref (mb 7), .ref (mb 8), .ref (mb 9), .ref (mb 10), .ref (mb 11), .ref (mb 12), .ref (mb 13), .ref (mb 14), .ref (mb 15), .ref (mb 16), .ref (mb 17), .ref (mb 18), .ref (mb 19), .ref (mb 20), .ref (mb 21), .ref (mb 22), .ref (mb 23), .ref (mb 24), .ref (mb 25), .ref (mb 26), .ref (mb 27), .ref (mb 28), .ref (mb 29), .ref (mb 30), .ref (mb 31), .ref (mb 32), .int 0, .int 0, .int 0, .int 0, .int 0, .int 0, .int 0, .ref (mb 33), .ref (mb 34), .ref (mb 35), .ref (mb 36), .int 0, .int 0, .int 0, .int 0, .ref (mb 37)]))] sz) := by
  refine Met.ofW (cc := bMO_clear) (maxL := 4) (ret := (some .boolean)) (by decide) rfl ?_
  intro p e s m args below meth c s₁ B hml hv
  obtain ⟨rfl, hsz, hP, hK, hD0, hB⟩ := hv
  have hx := B.exec
  have hb := B.bytes
  have hr := B.returns
  have hown : s.vm.findClass "RingGuardModel" = some m.cls := findClass_of_methodNamed B.named
  have hlocks := B.notSynchronized
  subst hsz
  have hD := hD0.self (sz := s.heap.size)
  have hA0 := zA0 hD0 hB
  generalize hAe : va_A [(mo, .inr (7, [.int 0, .int 0, .int 0, .int 0, .ref (mb 0), .ref (mb 1), .ref (mb 2), .ref (mb 3), .ref (mb 4), .ref (mb 5), .ref (mb 6), .ref (mb 7), .ref (mb 8), .ref (mb 9), .ref (mb 10), .ref (mb 11), .ref (mb 12), .ref (mb 13), .ref (mb 14), .ref (mb 15), .ref (mb 16), .ref (mb 17), .ref (mb 18), .ref (mb 19), .ref (mb 20), .ref (mb 21), .ref (mb 22), .ref (mb 23), .ref (mb 24), .ref (mb 25), .ref (mb 26), .ref (mb 27), .ref (mb 28), .ref (mb 29), .ref (mb 30), .ref (mb 31), .ref (mb 32), .int 0, .int 0, .int 0, .int 0, .int 0, .int 0, .int 0, .ref (mb 33), .ref (mb 34), .ref (mb 35), .ref (mb 36), .int 0, .int 0, .int 0, .int 0, .ref (mb 37)]))] s.heap.size = A at hD hA0 ⊢
  have hAD := hA0
  have hA : ∀ q : Nat, s.heap.size ≤ q → A q := fun q h => by rw [← hAe]; exact Or.inr h
  have hS : va_S A s.heap s.heap [] := va_S.rf
  have hP : va_P (dC, dI) zCl [(mo, .inr (7, [.int 0, .int 0, .int 0, .int 0, .ref (mb 0), .ref (mb 1), .ref (mb 2), .ref (mb 3), .ref (mb 4), .ref (mb 5), .ref (mb 6), .ref (mb 7), .ref (mb 8), .ref (mb 9), .ref (mb 10), .ref (mb 11), .ref (mb 12), .ref (mb 13), .ref (mb 14), .ref (mb 15), .ref (mb 16), .ref (mb 17), .ref (mb 18), .ref (mb 19), .ref (mb 20), .ref (mb 21), .ref (mb 22), .ref (mb 23), .ref (mb 24), .ref (mb 25), .ref (mb 26), .ref (mb 27), .ref (mb 28), .ref (mb 29), .ref (mb 30), .ref (mb 31), .ref (mb 32), .int 0, .int 0, .int 0, .int 0, .int 0, .int 0, .int 0, .ref (mb 33), .ref (mb 34), .ref (mb 35), .ref (mb 36), .int 0, .int 0, .int 0, .int 0, .ref (mb 37)]))] s.heap := hP
  have hl := lv_entry ([.ref mo, .int p0, .int p1]) (n := 4) (Nat.le_of_ble_eq_true rfl)
  rw [lg_entry_eq]
  generalize (lg_sl ([.ref mo, .int p0, .int p1]) ++ List.replicate (4 - (lg_sl ([.ref mo, .int p0, .int p1])).length) Slot.unset).toArray = ls at hl ⊢
  have hl : lv_has ls 4 [(0, .ref mo), (1, .int p0), (2, .int p1)] := hl
  refine lv_aload_n hx hb dMO_clear_0 rfl (lv_at hl 0 rfl) ?_
  refine lv_aload_n hx hb dMO_clear_1 rfl (lv_at hl 0 rfl) ?_
  refine lv_iload_n hx hb dMO_clear_2 rfl (lv_at hl 1 rfl) ?_
  have hPc : va_P (dC, dI) zCl [(mo, .inr (7, [.int 0, .int 0, .int 0, .int 0, .ref (mb 0), .ref (mb 1), .ref (mb 2), .ref (mb 3), .ref (mb 4), .ref (mb 5), .ref (mb 6), .ref (mb 7), .ref (mb 8), .ref (mb 9), .ref (mb 10), .ref (mb 11), .ref (mb 12), .ref (mb 13), .ref (mb 14), .ref (mb 15), .ref (mb 16), .ref (mb 17), .ref (mb 18), .ref (mb 19), .ref (mb 20), .ref (mb 21), .ref (mb 22), .ref (mb 23), .ref (mb 24), .ref (mb 25), .ref (mb 26), .ref (mb 27), .ref (mb 28), .ref (mb 29), .ref (mb 30), .ref (mb 31), .ref (mb 32), .int 0, .int 0, .int 0, .int 0, .int 0, .int 0, .int 0, .ref (mb 33), .ref (mb 34), .ref (mb 35), .ref (mb 36), .int 0, .int 0, .int 0, .int 0, .ref (mb 37)]))] s.heap := hP.sub [0] rfl
  have hDc : va_D A [(mo, .inr (7, [.int 0, .int 0, .int 0, .int 0, .ref (mb 0), .ref (mb 1), .ref (mb 2), .ref (mb 3), .ref (mb 4), .ref (mb 5), .ref (mb 6), .ref (mb 7), .ref (mb 8), .ref (mb 9), .ref (mb 10), .ref (mb 11), .ref (mb 12), .ref (mb 13), .ref (mb 14), .ref (mb 15), .ref (mb 16), .ref (mb 17), .ref (mb 18), .ref (mb 19), .ref (mb 20), .ref (mb 21), .ref (mb 22), .ref (mb 23), .ref (mb 24), .ref (mb 25), .ref (mb 26), .ref (mb 27), .ref (mb 28), .ref (mb 29), .ref (mb 30), .ref (mb 31), .ref (mb 32), .int 0, .int 0, .int 0, .int 0, .int 0, .int 0, .int 0, .ref (mb 33), .ref (mb 34), .ref (mb 35), .ref (mb 36), .int 0, .int 0, .int 0, .int 0, .ref (mb 37)]))] := hD.sub [0] (by decide) rfl
  refine zcallp (va_runV (As := [.int p0]) (rest := [.ref mo]) ⟨hx, hb, hml, hown, zno⟩ (zm_isBridge l dC dI cI cZ cJ a0 s0 mo mb s.heap.size p0) (zcw 1 (hB.word (zm5 k5_49) rfl) (hB.word (zm1 k1_9) rfl) (hB.word (zm5 k5_46) rfl) (hB.word (zm5 k5_48) rfl) (k2_selects_private (by decide) (hB.word (zm4 k4_109) rfl) (hB.word (zm5 k5_47) rfl) (hB.word (zm5 k5_48) rfl)) rfl rfl (by decide +kernel) ⟨Nat.le_of_ble_eq_true rfl, Nat.le_of_ble_eq_true rfl⟩) ⟨zP_blind, va_recv hK hP (ci := 7) (q0 := 0) rfl rfl, zP_pre hPc hK hDc hAD (zB_on hB hA0 hS)⟩ rfl rfl hl.1 rfl (lv_room (Nat.le_of_ble_eq_true rfl)) dMO_clear_3 ⟨Nat.le_of_ble_eq_true rfl, Nat.le_of_ble_eq_true rfl⟩) hS hA (fun r1 H1 locs hr1 hz1 hk1 hS => ?_)
  have hP := zKeep hP hk1
  generalize H1 = H at hP hS ⊢
  have hP : va_P (dC, dI) zCl [(mo, .inr (7, [.int 0, .int 0, .int 0, .int 0, .ref (mb 0), .ref (mb 1), .ref (mb 2), .ref (mb 3), .ref (mb 4), .ref (mb 5), .ref (mb 6), .ref (mb 7), .ref (mb 8), .ref (mb 9), .ref (mb 10), .ref (mb 11), .ref (mb 12), .ref (mb 13), .ref (mb 14), .ref (mb 15), .ref (mb 16), .ref (mb 17), .ref (mb 18), .ref (mb 19), .ref (mb 20), .ref (mb 21), .ref (mb 22), .ref (mb 23), .ref (mb 24), .ref (mb 25), .ref (mb 26), .ref (mb 27), .ref (mb 28), .ref (mb 29), .ref (mb 30), .ref (mb 31), .ref (mb 32), .int 0, .int 0, .int 0, .int 0, .int 0, .int 0, .int 0, .ref (mb 33), .ref (mb 34), .ref (mb 35), .ref (mb 36), .int 0, .int 0, .int 0, .int 0, .ref (mb 37)]))] H := hP
  subst hr1
  refine lv_if_eq (tgt := 20) hx hb dMO_clear_6 (by decide) (fun _ => ?_) (fun c9 => absurd (by decide) c9)
  refine lv_iconst (v := 0) hx hb dMO_clear_20 (by decide) ?_
  refine lv_aload_n hx hb dMO_clear_21 rfl (lv_at hl 0 rfl) ?_
  have hu7 : ∀ w ∈ u_ws "RingGuardModel" T_MO 53, w.before ([.ref mo, .int p0, .int p1] : List Value).toArray s = true := hB.words zU_MO
  refine va_get (D := (dC, dI)) (ci := 7) (v := .int 0) (C := "RingGuardModel") (T := T_MO) (N := 53) hx hb hu7 zid hown hK hP 0 rfl rfl 1 (by decide) (hB.word (zm4 k4_115) rfl) (fun _ h9 => h9) rfl dMO_clear_22 ?_
  have hPc : va_P (dC, dI) zCl [(mo, .inr (7, [.int 0, .int 0, .int 0, .int 0, .ref (mb 0), .ref (mb 1), .ref (mb 2), .ref (mb 3), .ref (mb 4), .ref (mb 5), .ref (mb 6), .ref (mb 7), .ref (mb 8), .ref (mb 9), .ref (mb 10), .ref (mb 11), .ref (mb 12), .ref (mb 13), .ref (mb 14), .ref (mb 15), .ref (mb 16), .ref (mb 17), .ref (mb 18), .ref (mb 19), .ref (mb 20), .ref (mb 21), .ref (mb 22), .ref (mb 23), .ref (mb 24), .ref (mb 25), .ref (mb 26), .ref (mb 27), .ref (mb 28), .ref (mb 29), .ref (mb 30), .ref (mb 31), .ref (mb 32), .int 0, .int 0, .int 0, .int 0, .int 0, .int 0, .int 0, .ref (mb 33), .ref (mb 34), .ref (mb 35), .ref (mb 36), .int 0, .int 0, .int 0, .int 0, .ref (mb 37)]))] H := hP.sub [0] rfl
  have hDc : va_D A [(mo, .inr (7, [.int 0, .int 0, .int 0, .int 0, .ref (mb 0), .ref (mb 1), .ref (mb 2), .ref (mb 3), .ref (mb 4), .ref (mb 5), .ref (mb 6), .ref (mb 7), .ref (mb 8), .ref (mb 9), .ref (mb 10), .ref (mb 11), .ref (mb 12), .ref (mb 13), .ref (mb 14), .ref (mb 15), .ref (mb 16), .ref (mb 17), .ref (mb 18), .ref (mb 19), .ref (mb 20), .ref (mb 21), .ref (mb 22), .ref (mb 23), .ref (mb 24), .ref (mb 25), .ref (mb 26), .ref (mb 27), .ref (mb 28), .ref (mb 29), .ref (mb 30), .ref (mb 31), .ref (mb 32), .int 0, .int 0, .int 0, .int 0, .int 0, .int 0, .int 0, .ref (mb 33), .ref (mb 34), .ref (mb 35), .ref (mb 36), .int 0, .int 0, .int 0, .int 0, .ref (mb 37)]))] := hD.sub [0] (by decide) rfl
  refine zcalli (wr := []) (va_runV (As := [.int 0, .int 0]) (rest := []) ⟨hx, hb, hml, hown, zno⟩ (zm_goes0 l dC dI cI cZ cJ a0 s0 mo mb H.size 0) (zcw 2 (hB.word (zm5 k5_56) rfl) (hB.word (zm1 k1_9) rfl) (hB.word (zm5 k5_53) rfl) (hB.word (zm5 k5_55) rfl) (k2_selects_private (by decide) (hB.word (zm4 k4_109) rfl) (hB.word (zm5 k5_54) rfl) (hB.word (zm5 k5_55) rfl)) rfl rfl (by decide +kernel) ⟨Nat.le_of_ble_eq_true rfl, Nat.le_of_ble_eq_true rfl⟩) ⟨zP_blind, va_recv hK hP (ci := 7) (q0 := 0) rfl rfl, zP_pre hPc hK hDc hAD (zB_on hB hA0 hS)⟩ rfl rfl hl.1 rfl (lv_room (Nat.le_of_ble_eq_true rfl)) dMO_clear_25 ⟨Nat.le_of_ble_eq_true rfl, Nat.le_of_ble_eq_true rfl⟩) hP hD hS hA [0] [] rfl rfl (by decide) (by decide) (fun r2 H1 locs hr2 hP hD hS => ?_)
  generalize H1 = H at hP hS ⊢
  have hP : va_P (dC, dI) zCl [(mo, .inr (7, [.int 1, .int 0, .int 0, .int 0, .ref (mb 0), .ref (mb 1), .ref (mb 2), .ref (mb 3), .ref (mb 4), .ref (mb 5), .ref (mb 6), .ref (mb 7), .ref (mb 8), .ref (mb 9), .ref (mb 10), .ref (mb 11), .ref (mb 12), .ref (mb 13), .ref (mb 14), .ref (mb 15), .ref (mb 16), .ref (mb 17), .ref (mb 18), .ref (mb 19), .ref (mb 20), .ref (mb 21), .ref (mb 22), .ref (mb 23), .ref (mb 24), .ref (mb 25), .ref (mb 26), .ref (mb 27), .ref (mb 28), .ref (mb 29), .ref (mb 30), .ref (mb 31), .ref (mb 32), .int 0, .int 0, .int 0, .int 0, .int 0, .int 0, .int 0, .ref (mb 33), .ref (mb 34), .ref (mb 35), .ref (mb 36), .int 0, .int 0, .int 0, .int 0, .ref (mb 37)]))] H := hP
  have hD : va_D A [(mo, .inr (7, [.int 1, .int 0, .int 0, .int 0, .ref (mb 0), .ref (mb 1), .ref (mb 2), .ref (mb 3), .ref (mb 4), .ref (mb 5), .ref (mb 6), .ref (mb 7), .ref (mb 8), .ref (mb 9), .ref (mb 10), .ref (mb 11), .ref (mb 12), .ref (mb 13), .ref (mb 14), .ref (mb 15), .ref (mb 16), .ref (mb 17), .ref (mb 18), .ref (mb 19), .ref (mb 20), .ref (mb 21), .ref (mb 22), .ref (mb 23), .ref (mb 24), .ref (mb 25), .ref (mb 26), .ref (mb 27), .ref (mb 28), .ref (mb 29), .ref (mb 30), .ref (mb 31), .ref (mb 32), .int 0, .int 0, .int 0, .int 0, .int 0, .int 0, .int 0, .ref (mb 33), .ref (mb 34), .ref (mb 35), .ref (mb 36), .int 0, .int 0, .int 0, .int 0, .ref (mb 37)]))] := hD
  subst hr2
  refine lv_if_ne (tgt := 33) hx hb dMO_clear_28 (by decide) (fun c9 => absurd (by decide) c9) (fun _ => ?_)
  refine lv_iconst (v := 0) hx hb dMO_clear_31 (by decide) ?_
  refine W.widen (k := 0) (n := 0) (Nat.le_of_ble_eq_true rfl) (Nat.le_of_ble_eq_true rfl) ?_
  have hP9 : va_P (dC, dI) zCl [(mo, .inr (7, [.int 1, .int 0, .int 0, .int 0, .ref (mb 0), .ref (mb 1), .ref (mb 2), .ref (mb 3), .ref (mb 4), .ref (mb 5), .ref (mb 6), .ref (mb 7), .ref (mb 8), .ref (mb 9), .ref (mb 10), .ref (mb 11), .ref (mb 12), .ref (mb 13), .ref (mb 14), .ref (mb 15), .ref (mb 16), .ref (mb 17), .ref (mb 18), .ref (mb 19), .ref (mb 20), .ref (mb 21), .ref (mb 22), .ref (mb 23), .ref (mb 24), .ref (mb 25), .ref (mb 26), .ref (mb 27), .ref (mb 28), .ref (mb 29), .ref (mb 30), .ref (mb 31), .ref (mb 32), .int 0, .int 0, .int 0, .int 0, .int 0, .int 0, .int 0, .ref (mb 33), .ref (mb 34), .ref (mb 35), .ref (mb 36), .int 0, .int 0, .int 0, .int 0, .ref (mb 37)]))] H := hP.sub [0] rfl
  have hD9 : va_D A [(mo, .inr (7, [.int 1, .int 0, .int 0, .int 0, .ref (mb 0), .ref (mb 1), .ref (mb 2), .ref (mb 3), .ref (mb 4), .ref (mb 5), .ref (mb 6), .ref (mb 7), .ref (mb 8), .ref (mb 9), .ref (mb 10), .ref (mb 11), .ref (mb 12), .ref (mb 13), .ref (mb 14), .ref (mb 15), .ref (mb 16), .ref (mb 17), .ref (mb 18), .ref (mb 19), .ref (mb 20), .ref (mb 21), .ref (mb 22), .ref (mb 23), .ref (mb 24), .ref (mb 25), .ref (mb 26), .ref (mb 27), .ref (mb 28), .ref (mb 29), .ref (mb 30), .ref (mb 31), .ref (mb 32), .int 0, .int 0, .int 0, .int 0, .int 0, .int 0, .int 0, .ref (mb 33), .ref (mb 34), .ref (mb 35), .ref (mb 36), .int 0, .int 0, .int 0, .int 0, .ref (mb 37)]))] := hD.sub [0] (by decide) rfl
  exact W.zret (v := 0) (ty := .boolean) hx hb hr rfl (fun t ht hW => ⟨⟨0, (), rfl, rfl, by rw [ht]; exact hP9, hD9⟩, hS.F ht⟩) hS.2.2 dMO_clear_32
set_option maxHeartbeats 4000000 in
set_option maxRecDepth 100000 in
theorem zm_host (l : Launch) (dC : Nat → ClassId) (dI : Nat → Nat → Nat) (cI cZ cJ : ClassId) (a0 : Array Value) (s0 : State) (mo : Nat) (mb : Nat → Nat) (sz : Nat) (p0 p1 : Int32) : Met l yMO_host [Cond.code yMO_host bMO_host 6 (some .int)] ({ frames := 1, cells := 0, slots := 0, locals := 22 } : Room) (zP zCl dC dI (zTY cI cZ cJ) a0 s0 [.ref mo, .int p0, .int p1] sz [(mo, .inr (7, [.int 0, .int 0, .int 0, .int 0, .ref (mb 0), .ref (mb 1), .ref (mb 2), .ref (mb 3), .ref (mb 4), .ref (mb 5), .ref (mb 6), .ref (mb 7), .ref (mb 8), .ref (mb 9), .ref (mb 10), .ref (mb 11), .ref (mb 12), .ref (mb 13), .ref (mb 14), .ref (mb 15), .ref (mb 16), .ref (mb 17), .ref (mb 18), .ref (mb 19), .ref (mb 20), .ref (mb 21), .ref (mb 22), .ref (mb 23), .ref (mb 24), .ref (mb 25), .ref (mb 26), .ref (mb 27), .ref (mb 28), .ref (mb 29), .ref (mb 30), .ref (mb 31), .ref (mb 32), .int 0, .int 0, .int 0, .int 0, .int 0, .int 0, .int 0, .ref (mb 33), .ref (mb 34), .ref (mb 35), .ref (mb 36), .int 0, .int 0, .int 0, .int 0, .ref (mb 37)]))]) (zQi zCl dC dI (fun r => r = 0) [(mo, .inr (7, [.int 1, .int 0, .int 0, .int 0, .ref (mb 0), .ref (mb 1), .ref (mb 2), .ref (mb 3), .ref (mb 4), .ref (mb 5), .ref (mb 6), .ref (mb 7), .ref (mb 8), .ref (mb 9), .ref (mb 10), .ref (mb 11), .ref (mb 12), .ref (mb 13), .ref (mb 14), .ref (mb 15), .ref (mb 16), .ref (mb 17), .ref (mb 18), .ref (mb 19), .ref (mb 20), .ref (mb 21), .ref (mb 22), .ref (mb 23), .ref (mb 24), .ref (mb 25), .ref (mb 26), .ref (mb 27), .ref (mb 28), .ref (mb 29), .ref (mb 30), .ref (mb 31), .ref (mb 32), .int 0, .int 0, .int 0, .int 0, .int 0, .int 0, .int 0, .ref (mb 33), .ref (mb 34), .ref (mb 35), .ref (mb 36), .int 0, .int 0, .int 0, .int 0, .ref (mb 37)]))] (va_A [(mo, .inr (7, [.int 0, .int 0, .int 0, .int 0, .ref (mb 0), .ref (mb 1), .ref (mb 2), .ref (mb 3), .ref (mb 4), .ref (mb 5), .ref (mb 6), .ref (mb 7), .ref (mb 8), .ref (mb 9), .ref (mb 10), .ref (mb 11), .ref (mb 12), .ref (mb 13), .ref (mb 14), .ref (mb 15), .ref (mb 16), .ref (mb 17), .ref (mb 18), .ref (mb 19), .ref (mb 20), .ref (mb 21), .ref (mb 22), .ref (mb 23), .ref (mb 24), .ref (mb 25), .ref (mb 26), .ref (mb 27), .ref (mb 28), .ref (mb 29), .ref (mb 30), .ref (mb 31), .ref (mb 32), .int 0, .int 0, .int 0, .int 0, .int 0, .int 0, .int 0, .ref (mb 33), .ref (mb 34), .ref (mb 35), .ref (mb 36), .int 0, .int 0, .int 0, .int 0, .ref (mb 37)]))] sz)) 0 0 (va_A [(mo, .inr (7, [.int 0, .int 0, .int 0, .int 0, .ref (mb 0), .ref (mb 1), .ref (mb 2), .ref (mb 3), .ref (mb 4), .ref (mb 5), .ref (mb 6), .ref (mb 7), .ref (mb 8), .ref (mb 9), .ref (mb 10), .ref (mb 11), .ref (mb 12), .ref (mb 13), .ref (mb 14), .ref (mb 15), .ref (mb 16), .ref (mb 17), .ref (mb 18), .ref (mb 19), .ref (mb 20), .ref (mb 21), .ref (mb 22), .ref (mb 23), .ref (mb 24), .ref (mb 25), .ref (mb 26), .ref (mb 27), .ref (mb 28), .ref (mb 29), .ref (mb 30), .ref (mb 31), .ref (mb 32), .int 0, .int 0, .int 0, .int 0, .int 0, .int 0, .int 0, .ref (mb 33), .ref (mb 34), .ref (mb 35), .ref (mb 36), .int 0, .int 0, .int 0, .int 0, .ref (mb 37)]))] sz) := by
  refine Met.ofW (cc := bMO_host) (maxL := 6) (ret := (some .int)) (by decide) rfl ?_
  intro p e s m args below meth c s₁ B hml hv
  obtain ⟨rfl, hsz, hP, hK, hD0, hB⟩ := hv
  have hx := B.exec
  have hb := B.bytes
  have hr := B.returns
  have hown : s.vm.findClass "RingGuardModel" = some m.cls := findClass_of_methodNamed B.named
  have hlocks := B.notSynchronized
  subst hsz
  have hD := hD0.self (sz := s.heap.size)
  have hA0 := zA0 hD0 hB
  generalize hAe : va_A [(mo, .inr (7, [.int 0, .int 0, .int 0, .int 0, .ref (mb 0), .ref (mb 1), .ref (mb 2), .ref (mb 3), .ref (mb 4), .ref (mb 5), .ref (mb 6), .ref (mb 7), .ref (mb 8), .ref (mb 9), .ref (mb 10), .ref (mb 11), .ref (mb 12), .ref (mb 13), .ref (mb 14), .ref (mb 15), .ref (mb 16), .ref (mb 17), .ref (mb 18), .ref (mb 19), .ref (mb 20), .ref (mb 21), .ref (mb 22), .ref (mb 23), .ref (mb 24), .ref (mb 25), .ref (mb 26), .ref (mb 27), .ref (mb 28), .ref (mb 29), .ref (mb 30), .ref (mb 31), .ref (mb 32), .int 0, .int 0, .int 0, .int 0, .int 0, .int 0, .int 0, .ref (mb 33), .ref (mb 34), .ref (mb 35), .ref (mb 36), .int 0, .int 0, .int 0, .int 0, .ref (mb 37)]))] s.heap.size = A at hD hA0 ⊢
  have hAD := hA0
  have hA : ∀ q : Nat, s.heap.size ≤ q → A q := fun q h => by rw [← hAe]; exact Or.inr h
  have hS : va_S A s.heap s.heap [] := va_S.rf
  have hP : va_P (dC, dI) zCl [(mo, .inr (7, [.int 0, .int 0, .int 0, .int 0, .ref (mb 0), .ref (mb 1), .ref (mb 2), .ref (mb 3), .ref (mb 4), .ref (mb 5), .ref (mb 6), .ref (mb 7), .ref (mb 8), .ref (mb 9), .ref (mb 10), .ref (mb 11), .ref (mb 12), .ref (mb 13), .ref (mb 14), .ref (mb 15), .ref (mb 16), .ref (mb 17), .ref (mb 18), .ref (mb 19), .ref (mb 20), .ref (mb 21), .ref (mb 22), .ref (mb 23), .ref (mb 24), .ref (mb 25), .ref (mb 26), .ref (mb 27), .ref (mb 28), .ref (mb 29), .ref (mb 30), .ref (mb 31), .ref (mb 32), .int 0, .int 0, .int 0, .int 0, .int 0, .int 0, .int 0, .ref (mb 33), .ref (mb 34), .ref (mb 35), .ref (mb 36), .int 0, .int 0, .int 0, .int 0, .ref (mb 37)]))] s.heap := hP
  have hl := lv_entry ([.ref mo, .int p0, .int p1]) (n := 6) (Nat.le_of_ble_eq_true rfl)
  rw [lg_entry_eq]
  generalize (lg_sl ([.ref mo, .int p0, .int p1]) ++ List.replicate (6 - (lg_sl ([.ref mo, .int p0, .int p1])).length) Slot.unset).toArray = ls at hl ⊢
  have hl : lv_has ls 6 [(0, .ref mo), (1, .int p0), (2, .int p1)] := hl
  refine lv_aload_n hx hb dMO_host_0 rfl (lv_at hl 0 rfl) ?_
  refine lv_iload_n hx hb dMO_host_1 rfl (lv_at hl 1 rfl) ?_
  refine lv_if_lt (tgt := 23) hx hb dMO_host_2 (by decide) (fun c_2 => ?_) (fun c_2 => ?_)
  · refine lv_iconst (v := 0) hx hb dMO_host_23 (by decide) ?_
    refine lv_aload_n hx hb dMO_host_24 rfl (lv_at hl 0 rfl) ?_
    have hu7 : ∀ w ∈ u_ws "RingGuardModel" T_MO 53, w.before ([.ref mo, .int p0, .int p1] : List Value).toArray s = true := hB.words zU_MO
    refine va_get (D := (dC, dI)) (ci := 7) (v := .int 0) (C := "RingGuardModel") (T := T_MO) (N := 53) hx hb hu7 zid hown hK hP 0 rfl rfl 1 (by decide) (hB.word (zm4 k4_115) rfl) (fun _ h9 => h9) rfl dMO_host_25 ?_
    have hPc : va_P (dC, dI) zCl [(mo, .inr (7, [.int 0, .int 0, .int 0, .int 0, .ref (mb 0), .ref (mb 1), .ref (mb 2), .ref (mb 3), .ref (mb 4), .ref (mb 5), .ref (mb 6), .ref (mb 7), .ref (mb 8), .ref (mb 9), .ref (mb 10), .ref (mb 11), .ref (mb 12), .ref (mb 13), .ref (mb 14), .ref (mb 15), .ref (mb 16), .ref (mb 17), .ref (mb 18), .ref (mb 19), .ref (mb 20), .ref (mb 21), .ref (mb 22), .ref (mb 23), .ref (mb 24), .ref (mb 25), .ref (mb 26), .ref (mb 27), .ref (mb 28), .ref (mb 29), .ref (mb 30), .ref (mb 31), .ref (mb 32), .int 0, .int 0, .int 0, .int 0, .int 0, .int 0, .int 0, .ref (mb 33), .ref (mb 34), .ref (mb 35), .ref (mb 36), .int 0, .int 0, .int 0, .int 0, .ref (mb 37)]))] s.heap := hP.sub [0] rfl
    have hDc : va_D A [(mo, .inr (7, [.int 0, .int 0, .int 0, .int 0, .ref (mb 0), .ref (mb 1), .ref (mb 2), .ref (mb 3), .ref (mb 4), .ref (mb 5), .ref (mb 6), .ref (mb 7), .ref (mb 8), .ref (mb 9), .ref (mb 10), .ref (mb 11), .ref (mb 12), .ref (mb 13), .ref (mb 14), .ref (mb 15), .ref (mb 16), .ref (mb 17), .ref (mb 18), .ref (mb 19), .ref (mb 20), .ref (mb 21), .ref (mb 22), .ref (mb 23), .ref (mb 24), .ref (mb 25), .ref (mb 26), .ref (mb 27), .ref (mb 28), .ref (mb 29), .ref (mb 30), .ref (mb 31), .ref (mb 32), .int 0, .int 0, .int 0, .int 0, .int 0, .int 0, .int 0, .ref (mb 33), .ref (mb 34), .ref (mb 35), .ref (mb 36), .int 0, .int 0, .int 0, .int 0, .ref (mb 37)]))] := hD.sub [0] (by decide) rfl
    refine zcalli (wr := []) (va_runV (As := [.int 0, .int 0]) (rest := []) ⟨hx, hb, hml, hown, zno⟩ (zm_goes0 l dC dI cI cZ cJ a0 s0 mo mb s.heap.size 0) (zcw 2 (hB.word (zm5 k5_56) rfl) (hB.word (zm1 k1_9) rfl) (hB.word (zm5 k5_53) rfl) (hB.word (zm5 k5_55) rfl) (k2_selects_private (by decide) (hB.word (zm4 k4_109) rfl) (hB.word (zm5 k5_54) rfl) (hB.word (zm5 k5_55) rfl)) rfl rfl (by decide +kernel) ⟨Nat.le_of_ble_eq_true rfl, Nat.le_of_ble_eq_true rfl⟩) ⟨zP_blind, va_recv hK hP (ci := 7) (q0 := 0) rfl rfl, zP_pre hPc hK hDc hAD (zB_on hB hA0 hS)⟩ rfl rfl hl.1 rfl (lv_room (Nat.le_of_ble_eq_true rfl)) dMO_host_28 ⟨Nat.le_of_ble_eq_true rfl, Nat.le_of_ble_eq_true rfl⟩) hP hD hS hA [0] [] rfl rfl (by decide) (by decide) (fun r1 H1 locs hr1 hP hD hS => ?_)
    generalize H1 = H at hP hS ⊢
    have hP : va_P (dC, dI) zCl [(mo, .inr (7, [.int 1, .int 0, .int 0, .int 0, .ref (mb 0), .ref (mb 1), .ref (mb 2), .ref (mb 3), .ref (mb 4), .ref (mb 5), .ref (mb 6), .ref (mb 7), .ref (mb 8), .ref (mb 9), .ref (mb 10), .ref (mb 11), .ref (mb 12), .ref (mb 13), .ref (mb 14), .ref (mb 15), .ref (mb 16), .ref (mb 17), .ref (mb 18), .ref (mb 19), .ref (mb 20), .ref (mb 21), .ref (mb 22), .ref (mb 23), .ref (mb 24), .ref (mb 25), .ref (mb 26), .ref (mb 27), .ref (mb 28), .ref (mb 29), .ref (mb 30), .ref (mb 31), .ref (mb 32), .int 0, .int 0, .int 0, .int 0, .int 0, .int 0, .int 0, .ref (mb 33), .ref (mb 34), .ref (mb 35), .ref (mb 36), .int 0, .int 0, .int 0, .int 0, .ref (mb 37)]))] H := hP
    have hD : va_D A [(mo, .inr (7, [.int 1, .int 0, .int 0, .int 0, .ref (mb 0), .ref (mb 1), .ref (mb 2), .ref (mb 3), .ref (mb 4), .ref (mb 5), .ref (mb 6), .ref (mb 7), .ref (mb 8), .ref (mb 9), .ref (mb 10), .ref (mb 11), .ref (mb 12), .ref (mb 13), .ref (mb 14), .ref (mb 15), .ref (mb 16), .ref (mb 17), .ref (mb 18), .ref (mb 19), .ref (mb 20), .ref (mb 21), .ref (mb 22), .ref (mb 23), .ref (mb 24), .ref (mb 25), .ref (mb 26), .ref (mb 27), .ref (mb 28), .ref (mb 29), .ref (mb 30), .ref (mb 31), .ref (mb 32), .int 0, .int 0, .int 0, .int 0, .int 0, .int 0, .int 0, .ref (mb 33), .ref (mb 34), .ref (mb 35), .ref (mb 36), .int 0, .int 0, .int 0, .int 0, .ref (mb 37)]))] := hD
    subst hr1
    refine lv_if_ne (tgt := 36) hx hb dMO_host_31 (by decide) (fun c9 => absurd (by decide) c9) (fun _ => ?_)
    refine lv_iconst (v := 0) hx hb dMO_host_34 (by decide) ?_
    refine W.widen (k := 0) (n := 0) (Nat.le_of_ble_eq_true rfl) (Nat.le_of_ble_eq_true rfl) ?_
    have hP9 : va_P (dC, dI) zCl [(mo, .inr (7, [.int 1, .int 0, .int 0, .int 0, .ref (mb 0), .ref (mb 1), .ref (mb 2), .ref (mb 3), .ref (mb 4), .ref (mb 5), .ref (mb 6), .ref (mb 7), .ref (mb 8), .ref (mb 9), .ref (mb 10), .ref (mb 11), .ref (mb 12), .ref (mb 13), .ref (mb 14), .ref (mb 15), .ref (mb 16), .ref (mb 17), .ref (mb 18), .ref (mb 19), .ref (mb 20), .ref (mb 21), .ref (mb 22), .ref (mb 23), .ref (mb 24), .ref (mb 25), .ref (mb 26), .ref (mb 27), .ref (mb 28), .ref (mb 29), .ref (mb 30), .ref (mb 31), .ref (mb 32), .int 0, .int 0, .int 0, .int 0, .int 0, .int 0, .int 0, .ref (mb 33), .ref (mb 34), .ref (mb 35), .ref (mb 36), .int 0, .int 0, .int 0, .int 0, .ref (mb 37)]))] H := hP.sub [0] rfl
    have hD9 : va_D A [(mo, .inr (7, [.int 1, .int 0, .int 0, .int 0, .ref (mb 0), .ref (mb 1), .ref (mb 2), .ref (mb 3), .ref (mb 4), .ref (mb 5), .ref (mb 6), .ref (mb 7), .ref (mb 8), .ref (mb 9), .ref (mb 10), .ref (mb 11), .ref (mb 12), .ref (mb 13), .ref (mb 14), .ref (mb 15), .ref (mb 16), .ref (mb 17), .ref (mb 18), .ref (mb 19), .ref (mb 20), .ref (mb 21), .ref (mb 22), .ref (mb 23), .ref (mb 24), .ref (mb 25), .ref (mb 26), .ref (mb 27), .ref (mb 28), .ref (mb 29), .ref (mb 30), .ref (mb 31), .ref (mb 32), .int 0, .int 0, .int 0, .int 0, .int 0, .int 0, .int 0, .ref (mb 33), .ref (mb 34), .ref (mb 35), .ref (mb 36), .int 0, .int 0, .int 0, .int 0, .ref (mb 37)]))] := hD.sub [0] (by decide) rfl
    exact W.iret (v := 0) hx hb hr (fun t ht hW => ⟨⟨0, (), rfl, rfl, by rw [ht]; exact hP9, hD9⟩, hS.F ht⟩) hS.2.2 dMO_host_35
  · refine lv_iload_n hx hb dMO_host_5 rfl (lv_at hl 1 rfl) ?_
    refine lv_bipush (v := 64) hx hb dMO_host_6 (by decide) ?_
    refine lv_icmp_ge (tgt := 23) hx hb dMO_host_8 (by decide) (fun c_8 => ?_) (fun c_8 => ?_)
    · refine lv_iconst (v := 0) hx hb dMO_host_23 (by decide) ?_
      refine lv_aload_n hx hb dMO_host_24 rfl (lv_at hl 0 rfl) ?_
      have hu7 : ∀ w ∈ u_ws "RingGuardModel" T_MO 53, w.before ([.ref mo, .int p0, .int p1] : List Value).toArray s = true := hB.words zU_MO
      refine va_get (D := (dC, dI)) (ci := 7) (v := .int 0) (C := "RingGuardModel") (T := T_MO) (N := 53) hx hb hu7 zid hown hK hP 0 rfl rfl 1 (by decide) (hB.word (zm4 k4_115) rfl) (fun _ h9 => h9) rfl dMO_host_25 ?_
      have hPc : va_P (dC, dI) zCl [(mo, .inr (7, [.int 0, .int 0, .int 0, .int 0, .ref (mb 0), .ref (mb 1), .ref (mb 2), .ref (mb 3), .ref (mb 4), .ref (mb 5), .ref (mb 6), .ref (mb 7), .ref (mb 8), .ref (mb 9), .ref (mb 10), .ref (mb 11), .ref (mb 12), .ref (mb 13), .ref (mb 14), .ref (mb 15), .ref (mb 16), .ref (mb 17), .ref (mb 18), .ref (mb 19), .ref (mb 20), .ref (mb 21), .ref (mb 22), .ref (mb 23), .ref (mb 24), .ref (mb 25), .ref (mb 26), .ref (mb 27), .ref (mb 28), .ref (mb 29), .ref (mb 30), .ref (mb 31), .ref (mb 32), .int 0, .int 0, .int 0, .int 0, .int 0, .int 0, .int 0, .ref (mb 33), .ref (mb 34), .ref (mb 35), .ref (mb 36), .int 0, .int 0, .int 0, .int 0, .ref (mb 37)]))] s.heap := hP.sub [0] rfl
      have hDc : va_D A [(mo, .inr (7, [.int 0, .int 0, .int 0, .int 0, .ref (mb 0), .ref (mb 1), .ref (mb 2), .ref (mb 3), .ref (mb 4), .ref (mb 5), .ref (mb 6), .ref (mb 7), .ref (mb 8), .ref (mb 9), .ref (mb 10), .ref (mb 11), .ref (mb 12), .ref (mb 13), .ref (mb 14), .ref (mb 15), .ref (mb 16), .ref (mb 17), .ref (mb 18), .ref (mb 19), .ref (mb 20), .ref (mb 21), .ref (mb 22), .ref (mb 23), .ref (mb 24), .ref (mb 25), .ref (mb 26), .ref (mb 27), .ref (mb 28), .ref (mb 29), .ref (mb 30), .ref (mb 31), .ref (mb 32), .int 0, .int 0, .int 0, .int 0, .int 0, .int 0, .int 0, .ref (mb 33), .ref (mb 34), .ref (mb 35), .ref (mb 36), .int 0, .int 0, .int 0, .int 0, .ref (mb 37)]))] := hD.sub [0] (by decide) rfl
      refine zcalli (wr := []) (va_runV (As := [.int 0, .int 0]) (rest := []) ⟨hx, hb, hml, hown, zno⟩ (zm_goes0 l dC dI cI cZ cJ a0 s0 mo mb s.heap.size 0) (zcw 2 (hB.word (zm5 k5_56) rfl) (hB.word (zm1 k1_9) rfl) (hB.word (zm5 k5_53) rfl) (hB.word (zm5 k5_55) rfl) (k2_selects_private (by decide) (hB.word (zm4 k4_109) rfl) (hB.word (zm5 k5_54) rfl) (hB.word (zm5 k5_55) rfl)) rfl rfl (by decide +kernel) ⟨Nat.le_of_ble_eq_true rfl, Nat.le_of_ble_eq_true rfl⟩) ⟨zP_blind, va_recv hK hP (ci := 7) (q0 := 0) rfl rfl, zP_pre hPc hK hDc hAD (zB_on hB hA0 hS)⟩ rfl rfl hl.1 rfl (lv_room (Nat.le_of_ble_eq_true rfl)) dMO_host_28 ⟨Nat.le_of_ble_eq_true rfl, Nat.le_of_ble_eq_true rfl⟩) hP hD hS hA [0] [] rfl rfl (by decide) (by decide) (fun r2 H1 locs hr2 hP hD hS => ?_)
      generalize H1 = H at hP hS ⊢
      have hP : va_P (dC, dI) zCl [(mo, .inr (7, [.int 1, .int 0, .int 0, .int 0, .ref (mb 0), .ref (mb 1), .ref (mb 2), .ref (mb 3), .ref (mb 4), .ref (mb 5), .ref (mb 6), .ref (mb 7), .ref (mb 8), .ref (mb 9), .ref (mb 10), .ref (mb 11), .ref (mb 12), .ref (mb 13), .ref (mb 14), .ref (mb 15), .ref (mb 16), .ref (mb 17), .ref (mb 18), .ref (mb 19), .ref (mb 20), .ref (mb 21), .ref (mb 22), .ref (mb 23), .ref (mb 24), .ref (mb 25), .ref (mb 26), .ref (mb 27), .ref (mb 28), .ref (mb 29), .ref (mb 30), .ref (mb 31), .ref (mb 32), .int 0, .int 0, .int 0, .int 0, .int 0, .int 0, .int 0, .ref (mb 33), .ref (mb 34), .ref (mb 35), .ref (mb 36), .int 0, .int 0, .int 0, .int 0, .ref (mb 37)]))] H := hP
      have hD : va_D A [(mo, .inr (7, [.int 1, .int 0, .int 0, .int 0, .ref (mb 0), .ref (mb 1), .ref (mb 2), .ref (mb 3), .ref (mb 4), .ref (mb 5), .ref (mb 6), .ref (mb 7), .ref (mb 8), .ref (mb 9), .ref (mb 10), .ref (mb 11), .ref (mb 12), .ref (mb 13), .ref (mb 14), .ref (mb 15), .ref (mb 16), .ref (mb 17), .ref (mb 18), .ref (mb 19), .ref (mb 20), .ref (mb 21), .ref (mb 22), .ref (mb 23), .ref (mb 24), .ref (mb 25), .ref (mb 26), .ref (mb 27), .ref (mb 28), .ref (mb 29), .ref (mb 30), .ref (mb 31), .ref (mb 32), .int 0, .int 0, .int 0, .int 0, .int 0, .int 0, .int 0, .ref (mb 33), .ref (mb 34), .ref (mb 35), .ref (mb 36), .int 0, .int 0, .int 0, .int 0, .ref (mb 37)]))] := hD
      subst hr2
      refine lv_if_ne (tgt := 36) hx hb dMO_host_31 (by decide) (fun c9 => absurd (by decide) c9) (fun _ => ?_)
      refine lv_iconst (v := 0) hx hb dMO_host_34 (by decide) ?_
      refine W.widen (k := 0) (n := 0) (Nat.le_of_ble_eq_true rfl) (Nat.le_of_ble_eq_true rfl) ?_
      have hP9 : va_P (dC, dI) zCl [(mo, .inr (7, [.int 1, .int 0, .int 0, .int 0, .ref (mb 0), .ref (mb 1), .ref (mb 2), .ref (mb 3), .ref (mb 4), .ref (mb 5), .ref (mb 6), .ref (mb 7), .ref (mb 8), .ref (mb 9), .ref (mb 10), .ref (mb 11), .ref (mb 12), .ref (mb 13), .ref (mb 14), .ref (mb 15), .ref (mb 16), .ref (mb 17), .ref (mb 18), .ref (mb 19), .ref (mb 20), .ref (mb 21), .ref (mb 22), .ref (mb 23), .ref (mb 24), .ref (mb 25), .ref (mb 26), .ref (mb 27), .ref (mb 28), .ref (mb 29), .ref (mb 30), .ref (mb 31), .ref (mb 32), .int 0, .int 0, .int 0, .int 0, .int 0, .int 0, .int 0, .ref (mb 33), .ref (mb 34), .ref (mb 35), .ref (mb 36), .int 0, .int 0, .int 0, .int 0, .ref (mb 37)]))] H := hP.sub [0] rfl
      have hD9 : va_D A [(mo, .inr (7, [.int 1, .int 0, .int 0, .int 0, .ref (mb 0), .ref (mb 1), .ref (mb 2), .ref (mb 3), .ref (mb 4), .ref (mb 5), .ref (mb 6), .ref (mb 7), .ref (mb 8), .ref (mb 9), .ref (mb 10), .ref (mb 11), .ref (mb 12), .ref (mb 13), .ref (mb 14), .ref (mb 15), .ref (mb 16), .ref (mb 17), .ref (mb 18), .ref (mb 19), .ref (mb 20), .ref (mb 21), .ref (mb 22), .ref (mb 23), .ref (mb 24), .ref (mb 25), .ref (mb 26), .ref (mb 27), .ref (mb 28), .ref (mb 29), .ref (mb 30), .ref (mb 31), .ref (mb 32), .int 0, .int 0, .int 0, .int 0, .int 0, .int 0, .int 0, .ref (mb 33), .ref (mb 34), .ref (mb 35), .ref (mb 36), .int 0, .int 0, .int 0, .int 0, .ref (mb 37)]))] := hD.sub [0] (by decide) rfl
      exact W.iret (v := 0) hx hb hr (fun t ht hW => ⟨⟨0, (), rfl, rfl, by rw [ht]; exact hP9, hD9⟩, hS.F ht⟩) hS.2.2 dMO_host_35
    · refine lv_aload_n hx hb dMO_host_11 rfl (lv_at hl 0 rfl) ?_
      refine lv_iload_n hx hb dMO_host_12 rfl (lv_at hl 2 rfl) ?_
      have hPc : va_P (dC, dI) zCl [(mo, .inr (7, [.int 0, .int 0, .int 0, .int 0, .ref (mb 0), .ref (mb 1), .ref (mb 2), .ref (mb 3), .ref (mb 4), .ref (mb 5), .ref (mb 6), .ref (mb 7), .ref (mb 8), .ref (mb 9), .ref (mb 10), .ref (mb 11), .ref (mb 12), .ref (mb 13), .ref (mb 14), .ref (mb 15), .ref (mb 16), .ref (mb 17), .ref (mb 18), .ref (mb 19), .ref (mb 20), .ref (mb 21), .ref (mb 22), .ref (mb 23), .ref (mb 24), .ref (mb 25), .ref (mb 26), .ref (mb 27), .ref (mb 28), .ref (mb 29), .ref (mb 30), .ref (mb 31), .ref (mb 32), .int 0, .int 0, .int 0, .int 0, .int 0, .int 0, .int 0, .ref (mb 33), .ref (mb 34), .ref (mb 35), .ref (mb 36), .int 0, .int 0, .int 0, .int 0, .ref (mb 37)]))] s.heap := hP.sub [0] rfl
      have hDc : va_D A [(mo, .inr (7, [.int 0, .int 0, .int 0, .int 0, .ref (mb 0), .ref (mb 1), .ref (mb 2), .ref (mb 3), .ref (mb 4), .ref (mb 5), .ref (mb 6), .ref (mb 7), .ref (mb 8), .ref (mb 9), .ref (mb 10), .ref (mb 11), .ref (mb 12), .ref (mb 13), .ref (mb 14), .ref (mb 15), .ref (mb 16), .ref (mb 17), .ref (mb 18), .ref (mb 19), .ref (mb 20), .ref (mb 21), .ref (mb 22), .ref (mb 23), .ref (mb 24), .ref (mb 25), .ref (mb 26), .ref (mb 27), .ref (mb 28), .ref (mb 29), .ref (mb 30), .ref (mb 31), .ref (mb 32), .int 0, .int 0, .int 0, .int 0, .int 0, .int 0, .int 0, .ref (mb 33), .ref (mb 34), .ref (mb 35), .ref (mb 36), .int 0, .int 0, .int 0, .int 0, .ref (mb 37)]))] := hD.sub [0] (by decide) rfl
      refine zcallp (va_runV (As := [.int p1]) (rest := [.ref mo]) ⟨hx, hb, hml, hown, zno⟩ (zm_isBridge l dC dI cI cZ cJ a0 s0 mo mb s.heap.size p1) (zcw 1 (hB.word (zm5 k5_49) rfl) (hB.word (zm1 k1_9) rfl) (hB.word (zm5 k5_46) rfl) (hB.word (zm5 k5_48) rfl) (k2_selects_private (by decide) (hB.word (zm4 k4_109) rfl) (hB.word (zm5 k5_47) rfl) (hB.word (zm5 k5_48) rfl)) rfl rfl (by decide +kernel) ⟨Nat.le_of_ble_eq_true rfl, Nat.le_of_ble_eq_true rfl⟩) ⟨zP_blind, va_recv hK hP (ci := 7) (q0 := 0) rfl rfl, zP_pre hPc hK hDc hAD (zB_on hB hA0 hS)⟩ rfl rfl hl.1 rfl (lv_room (Nat.le_of_ble_eq_true rfl)) dMO_host_13 ⟨Nat.le_of_ble_eq_true rfl, Nat.le_of_ble_eq_true rfl⟩) hS hA (fun r3 H1 locs hr3 hz1 hk1 hS => ?_)
      have hP := zKeep hP hk1
      generalize H1 = H at hP hS ⊢
      have hP : va_P (dC, dI) zCl [(mo, .inr (7, [.int 0, .int 0, .int 0, .int 0, .ref (mb 0), .ref (mb 1), .ref (mb 2), .ref (mb 3), .ref (mb 4), .ref (mb 5), .ref (mb 6), .ref (mb 7), .ref (mb 8), .ref (mb 9), .ref (mb 10), .ref (mb 11), .ref (mb 12), .ref (mb 13), .ref (mb 14), .ref (mb 15), .ref (mb 16), .ref (mb 17), .ref (mb 18), .ref (mb 19), .ref (mb 20), .ref (mb 21), .ref (mb 22), .ref (mb 23), .ref (mb 24), .ref (mb 25), .ref (mb 26), .ref (mb 27), .ref (mb 28), .ref (mb 29), .ref (mb 30), .ref (mb 31), .ref (mb 32), .int 0, .int 0, .int 0, .int 0, .int 0, .int 0, .int 0, .ref (mb 33), .ref (mb 34), .ref (mb 35), .ref (mb 36), .int 0, .int 0, .int 0, .int 0, .ref (mb 37)]))] H := hP
      subst hr3
      refine lv_if_eq (tgt := 23) hx hb dMO_host_16 (by decide) (fun _ => ?_) (fun c9 => absurd (by decide) c9)
      refine lv_iconst (v := 0) hx hb dMO_host_23 (by decide) ?_
      refine lv_aload_n hx hb dMO_host_24 rfl (lv_at hl 0 rfl) ?_
      have hu7 : ∀ w ∈ u_ws "RingGuardModel" T_MO 53, w.before ([.ref mo, .int p0, .int p1] : List Value).toArray s = true := hB.words zU_MO
      refine va_get (D := (dC, dI)) (ci := 7) (v := .int 0) (C := "RingGuardModel") (T := T_MO) (N := 53) hx hb hu7 zid hown hK hP 0 rfl rfl 1 (by decide) (hB.word (zm4 k4_115) rfl) (fun _ h9 => h9) rfl dMO_host_25 ?_
      have hPc : va_P (dC, dI) zCl [(mo, .inr (7, [.int 0, .int 0, .int 0, .int 0, .ref (mb 0), .ref (mb 1), .ref (mb 2), .ref (mb 3), .ref (mb 4), .ref (mb 5), .ref (mb 6), .ref (mb 7), .ref (mb 8), .ref (mb 9), .ref (mb 10), .ref (mb 11), .ref (mb 12), .ref (mb 13), .ref (mb 14), .ref (mb 15), .ref (mb 16), .ref (mb 17), .ref (mb 18), .ref (mb 19), .ref (mb 20), .ref (mb 21), .ref (mb 22), .ref (mb 23), .ref (mb 24), .ref (mb 25), .ref (mb 26), .ref (mb 27), .ref (mb 28), .ref (mb 29), .ref (mb 30), .ref (mb 31), .ref (mb 32), .int 0, .int 0, .int 0, .int 0, .int 0, .int 0, .int 0, .ref (mb 33), .ref (mb 34), .ref (mb 35), .ref (mb 36), .int 0, .int 0, .int 0, .int 0, .ref (mb 37)]))] H := hP.sub [0] rfl
      have hDc : va_D A [(mo, .inr (7, [.int 0, .int 0, .int 0, .int 0, .ref (mb 0), .ref (mb 1), .ref (mb 2), .ref (mb 3), .ref (mb 4), .ref (mb 5), .ref (mb 6), .ref (mb 7), .ref (mb 8), .ref (mb 9), .ref (mb 10), .ref (mb 11), .ref (mb 12), .ref (mb 13), .ref (mb 14), .ref (mb 15), .ref (mb 16), .ref (mb 17), .ref (mb 18), .ref (mb 19), .ref (mb 20), .ref (mb 21), .ref (mb 22), .ref (mb 23), .ref (mb 24), .ref (mb 25), .ref (mb 26), .ref (mb 27), .ref (mb 28), .ref (mb 29), .ref (mb 30), .ref (mb 31), .ref (mb 32), .int 0, .int 0, .int 0, .int 0, .int 0, .int 0, .int 0, .ref (mb 33), .ref (mb 34), .ref (mb 35), .ref (mb 36), .int 0, .int 0, .int 0, .int 0, .ref (mb 37)]))] := hD.sub [0] (by decide) rfl
      refine zcalli (wr := []) (va_runV (As := [.int 0, .int 0]) (rest := []) ⟨hx, hb, hml, hown, zno⟩ (zm_goes0 l dC dI cI cZ cJ a0 s0 mo mb H.size 0) (zcw 2 (hB.word (zm5 k5_56) rfl) (hB.word (zm1 k1_9) rfl) (hB.word (zm5 k5_53) rfl) (hB.word (zm5 k5_55) rfl) (k2_selects_private (by decide) (hB.word (zm4 k4_109) rfl) (hB.word (zm5 k5_54) rfl) (hB.word (zm5 k5_55) rfl)) rfl rfl (by decide +kernel) ⟨Nat.le_of_ble_eq_true rfl, Nat.le_of_ble_eq_true rfl⟩) ⟨zP_blind, va_recv hK hP (ci := 7) (q0 := 0) rfl rfl, zP_pre hPc hK hDc hAD (zB_on hB hA0 hS)⟩ rfl rfl hl.1 rfl (lv_room (Nat.le_of_ble_eq_true rfl)) dMO_host_28 ⟨Nat.le_of_ble_eq_true rfl, Nat.le_of_ble_eq_true rfl⟩) hP hD hS hA [0] [] rfl rfl (by decide) (by decide) (fun r4 H1 locs hr4 hP hD hS => ?_)
      generalize H1 = H at hP hS ⊢
      have hP : va_P (dC, dI) zCl [(mo, .inr (7, [.int 1, .int 0, .int 0, .int 0, .ref (mb 0), .ref (mb 1), .ref (mb 2), .ref (mb 3), .ref (mb 4), .ref (mb 5), .ref (mb 6), .ref (mb 7), .ref (mb 8), .ref (mb 9), .ref (mb 10), .ref (mb 11), .ref (mb 12), .ref (mb 13), .ref (mb 14), .ref (mb 15), .ref (mb 16), .ref (mb 17), .ref (mb 18), .ref (mb 19), .ref (mb 20), .ref (mb 21), .ref (mb 22), .ref (mb 23), .ref (mb 24), .ref (mb 25), .ref (mb 26), .ref (mb 27), .ref (mb 28), .ref (mb 29), .ref (mb 30), .ref (mb 31), .ref (mb 32), .int 0, .int 0, .int 0, .int 0, .int 0, .int 0, .int 0, .ref (mb 33), .ref (mb 34), .ref (mb 35), .ref (mb 36), .int 0, .int 0, .int 0, .int 0, .ref (mb 37)]))] H := hP
      have hD : va_D A [(mo, .inr (7, [.int 1, .int 0, .int 0, .int 0, .ref (mb 0), .ref (mb 1), .ref (mb 2), .ref (mb 3), .ref (mb 4), .ref (mb 5), .ref (mb 6), .ref (mb 7), .ref (mb 8), .ref (mb 9), .ref (mb 10), .ref (mb 11), .ref (mb 12), .ref (mb 13), .ref (mb 14), .ref (mb 15), .ref (mb 16), .ref (mb 17), .ref (mb 18), .ref (mb 19), .ref (mb 20), .ref (mb 21), .ref (mb 22), .ref (mb 23), .ref (mb 24), .ref (mb 25), .ref (mb 26), .ref (mb 27), .ref (mb 28), .ref (mb 29), .ref (mb 30), .ref (mb 31), .ref (mb 32), .int 0, .int 0, .int 0, .int 0, .int 0, .int 0, .int 0, .ref (mb 33), .ref (mb 34), .ref (mb 35), .ref (mb 36), .int 0, .int 0, .int 0, .int 0, .ref (mb 37)]))] := hD
      subst hr4
      refine lv_if_ne (tgt := 36) hx hb dMO_host_31 (by decide) (fun c9 => absurd (by decide) c9) (fun _ => ?_)
      refine lv_iconst (v := 0) hx hb dMO_host_34 (by decide) ?_
      refine W.widen (k := 0) (n := 0) (Nat.le_of_ble_eq_true rfl) (Nat.le_of_ble_eq_true rfl) ?_
      have hP9 : va_P (dC, dI) zCl [(mo, .inr (7, [.int 1, .int 0, .int 0, .int 0, .ref (mb 0), .ref (mb 1), .ref (mb 2), .ref (mb 3), .ref (mb 4), .ref (mb 5), .ref (mb 6), .ref (mb 7), .ref (mb 8), .ref (mb 9), .ref (mb 10), .ref (mb 11), .ref (mb 12), .ref (mb 13), .ref (mb 14), .ref (mb 15), .ref (mb 16), .ref (mb 17), .ref (mb 18), .ref (mb 19), .ref (mb 20), .ref (mb 21), .ref (mb 22), .ref (mb 23), .ref (mb 24), .ref (mb 25), .ref (mb 26), .ref (mb 27), .ref (mb 28), .ref (mb 29), .ref (mb 30), .ref (mb 31), .ref (mb 32), .int 0, .int 0, .int 0, .int 0, .int 0, .int 0, .int 0, .ref (mb 33), .ref (mb 34), .ref (mb 35), .ref (mb 36), .int 0, .int 0, .int 0, .int 0, .ref (mb 37)]))] H := hP.sub [0] rfl
      have hD9 : va_D A [(mo, .inr (7, [.int 1, .int 0, .int 0, .int 0, .ref (mb 0), .ref (mb 1), .ref (mb 2), .ref (mb 3), .ref (mb 4), .ref (mb 5), .ref (mb 6), .ref (mb 7), .ref (mb 8), .ref (mb 9), .ref (mb 10), .ref (mb 11), .ref (mb 12), .ref (mb 13), .ref (mb 14), .ref (mb 15), .ref (mb 16), .ref (mb 17), .ref (mb 18), .ref (mb 19), .ref (mb 20), .ref (mb 21), .ref (mb 22), .ref (mb 23), .ref (mb 24), .ref (mb 25), .ref (mb 26), .ref (mb 27), .ref (mb 28), .ref (mb 29), .ref (mb 30), .ref (mb 31), .ref (mb 32), .int 0, .int 0, .int 0, .int 0, .int 0, .int 0, .int 0, .ref (mb 33), .ref (mb 34), .ref (mb 35), .ref (mb 36), .int 0, .int 0, .int 0, .int 0, .ref (mb 37)]))] := hD.sub [0] (by decide) rfl
      exact W.iret (v := 0) hx hb hr (fun t ht hW => ⟨⟨0, (), rfl, rfl, by rw [ht]; exact hP9, hD9⟩, hS.F ht⟩) hS.2.2 dMO_host_35
set_option maxHeartbeats 4000000 in
set_option maxRecDepth 100000 in
theorem zm_holds (l : Launch) (dC : Nat → ClassId) (dI : Nat → Nat → Nat) (cI cZ cJ : ClassId) (a0 : Array Value) (s0 : State) (mo : Nat) (mb : Nat → Nat) (sz : Nat) (p0 p1 : Int32) : Met l yMO_holds [Cond.code yMO_holds bMO_holds 3 (some .int)] ({ frames := 1, cells := 0, slots := 0, locals := 21 } : Room) (zP zCl dC dI (zTY cI cZ cJ) a0 s0 [.ref mo, .int p0, .int p1] sz [(mo, .inr (7, [.int 0, .int 0, .int 0, .int 0, .ref (mb 0), .ref (mb 1), .ref (mb 2), .ref (mb 3), .ref (mb 4), .ref (mb 5), .ref (mb 6), .ref (mb 7), .ref (mb 8), .ref (mb 9), .ref (mb 10), .ref (mb 11), .ref (mb 12), .ref (mb 13), .ref (mb 14), .ref (mb 15), .ref (mb 16), .ref (mb 17), .ref (mb 18), .ref (mb 19), .ref (mb 20), .ref (mb 21), .ref (mb 22), .ref (mb 23), .ref (mb 24), .ref (mb 25), .ref (mb 26), .ref (mb 27), .ref (mb 28), .ref (mb 29), .ref (mb 30), .ref (mb 31), .ref (mb 32), .int 0, .int 0, .int 0, .int 0, .int 0, .int 0, .int 0, .ref (mb 33), .ref (mb 34), .ref (mb 35), .ref (mb 36), .int 0, .int 0, .int 0, .int 0, .ref (mb 37)]))]) (zQi zCl dC dI (fun r => r = 0) [(mo, .inr (7, [.int 1, .int 0, .int 0, .int 0, .ref (mb 0), .ref (mb 1), .ref (mb 2), .ref (mb 3), .ref (mb 4), .ref (mb 5), .ref (mb 6), .ref (mb 7), .ref (mb 8), .ref (mb 9), .ref (mb 10), .ref (mb 11), .ref (mb 12), .ref (mb 13), .ref (mb 14), .ref (mb 15), .ref (mb 16), .ref (mb 17), .ref (mb 18), .ref (mb 19), .ref (mb 20), .ref (mb 21), .ref (mb 22), .ref (mb 23), .ref (mb 24), .ref (mb 25), .ref (mb 26), .ref (mb 27), .ref (mb 28), .ref (mb 29), .ref (mb 30), .ref (mb 31), .ref (mb 32), .int 0, .int 0, .int 0, .int 0, .int 0, .int 0, .int 0, .ref (mb 33), .ref (mb 34), .ref (mb 35), .ref (mb 36), .int 0, .int 0, .int 0, .int 0, .ref (mb 37)]))] (va_A [(mo, .inr (7, [.int 0, .int 0, .int 0, .int 0, .ref (mb 0), .ref (mb 1), .ref (mb 2), .ref (mb 3), .ref (mb 4), .ref (mb 5), .ref (mb 6), .ref (mb 7), .ref (mb 8), .ref (mb 9), .ref (mb 10), .ref (mb 11), .ref (mb 12), .ref (mb 13), .ref (mb 14), .ref (mb 15), .ref (mb 16), .ref (mb 17), .ref (mb 18), .ref (mb 19), .ref (mb 20), .ref (mb 21), .ref (mb 22), .ref (mb 23), .ref (mb 24), .ref (mb 25), .ref (mb 26), .ref (mb 27), .ref (mb 28), .ref (mb 29), .ref (mb 30), .ref (mb 31), .ref (mb 32), .int 0, .int 0, .int 0, .int 0, .int 0, .int 0, .int 0, .ref (mb 33), .ref (mb 34), .ref (mb 35), .ref (mb 36), .int 0, .int 0, .int 0, .int 0, .ref (mb 37)]))] sz)) 0 0 (va_A [(mo, .inr (7, [.int 0, .int 0, .int 0, .int 0, .ref (mb 0), .ref (mb 1), .ref (mb 2), .ref (mb 3), .ref (mb 4), .ref (mb 5), .ref (mb 6), .ref (mb 7), .ref (mb 8), .ref (mb 9), .ref (mb 10), .ref (mb 11), .ref (mb 12), .ref (mb 13), .ref (mb 14), .ref (mb 15), .ref (mb 16), .ref (mb 17), .ref (mb 18), .ref (mb 19), .ref (mb 20), .ref (mb 21), .ref (mb 22), .ref (mb 23), .ref (mb 24), .ref (mb 25), .ref (mb 26), .ref (mb 27), .ref (mb 28), .ref (mb 29), .ref (mb 30), .ref (mb 31), .ref (mb 32), .int 0, .int 0, .int 0, .int 0, .int 0, .int 0, .int 0, .ref (mb 33), .ref (mb 34), .ref (mb 35), .ref (mb 36), .int 0, .int 0, .int 0, .int 0, .ref (mb 37)]))] sz) := by
  refine Met.ofW (cc := bMO_holds) (maxL := 3) (ret := (some .int)) (by decide) rfl ?_
  intro p e s m args below meth c s₁ B hml hv
  obtain ⟨rfl, hsz, hP, hK, hD0, hB⟩ := hv
  have hx := B.exec
  have hb := B.bytes
  have hr := B.returns
  have hown : s.vm.findClass "RingGuardModel" = some m.cls := findClass_of_methodNamed B.named
  have hlocks := B.notSynchronized
  subst hsz
  have hD := hD0.self (sz := s.heap.size)
  have hA0 := zA0 hD0 hB
  generalize hAe : va_A [(mo, .inr (7, [.int 0, .int 0, .int 0, .int 0, .ref (mb 0), .ref (mb 1), .ref (mb 2), .ref (mb 3), .ref (mb 4), .ref (mb 5), .ref (mb 6), .ref (mb 7), .ref (mb 8), .ref (mb 9), .ref (mb 10), .ref (mb 11), .ref (mb 12), .ref (mb 13), .ref (mb 14), .ref (mb 15), .ref (mb 16), .ref (mb 17), .ref (mb 18), .ref (mb 19), .ref (mb 20), .ref (mb 21), .ref (mb 22), .ref (mb 23), .ref (mb 24), .ref (mb 25), .ref (mb 26), .ref (mb 27), .ref (mb 28), .ref (mb 29), .ref (mb 30), .ref (mb 31), .ref (mb 32), .int 0, .int 0, .int 0, .int 0, .int 0, .int 0, .int 0, .ref (mb 33), .ref (mb 34), .ref (mb 35), .ref (mb 36), .int 0, .int 0, .int 0, .int 0, .ref (mb 37)]))] s.heap.size = A at hD hA0 ⊢
  have hAD := hA0
  have hA : ∀ q : Nat, s.heap.size ≤ q → A q := fun q h => by rw [← hAe]; exact Or.inr h
  have hS : va_S A s.heap s.heap [] := va_S.rf
  have hP : va_P (dC, dI) zCl [(mo, .inr (7, [.int 0, .int 0, .int 0, .int 0, .ref (mb 0), .ref (mb 1), .ref (mb 2), .ref (mb 3), .ref (mb 4), .ref (mb 5), .ref (mb 6), .ref (mb 7), .ref (mb 8), .ref (mb 9), .ref (mb 10), .ref (mb 11), .ref (mb 12), .ref (mb 13), .ref (mb 14), .ref (mb 15), .ref (mb 16), .ref (mb 17), .ref (mb 18), .ref (mb 19), .ref (mb 20), .ref (mb 21), .ref (mb 22), .ref (mb 23), .ref (mb 24), .ref (mb 25), .ref (mb 26), .ref (mb 27), .ref (mb 28), .ref (mb 29), .ref (mb 30), .ref (mb 31), .ref (mb 32), .int 0, .int 0, .int 0, .int 0, .int 0, .int 0, .int 0, .ref (mb 33), .ref (mb 34), .ref (mb 35), .ref (mb 36), .int 0, .int 0, .int 0, .int 0, .ref (mb 37)]))] s.heap := hP
  have hl := lv_entry ([.ref mo, .int p0, .int p1]) (n := 3) (Nat.le_of_ble_eq_true rfl)
  rw [lg_entry_eq]
  generalize (lg_sl ([.ref mo, .int p0, .int p1]) ++ List.replicate (3 - (lg_sl ([.ref mo, .int p0, .int p1])).length) Slot.unset).toArray = ls at hl ⊢
  have hl : lv_has ls 3 [(0, .ref mo), (1, .int p0), (2, .int p1)] := hl
  refine lv_aload_n hx hb dMO_holds_0 rfl (lv_at hl 0 rfl) ?_
  refine lv_aload_n hx hb dMO_holds_1 rfl (lv_at hl 0 rfl) ?_
  refine lv_iload_n hx hb dMO_holds_2 rfl (lv_at hl 1 rfl) ?_
  have hPc : va_P (dC, dI) zCl [(mo, .inr (7, [.int 0, .int 0, .int 0, .int 0, .ref (mb 0), .ref (mb 1), .ref (mb 2), .ref (mb 3), .ref (mb 4), .ref (mb 5), .ref (mb 6), .ref (mb 7), .ref (mb 8), .ref (mb 9), .ref (mb 10), .ref (mb 11), .ref (mb 12), .ref (mb 13), .ref (mb 14), .ref (mb 15), .ref (mb 16), .ref (mb 17), .ref (mb 18), .ref (mb 19), .ref (mb 20), .ref (mb 21), .ref (mb 22), .ref (mb 23), .ref (mb 24), .ref (mb 25), .ref (mb 26), .ref (mb 27), .ref (mb 28), .ref (mb 29), .ref (mb 30), .ref (mb 31), .ref (mb 32), .int 0, .int 0, .int 0, .int 0, .int 0, .int 0, .int 0, .ref (mb 33), .ref (mb 34), .ref (mb 35), .ref (mb 36), .int 0, .int 0, .int 0, .int 0, .ref (mb 37)]))] s.heap := hP.sub [0] rfl
  have hDc : va_D A [(mo, .inr (7, [.int 0, .int 0, .int 0, .int 0, .ref (mb 0), .ref (mb 1), .ref (mb 2), .ref (mb 3), .ref (mb 4), .ref (mb 5), .ref (mb 6), .ref (mb 7), .ref (mb 8), .ref (mb 9), .ref (mb 10), .ref (mb 11), .ref (mb 12), .ref (mb 13), .ref (mb 14), .ref (mb 15), .ref (mb 16), .ref (mb 17), .ref (mb 18), .ref (mb 19), .ref (mb 20), .ref (mb 21), .ref (mb 22), .ref (mb 23), .ref (mb 24), .ref (mb 25), .ref (mb 26), .ref (mb 27), .ref (mb 28), .ref (mb 29), .ref (mb 30), .ref (mb 31), .ref (mb 32), .int 0, .int 0, .int 0, .int 0, .int 0, .int 0, .int 0, .ref (mb 33), .ref (mb 34), .ref (mb 35), .ref (mb 36), .int 0, .int 0, .int 0, .int 0, .ref (mb 37)]))] := hD.sub [0] (by decide) rfl
  refine zcallp (va_runV (As := [.int p0]) (rest := [.ref mo]) ⟨hx, hb, hml, hown, zno⟩ (zm_isBridge l dC dI cI cZ cJ a0 s0 mo mb s.heap.size p0) (zcw 1 (hB.word (zm5 k5_49) rfl) (hB.word (zm1 k1_9) rfl) (hB.word (zm5 k5_46) rfl) (hB.word (zm5 k5_48) rfl) (k2_selects_private (by decide) (hB.word (zm4 k4_109) rfl) (hB.word (zm5 k5_47) rfl) (hB.word (zm5 k5_48) rfl)) rfl rfl (by decide +kernel) ⟨Nat.le_of_ble_eq_true rfl, Nat.le_of_ble_eq_true rfl⟩) ⟨zP_blind, va_recv hK hP (ci := 7) (q0 := 0) rfl rfl, zP_pre hPc hK hDc hAD (zB_on hB hA0 hS)⟩ rfl rfl hl.1 rfl (lv_room (Nat.le_of_ble_eq_true rfl)) dMO_holds_3 ⟨Nat.le_of_ble_eq_true rfl, Nat.le_of_ble_eq_true rfl⟩) hS hA (fun r1 H1 locs hr1 hz1 hk1 hS => ?_)
  have hP := zKeep hP hk1
  generalize H1 = H at hP hS ⊢
  have hP : va_P (dC, dI) zCl [(mo, .inr (7, [.int 0, .int 0, .int 0, .int 0, .ref (mb 0), .ref (mb 1), .ref (mb 2), .ref (mb 3), .ref (mb 4), .ref (mb 5), .ref (mb 6), .ref (mb 7), .ref (mb 8), .ref (mb 9), .ref (mb 10), .ref (mb 11), .ref (mb 12), .ref (mb 13), .ref (mb 14), .ref (mb 15), .ref (mb 16), .ref (mb 17), .ref (mb 18), .ref (mb 19), .ref (mb 20), .ref (mb 21), .ref (mb 22), .ref (mb 23), .ref (mb 24), .ref (mb 25), .ref (mb 26), .ref (mb 27), .ref (mb 28), .ref (mb 29), .ref (mb 30), .ref (mb 31), .ref (mb 32), .int 0, .int 0, .int 0, .int 0, .int 0, .int 0, .int 0, .ref (mb 33), .ref (mb 34), .ref (mb 35), .ref (mb 36), .int 0, .int 0, .int 0, .int 0, .ref (mb 37)]))] H := hP
  subst hr1
  refine lv_if_eq (tgt := 30) hx hb dMO_holds_6 (by decide) (fun _ => ?_) (fun c9 => absurd (by decide) c9)
  refine lv_iconst (v := 1) hx hb dMO_holds_30 (by decide) ?_
  have hu7 : ∀ w ∈ u_ws "RingGuardModel" T_MO 53, w.before ([.ref mo, .int p0, .int p1] : List Value).toArray s = true := hB.words zU_MO
  refine va_put (D := (dC, dI)) (ci := 7) (v := .int 1) (ty := .int) (C := "RingGuardModel") (T := T_MO) (N := 53) hx hb hu7 zid ty_MO ok_MO nm_MO hown hK hP hD hS 0 rfl rfl 0 (by decide) (hB.word (zm4 k4_114) rfl) (fun _ h9 => h9) rfl (by decide +kernel) rfl rfl (Nat.le_of_ble_eq_true rfl) dMO_holds_31 (fun H locs hP hD hS => ?_)
  have hP : va_P (dC, dI) zCl [(mo, .inr (7, [.int 1, .int 0, .int 0, .int 0, .ref (mb 0), .ref (mb 1), .ref (mb 2), .ref (mb 3), .ref (mb 4), .ref (mb 5), .ref (mb 6), .ref (mb 7), .ref (mb 8), .ref (mb 9), .ref (mb 10), .ref (mb 11), .ref (mb 12), .ref (mb 13), .ref (mb 14), .ref (mb 15), .ref (mb 16), .ref (mb 17), .ref (mb 18), .ref (mb 19), .ref (mb 20), .ref (mb 21), .ref (mb 22), .ref (mb 23), .ref (mb 24), .ref (mb 25), .ref (mb 26), .ref (mb 27), .ref (mb 28), .ref (mb 29), .ref (mb 30), .ref (mb 31), .ref (mb 32), .int 0, .int 0, .int 0, .int 0, .int 0, .int 0, .int 0, .ref (mb 33), .ref (mb 34), .ref (mb 35), .ref (mb 36), .int 0, .int 0, .int 0, .int 0, .ref (mb 37)]))] H := hP
  have hD : va_D A [(mo, .inr (7, [.int 1, .int 0, .int 0, .int 0, .ref (mb 0), .ref (mb 1), .ref (mb 2), .ref (mb 3), .ref (mb 4), .ref (mb 5), .ref (mb 6), .ref (mb 7), .ref (mb 8), .ref (mb 9), .ref (mb 10), .ref (mb 11), .ref (mb 12), .ref (mb 13), .ref (mb 14), .ref (mb 15), .ref (mb 16), .ref (mb 17), .ref (mb 18), .ref (mb 19), .ref (mb 20), .ref (mb 21), .ref (mb 22), .ref (mb 23), .ref (mb 24), .ref (mb 25), .ref (mb 26), .ref (mb 27), .ref (mb 28), .ref (mb 29), .ref (mb 30), .ref (mb 31), .ref (mb 32), .int 0, .int 0, .int 0, .int 0, .int 0, .int 0, .int 0, .ref (mb 33), .ref (mb 34), .ref (mb 35), .ref (mb 36), .int 0, .int 0, .int 0, .int 0, .ref (mb 37)]))] := hD
  refine lv_aload_n hx hb dMO_holds_34 rfl (lv_at hl 0 rfl) ?_
  refine va_get (D := (dC, dI)) (ci := 7) (v := .int 1) (C := "RingGuardModel") (T := T_MO) (N := 53) hx hb hu7 zid hown hK hP 0 rfl rfl 0 (by decide) (hB.word (zm4 k4_114) rfl) (fun _ h9 => h9) rfl dMO_holds_35 ?_
  refine lv_if_le (tgt := 45) hx hb dMO_holds_38 (by decide) (fun c9 => absurd c9 (by decide)) (fun _ => ?_)
  refine lv_iconst (v := 0) hx hb dMO_holds_41 (by decide) ?_
  refine lv_goto (tgt := 56) hx hb dMO_holds_42 (by decide) ?_
  refine W.widen (k := 0) (n := 0) (Nat.le_of_ble_eq_true rfl) (Nat.le_of_ble_eq_true rfl) ?_
  have hP9 : va_P (dC, dI) zCl [(mo, .inr (7, [.int 1, .int 0, .int 0, .int 0, .ref (mb 0), .ref (mb 1), .ref (mb 2), .ref (mb 3), .ref (mb 4), .ref (mb 5), .ref (mb 6), .ref (mb 7), .ref (mb 8), .ref (mb 9), .ref (mb 10), .ref (mb 11), .ref (mb 12), .ref (mb 13), .ref (mb 14), .ref (mb 15), .ref (mb 16), .ref (mb 17), .ref (mb 18), .ref (mb 19), .ref (mb 20), .ref (mb 21), .ref (mb 22), .ref (mb 23), .ref (mb 24), .ref (mb 25), .ref (mb 26), .ref (mb 27), .ref (mb 28), .ref (mb 29), .ref (mb 30), .ref (mb 31), .ref (mb 32), .int 0, .int 0, .int 0, .int 0, .int 0, .int 0, .int 0, .ref (mb 33), .ref (mb 34), .ref (mb 35), .ref (mb 36), .int 0, .int 0, .int 0, .int 0, .ref (mb 37)]))] H := hP.sub [0] rfl
  have hD9 : va_D A [(mo, .inr (7, [.int 1, .int 0, .int 0, .int 0, .ref (mb 0), .ref (mb 1), .ref (mb 2), .ref (mb 3), .ref (mb 4), .ref (mb 5), .ref (mb 6), .ref (mb 7), .ref (mb 8), .ref (mb 9), .ref (mb 10), .ref (mb 11), .ref (mb 12), .ref (mb 13), .ref (mb 14), .ref (mb 15), .ref (mb 16), .ref (mb 17), .ref (mb 18), .ref (mb 19), .ref (mb 20), .ref (mb 21), .ref (mb 22), .ref (mb 23), .ref (mb 24), .ref (mb 25), .ref (mb 26), .ref (mb 27), .ref (mb 28), .ref (mb 29), .ref (mb 30), .ref (mb 31), .ref (mb 32), .int 0, .int 0, .int 0, .int 0, .int 0, .int 0, .int 0, .ref (mb 33), .ref (mb 34), .ref (mb 35), .ref (mb 36), .int 0, .int 0, .int 0, .int 0, .ref (mb 37)]))] := hD.sub [0] (by decide) rfl
  exact W.iret (v := 0) hx hb hr (fun t ht hW => ⟨⟨0, (), rfl, rfl, by rw [ht]; exact hP9, hD9⟩, hS.F ht⟩) hS.2.2 dMO_holds_56
set_option maxHeartbeats 4000000 in
set_option maxRecDepth 100000 in
theorem zm_joined (l : Launch) (dC : Nat → ClassId) (dI : Nat → Nat → Nat) (cI cZ cJ : ClassId) (a0 : Array Value) (s0 : State) (mo : Nat) (mb : Nat → Nat) (sz : Nat) (p0 p1 : Int32) : Met l yMO_joined [Cond.code yMO_joined bMO_joined 5 (some .boolean)] ({ frames := 1, cells := 0, slots := 0, locals := 21 } : Room) (zP zCl dC dI (zTY cI cZ cJ) a0 s0 [.ref mo, .int p0, .int p1] sz [(mo, .inr (7, [.int 0, .int 0, .int 0, .int 0, .ref (mb 0), .ref (mb 1), .ref (mb 2), .ref (mb 3), .ref (mb 4), .ref (mb 5), .ref (mb 6), .ref (mb 7), .ref (mb 8), .ref (mb 9), .ref (mb 10), .ref (mb 11), .ref (mb 12), .ref (mb 13), .ref (mb 14), .ref (mb 15), .ref (mb 16), .ref (mb 17), .ref (mb 18), .ref (mb 19), .ref (mb 20), .ref (mb 21), .ref (mb 22), .ref (mb 23), .ref (mb 24), .ref (mb 25), .ref (mb 26), .ref (mb 27), .ref (mb 28), .ref (mb 29), .ref (mb 30), .ref (mb 31), .ref (mb 32), .int 0, .int 0, .int 0, .int 0, .int 0, .int 0, .int 0, .ref (mb 33), .ref (mb 34), .ref (mb 35), .ref (mb 36), .int 0, .int 0, .int 0, .int 0, .ref (mb 37)]))]) (zQi zCl dC dI (fun r => r = 0) [(mo, .inr (7, [.int 1, .int 0, .int 0, .int 0, .ref (mb 0), .ref (mb 1), .ref (mb 2), .ref (mb 3), .ref (mb 4), .ref (mb 5), .ref (mb 6), .ref (mb 7), .ref (mb 8), .ref (mb 9), .ref (mb 10), .ref (mb 11), .ref (mb 12), .ref (mb 13), .ref (mb 14), .ref (mb 15), .ref (mb 16), .ref (mb 17), .ref (mb 18), .ref (mb 19), .ref (mb 20), .ref (mb 21), .ref (mb 22), .ref (mb 23), .ref (mb 24), .ref (mb 25), .ref (mb 26), .ref (mb 27), .ref (mb 28), .ref (mb 29), .ref (mb 30), .ref (mb 31), .ref (mb 32), .int 0, .int 0, .int 0, .int 0, .int 0, .int 0, .int 0, .ref (mb 33), .ref (mb 34), .ref (mb 35), .ref (mb 36), .int 0, .int 0, .int 0, .int 0, .ref (mb 37)]))] (va_A [(mo, .inr (7, [.int 0, .int 0, .int 0, .int 0, .ref (mb 0), .ref (mb 1), .ref (mb 2), .ref (mb 3), .ref (mb 4), .ref (mb 5), .ref (mb 6), .ref (mb 7), .ref (mb 8), .ref (mb 9), .ref (mb 10), .ref (mb 11), .ref (mb 12), .ref (mb 13), .ref (mb 14), .ref (mb 15), .ref (mb 16), .ref (mb 17), .ref (mb 18), .ref (mb 19), .ref (mb 20), .ref (mb 21), .ref (mb 22), .ref (mb 23), .ref (mb 24), .ref (mb 25), .ref (mb 26), .ref (mb 27), .ref (mb 28), .ref (mb 29), .ref (mb 30), .ref (mb 31), .ref (mb 32), .int 0, .int 0, .int 0, .int 0, .int 0, .int 0, .int 0, .ref (mb 33), .ref (mb 34), .ref (mb 35), .ref (mb 36), .int 0, .int 0, .int 0, .int 0, .ref (mb 37)]))] sz)) 0 0 (va_A [(mo, .inr (7, [.int 0, .int 0, .int 0, .int 0, .ref (mb 0), .ref (mb 1), .ref (mb 2), .ref (mb 3), .ref (mb 4), .ref (mb 5), .ref (mb 6), .ref (mb 7), .ref (mb 8), .ref (mb 9), .ref (mb 10), .ref (mb 11), .ref (mb 12), .ref (mb 13), .ref (mb 14), .ref (mb 15), .ref (mb 16), .ref (mb 17), .ref (mb 18), .ref (mb 19), .ref (mb 20), .ref (mb 21), .ref (mb 22), .ref (mb 23), .ref (mb 24), .ref (mb 25), .ref (mb 26), .ref (mb 27), .ref (mb 28), .ref (mb 29), .ref (mb 30), .ref (mb 31), .ref (mb 32), .int 0, .int 0, .int 0, .int 0, .int 0, .int 0, .int 0, .ref (mb 33), .ref (mb 34), .ref (mb 35), .ref (mb 36), .int 0, .int 0, .int 0, .int 0, .ref (mb 37)]))] sz) := by
  refine Met.ofW (cc := bMO_joined) (maxL := 5) (ret := (some .boolean)) (by decide) rfl ?_
  intro p e s m args below meth c s₁ B hml hv
  obtain ⟨rfl, hsz, hP, hK, hD0, hB⟩ := hv
  have hx := B.exec
  have hb := B.bytes
  have hr := B.returns
  have hown : s.vm.findClass "RingGuardModel" = some m.cls := findClass_of_methodNamed B.named
  have hlocks := B.notSynchronized
  subst hsz
  have hD := hD0.self (sz := s.heap.size)
  have hA0 := zA0 hD0 hB
  generalize hAe : va_A [(mo, .inr (7, [.int 0, .int 0, .int 0, .int 0, .ref (mb 0), .ref (mb 1), .ref (mb 2), .ref (mb 3), .ref (mb 4), .ref (mb 5), .ref (mb 6), .ref (mb 7), .ref (mb 8), .ref (mb 9), .ref (mb 10), .ref (mb 11), .ref (mb 12), .ref (mb 13), .ref (mb 14), .ref (mb 15), .ref (mb 16), .ref (mb 17), .ref (mb 18), .ref (mb 19), .ref (mb 20), .ref (mb 21), .ref (mb 22), .ref (mb 23), .ref (mb 24), .ref (mb 25), .ref (mb 26), .ref (mb 27), .ref (mb 28), .ref (mb 29), .ref (mb 30), .ref (mb 31), .ref (mb 32), .int 0, .int 0, .int 0, .int 0, .int 0, .int 0, .int 0, .ref (mb 33), .ref (mb 34), .ref (mb 35), .ref (mb 36), .int 0, .int 0, .int 0, .int 0, .ref (mb 37)]))] s.heap.size = A at hD hA0 ⊢
  have hAD := hA0
  have hA : ∀ q : Nat, s.heap.size ≤ q → A q := fun q h => by rw [← hAe]; exact Or.inr h
  have hS : va_S A s.heap s.heap [] := va_S.rf
  have hP : va_P (dC, dI) zCl [(mo, .inr (7, [.int 0, .int 0, .int 0, .int 0, .ref (mb 0), .ref (mb 1), .ref (mb 2), .ref (mb 3), .ref (mb 4), .ref (mb 5), .ref (mb 6), .ref (mb 7), .ref (mb 8), .ref (mb 9), .ref (mb 10), .ref (mb 11), .ref (mb 12), .ref (mb 13), .ref (mb 14), .ref (mb 15), .ref (mb 16), .ref (mb 17), .ref (mb 18), .ref (mb 19), .ref (mb 20), .ref (mb 21), .ref (mb 22), .ref (mb 23), .ref (mb 24), .ref (mb 25), .ref (mb 26), .ref (mb 27), .ref (mb 28), .ref (mb 29), .ref (mb 30), .ref (mb 31), .ref (mb 32), .int 0, .int 0, .int 0, .int 0, .int 0, .int 0, .int 0, .ref (mb 33), .ref (mb 34), .ref (mb 35), .ref (mb 36), .int 0, .int 0, .int 0, .int 0, .ref (mb 37)]))] s.heap := hP
  have hl := lv_entry ([.ref mo, .int p0, .int p1]) (n := 5) (Nat.le_of_ble_eq_true rfl)
  rw [lg_entry_eq]
  generalize (lg_sl ([.ref mo, .int p0, .int p1]) ++ List.replicate (5 - (lg_sl ([.ref mo, .int p0, .int p1])).length) Slot.unset).toArray = ls at hl ⊢
  have hl : lv_has ls 5 [(0, .ref mo), (1, .int p0), (2, .int p1)] := hl
  refine lv_aload_n hx hb dMO_joined_0 rfl (lv_at hl 0 rfl) ?_
  refine lv_aload_n hx hb dMO_joined_1 rfl (lv_at hl 0 rfl) ?_
  refine lv_iload_n hx hb dMO_joined_2 rfl (lv_at hl 1 rfl) ?_
  have hPc : va_P (dC, dI) zCl [(mo, .inr (7, [.int 0, .int 0, .int 0, .int 0, .ref (mb 0), .ref (mb 1), .ref (mb 2), .ref (mb 3), .ref (mb 4), .ref (mb 5), .ref (mb 6), .ref (mb 7), .ref (mb 8), .ref (mb 9), .ref (mb 10), .ref (mb 11), .ref (mb 12), .ref (mb 13), .ref (mb 14), .ref (mb 15), .ref (mb 16), .ref (mb 17), .ref (mb 18), .ref (mb 19), .ref (mb 20), .ref (mb 21), .ref (mb 22), .ref (mb 23), .ref (mb 24), .ref (mb 25), .ref (mb 26), .ref (mb 27), .ref (mb 28), .ref (mb 29), .ref (mb 30), .ref (mb 31), .ref (mb 32), .int 0, .int 0, .int 0, .int 0, .int 0, .int 0, .int 0, .ref (mb 33), .ref (mb 34), .ref (mb 35), .ref (mb 36), .int 0, .int 0, .int 0, .int 0, .ref (mb 37)]))] s.heap := hP.sub [0] rfl
  have hDc : va_D A [(mo, .inr (7, [.int 0, .int 0, .int 0, .int 0, .ref (mb 0), .ref (mb 1), .ref (mb 2), .ref (mb 3), .ref (mb 4), .ref (mb 5), .ref (mb 6), .ref (mb 7), .ref (mb 8), .ref (mb 9), .ref (mb 10), .ref (mb 11), .ref (mb 12), .ref (mb 13), .ref (mb 14), .ref (mb 15), .ref (mb 16), .ref (mb 17), .ref (mb 18), .ref (mb 19), .ref (mb 20), .ref (mb 21), .ref (mb 22), .ref (mb 23), .ref (mb 24), .ref (mb 25), .ref (mb 26), .ref (mb 27), .ref (mb 28), .ref (mb 29), .ref (mb 30), .ref (mb 31), .ref (mb 32), .int 0, .int 0, .int 0, .int 0, .int 0, .int 0, .int 0, .ref (mb 33), .ref (mb 34), .ref (mb 35), .ref (mb 36), .int 0, .int 0, .int 0, .int 0, .ref (mb 37)]))] := hD.sub [0] (by decide) rfl
  refine zcallp (va_runV (As := [.int p0]) (rest := [.ref mo]) ⟨hx, hb, hml, hown, zno⟩ (zm_isBridge l dC dI cI cZ cJ a0 s0 mo mb s.heap.size p0) (zcw 1 (hB.word (zm5 k5_49) rfl) (hB.word (zm1 k1_9) rfl) (hB.word (zm5 k5_46) rfl) (hB.word (zm5 k5_48) rfl) (k2_selects_private (by decide) (hB.word (zm4 k4_109) rfl) (hB.word (zm5 k5_47) rfl) (hB.word (zm5 k5_48) rfl)) rfl rfl (by decide +kernel) ⟨Nat.le_of_ble_eq_true rfl, Nat.le_of_ble_eq_true rfl⟩) ⟨zP_blind, va_recv hK hP (ci := 7) (q0 := 0) rfl rfl, zP_pre hPc hK hDc hAD (zB_on hB hA0 hS)⟩ rfl rfl hl.1 rfl (lv_room (Nat.le_of_ble_eq_true rfl)) dMO_joined_3 ⟨Nat.le_of_ble_eq_true rfl, Nat.le_of_ble_eq_true rfl⟩) hS hA (fun r1 H1 locs hr1 hz1 hk1 hS => ?_)
  have hP := zKeep hP hk1
  generalize H1 = H at hP hS ⊢
  have hP : va_P (dC, dI) zCl [(mo, .inr (7, [.int 0, .int 0, .int 0, .int 0, .ref (mb 0), .ref (mb 1), .ref (mb 2), .ref (mb 3), .ref (mb 4), .ref (mb 5), .ref (mb 6), .ref (mb 7), .ref (mb 8), .ref (mb 9), .ref (mb 10), .ref (mb 11), .ref (mb 12), .ref (mb 13), .ref (mb 14), .ref (mb 15), .ref (mb 16), .ref (mb 17), .ref (mb 18), .ref (mb 19), .ref (mb 20), .ref (mb 21), .ref (mb 22), .ref (mb 23), .ref (mb 24), .ref (mb 25), .ref (mb 26), .ref (mb 27), .ref (mb 28), .ref (mb 29), .ref (mb 30), .ref (mb 31), .ref (mb 32), .int 0, .int 0, .int 0, .int 0, .int 0, .int 0, .int 0, .ref (mb 33), .ref (mb 34), .ref (mb 35), .ref (mb 36), .int 0, .int 0, .int 0, .int 0, .ref (mb 37)]))] H := hP
  subst hr1
  refine lv_if_eq (tgt := 21) hx hb dMO_joined_6 (by decide) (fun _ => ?_) (fun c9 => absurd (by decide) c9)
  refine lv_iconst (v := 1) hx hb dMO_joined_21 (by decide) ?_
  have hu7 : ∀ w ∈ u_ws "RingGuardModel" T_MO 53, w.before ([.ref mo, .int p0, .int p1] : List Value).toArray s = true := hB.words zU_MO
  refine va_put (D := (dC, dI)) (ci := 7) (v := .int 1) (ty := .int) (C := "RingGuardModel") (T := T_MO) (N := 53) hx hb hu7 zid ty_MO ok_MO nm_MO hown hK hP hD hS 0 rfl rfl 0 (by decide) (hB.word (zm4 k4_114) rfl) (fun _ h9 => h9) rfl (by decide +kernel) rfl rfl (Nat.le_of_ble_eq_true rfl) dMO_joined_22 (fun H locs hP hD hS => ?_)
  have hP : va_P (dC, dI) zCl [(mo, .inr (7, [.int 1, .int 0, .int 0, .int 0, .ref (mb 0), .ref (mb 1), .ref (mb 2), .ref (mb 3), .ref (mb 4), .ref (mb 5), .ref (mb 6), .ref (mb 7), .ref (mb 8), .ref (mb 9), .ref (mb 10), .ref (mb 11), .ref (mb 12), .ref (mb 13), .ref (mb 14), .ref (mb 15), .ref (mb 16), .ref (mb 17), .ref (mb 18), .ref (mb 19), .ref (mb 20), .ref (mb 21), .ref (mb 22), .ref (mb 23), .ref (mb 24), .ref (mb 25), .ref (mb 26), .ref (mb 27), .ref (mb 28), .ref (mb 29), .ref (mb 30), .ref (mb 31), .ref (mb 32), .int 0, .int 0, .int 0, .int 0, .int 0, .int 0, .int 0, .ref (mb 33), .ref (mb 34), .ref (mb 35), .ref (mb 36), .int 0, .int 0, .int 0, .int 0, .ref (mb 37)]))] H := hP
  have hD : va_D A [(mo, .inr (7, [.int 1, .int 0, .int 0, .int 0, .ref (mb 0), .ref (mb 1), .ref (mb 2), .ref (mb 3), .ref (mb 4), .ref (mb 5), .ref (mb 6), .ref (mb 7), .ref (mb 8), .ref (mb 9), .ref (mb 10), .ref (mb 11), .ref (mb 12), .ref (mb 13), .ref (mb 14), .ref (mb 15), .ref (mb 16), .ref (mb 17), .ref (mb 18), .ref (mb 19), .ref (mb 20), .ref (mb 21), .ref (mb 22), .ref (mb 23), .ref (mb 24), .ref (mb 25), .ref (mb 26), .ref (mb 27), .ref (mb 28), .ref (mb 29), .ref (mb 30), .ref (mb 31), .ref (mb 32), .int 0, .int 0, .int 0, .int 0, .int 0, .int 0, .int 0, .ref (mb 33), .ref (mb 34), .ref (mb 35), .ref (mb 36), .int 0, .int 0, .int 0, .int 0, .ref (mb 37)]))] := hD
  refine lv_aload_n hx hb dMO_joined_25 rfl (lv_at hl 0 rfl) ?_
  refine va_get (D := (dC, dI)) (ci := 7) (v := .int 1) (C := "RingGuardModel") (T := T_MO) (N := 53) hx hb hu7 zid hown hK hP 0 rfl rfl 0 (by decide) (hB.word (zm4 k4_114) rfl) (fun _ h9 => h9) rfl dMO_joined_26 ?_
  refine lv_if_le (tgt := 34) hx hb dMO_joined_29 (by decide) (fun c9 => absurd c9 (by decide)) (fun _ => ?_)
  refine lv_iconst (v := 0) hx hb dMO_joined_32 (by decide) ?_
  refine W.widen (k := 0) (n := 0) (Nat.le_of_ble_eq_true rfl) (Nat.le_of_ble_eq_true rfl) ?_
  have hP9 : va_P (dC, dI) zCl [(mo, .inr (7, [.int 1, .int 0, .int 0, .int 0, .ref (mb 0), .ref (mb 1), .ref (mb 2), .ref (mb 3), .ref (mb 4), .ref (mb 5), .ref (mb 6), .ref (mb 7), .ref (mb 8), .ref (mb 9), .ref (mb 10), .ref (mb 11), .ref (mb 12), .ref (mb 13), .ref (mb 14), .ref (mb 15), .ref (mb 16), .ref (mb 17), .ref (mb 18), .ref (mb 19), .ref (mb 20), .ref (mb 21), .ref (mb 22), .ref (mb 23), .ref (mb 24), .ref (mb 25), .ref (mb 26), .ref (mb 27), .ref (mb 28), .ref (mb 29), .ref (mb 30), .ref (mb 31), .ref (mb 32), .int 0, .int 0, .int 0, .int 0, .int 0, .int 0, .int 0, .ref (mb 33), .ref (mb 34), .ref (mb 35), .ref (mb 36), .int 0, .int 0, .int 0, .int 0, .ref (mb 37)]))] H := hP.sub [0] rfl
  have hD9 : va_D A [(mo, .inr (7, [.int 1, .int 0, .int 0, .int 0, .ref (mb 0), .ref (mb 1), .ref (mb 2), .ref (mb 3), .ref (mb 4), .ref (mb 5), .ref (mb 6), .ref (mb 7), .ref (mb 8), .ref (mb 9), .ref (mb 10), .ref (mb 11), .ref (mb 12), .ref (mb 13), .ref (mb 14), .ref (mb 15), .ref (mb 16), .ref (mb 17), .ref (mb 18), .ref (mb 19), .ref (mb 20), .ref (mb 21), .ref (mb 22), .ref (mb 23), .ref (mb 24), .ref (mb 25), .ref (mb 26), .ref (mb 27), .ref (mb 28), .ref (mb 29), .ref (mb 30), .ref (mb 31), .ref (mb 32), .int 0, .int 0, .int 0, .int 0, .int 0, .int 0, .int 0, .ref (mb 33), .ref (mb 34), .ref (mb 35), .ref (mb 36), .int 0, .int 0, .int 0, .int 0, .ref (mb 37)]))] := hD.sub [0] (by decide) rfl
  exact W.zret (v := 0) (ty := .boolean) hx hb hr rfl (fun t ht hW => ⟨⟨0, (), rfl, rfl, by rw [ht]; exact hP9, hD9⟩, hS.F ht⟩) hS.2.2 dMO_joined_33
set_option maxHeartbeats 4000000 in
set_option maxRecDepth 100000 in
theorem zm_order (l : Launch) (dC : Nat → ClassId) (dI : Nat → Nat → Nat) (cI cZ cJ : ClassId) (a0 : Array Value) (s0 : State) (mo : Nat) (mb : Nat → Nat) (sz : Nat) (p0 p1 p2 : Int32) : Met l yMO_order [Cond.code yMO_order bMO_order 8 (some .boolean)] ({ frames := 1, cells := 0, slots := 0, locals := 22 } : Room) (zP zCl dC dI (zTY cI cZ cJ) a0 s0 [.ref mo, .int p0, .int p1, .int p2] sz [(mo, .inr (7, [.int 0, .int 0, .int 0, .int 0, .ref (mb 0), .ref (mb 1), .ref (mb 2), .ref (mb 3), .ref (mb 4), .ref (mb 5), .ref (mb 6), .ref (mb 7), .ref (mb 8), .ref (mb 9), .ref (mb 10), .ref (mb 11), .ref (mb 12), .ref (mb 13), .ref (mb 14), .ref (mb 15), .ref (mb 16), .ref (mb 17), .ref (mb 18), .ref (mb 19), .ref (mb 20), .ref (mb 21), .ref (mb 22), .ref (mb 23), .ref (mb 24), .ref (mb 25), .ref (mb 26), .ref (mb 27), .ref (mb 28), .ref (mb 29), .ref (mb 30), .ref (mb 31), .ref (mb 32), .int 0, .int 0, .int 0, .int 0, .int 0, .int 0, .int 0, .ref (mb 33), .ref (mb 34), .ref (mb 35), .ref (mb 36), .int 0, .int 0, .int 0, .int 0, .ref (mb 37)]))]) (zQi zCl dC dI (fun r => r = 0) [(mo, .inr (7, [.int 1, .int 0, .int 0, .int 0, .ref (mb 0), .ref (mb 1), .ref (mb 2), .ref (mb 3), .ref (mb 4), .ref (mb 5), .ref (mb 6), .ref (mb 7), .ref (mb 8), .ref (mb 9), .ref (mb 10), .ref (mb 11), .ref (mb 12), .ref (mb 13), .ref (mb 14), .ref (mb 15), .ref (mb 16), .ref (mb 17), .ref (mb 18), .ref (mb 19), .ref (mb 20), .ref (mb 21), .ref (mb 22), .ref (mb 23), .ref (mb 24), .ref (mb 25), .ref (mb 26), .ref (mb 27), .ref (mb 28), .ref (mb 29), .ref (mb 30), .ref (mb 31), .ref (mb 32), .int 0, .int 0, .int 0, .int 0, .int 0, .int 0, .int 0, .ref (mb 33), .ref (mb 34), .ref (mb 35), .ref (mb 36), .int 0, .int 0, .int 0, .int 0, .ref (mb 37)]))] (va_A [(mo, .inr (7, [.int 0, .int 0, .int 0, .int 0, .ref (mb 0), .ref (mb 1), .ref (mb 2), .ref (mb 3), .ref (mb 4), .ref (mb 5), .ref (mb 6), .ref (mb 7), .ref (mb 8), .ref (mb 9), .ref (mb 10), .ref (mb 11), .ref (mb 12), .ref (mb 13), .ref (mb 14), .ref (mb 15), .ref (mb 16), .ref (mb 17), .ref (mb 18), .ref (mb 19), .ref (mb 20), .ref (mb 21), .ref (mb 22), .ref (mb 23), .ref (mb 24), .ref (mb 25), .ref (mb 26), .ref (mb 27), .ref (mb 28), .ref (mb 29), .ref (mb 30), .ref (mb 31), .ref (mb 32), .int 0, .int 0, .int 0, .int 0, .int 0, .int 0, .int 0, .ref (mb 33), .ref (mb 34), .ref (mb 35), .ref (mb 36), .int 0, .int 0, .int 0, .int 0, .ref (mb 37)]))] sz)) 0 0 (va_A [(mo, .inr (7, [.int 0, .int 0, .int 0, .int 0, .ref (mb 0), .ref (mb 1), .ref (mb 2), .ref (mb 3), .ref (mb 4), .ref (mb 5), .ref (mb 6), .ref (mb 7), .ref (mb 8), .ref (mb 9), .ref (mb 10), .ref (mb 11), .ref (mb 12), .ref (mb 13), .ref (mb 14), .ref (mb 15), .ref (mb 16), .ref (mb 17), .ref (mb 18), .ref (mb 19), .ref (mb 20), .ref (mb 21), .ref (mb 22), .ref (mb 23), .ref (mb 24), .ref (mb 25), .ref (mb 26), .ref (mb 27), .ref (mb 28), .ref (mb 29), .ref (mb 30), .ref (mb 31), .ref (mb 32), .int 0, .int 0, .int 0, .int 0, .int 0, .int 0, .int 0, .ref (mb 33), .ref (mb 34), .ref (mb 35), .ref (mb 36), .int 0, .int 0, .int 0, .int 0, .ref (mb 37)]))] sz) := by
  refine Met.ofW (cc := bMO_order) (maxL := 8) (ret := (some .boolean)) (by decide) rfl ?_
  intro p e s m args below meth c s₁ B hml hv
  obtain ⟨rfl, hsz, hP, hK, hD0, hB⟩ := hv
  have hx := B.exec
  have hb := B.bytes
  have hr := B.returns
  have hown : s.vm.findClass "RingGuardModel" = some m.cls := findClass_of_methodNamed B.named
  have hlocks := B.notSynchronized
  subst hsz
  have hD := hD0.self (sz := s.heap.size)
  have hA0 := zA0 hD0 hB
  generalize hAe : va_A [(mo, .inr (7, [.int 0, .int 0, .int 0, .int 0, .ref (mb 0), .ref (mb 1), .ref (mb 2), .ref (mb 3), .ref (mb 4), .ref (mb 5), .ref (mb 6), .ref (mb 7), .ref (mb 8), .ref (mb 9), .ref (mb 10), .ref (mb 11), .ref (mb 12), .ref (mb 13), .ref (mb 14), .ref (mb 15), .ref (mb 16), .ref (mb 17), .ref (mb 18), .ref (mb 19), .ref (mb 20), .ref (mb 21), .ref (mb 22), .ref (mb 23), .ref (mb 24), .ref (mb 25), .ref (mb 26), .ref (mb 27), .ref (mb 28), .ref (mb 29), .ref (mb 30), .ref (mb 31), .ref (mb 32), .int 0, .int 0, .int 0, .int 0, .int 0, .int 0, .int 0, .ref (mb 33), .ref (mb 34), .ref (mb 35), .ref (mb 36), .int 0, .int 0, .int 0, .int 0, .ref (mb 37)]))] s.heap.size = A at hD hA0 ⊢
  have hAD := hA0
  have hA : ∀ q : Nat, s.heap.size ≤ q → A q := fun q h => by rw [← hAe]; exact Or.inr h
  have hS : va_S A s.heap s.heap [] := va_S.rf
  have hP : va_P (dC, dI) zCl [(mo, .inr (7, [.int 0, .int 0, .int 0, .int 0, .ref (mb 0), .ref (mb 1), .ref (mb 2), .ref (mb 3), .ref (mb 4), .ref (mb 5), .ref (mb 6), .ref (mb 7), .ref (mb 8), .ref (mb 9), .ref (mb 10), .ref (mb 11), .ref (mb 12), .ref (mb 13), .ref (mb 14), .ref (mb 15), .ref (mb 16), .ref (mb 17), .ref (mb 18), .ref (mb 19), .ref (mb 20), .ref (mb 21), .ref (mb 22), .ref (mb 23), .ref (mb 24), .ref (mb 25), .ref (mb 26), .ref (mb 27), .ref (mb 28), .ref (mb 29), .ref (mb 30), .ref (mb 31), .ref (mb 32), .int 0, .int 0, .int 0, .int 0, .int 0, .int 0, .int 0, .ref (mb 33), .ref (mb 34), .ref (mb 35), .ref (mb 36), .int 0, .int 0, .int 0, .int 0, .ref (mb 37)]))] s.heap := hP
  have hl := lv_entry ([.ref mo, .int p0, .int p1, .int p2]) (n := 8) (Nat.le_of_ble_eq_true rfl)
  rw [lg_entry_eq]
  generalize (lg_sl ([.ref mo, .int p0, .int p1, .int p2]) ++ List.replicate (8 - (lg_sl ([.ref mo, .int p0, .int p1, .int p2])).length) Slot.unset).toArray = ls at hl ⊢
  have hl : lv_has ls 8 [(0, .ref mo), (1, .int p0), (2, .int p1), (3, .int p2)] := hl
  refine lv_aload_n hx hb dMO_order_0 rfl (lv_at hl 0 rfl) ?_
  refine lv_aload_n hx hb dMO_order_1 rfl (lv_at hl 0 rfl) ?_
  refine lv_iload_n hx hb dMO_order_2 rfl (lv_at hl 1 rfl) ?_
  have hPc : va_P (dC, dI) zCl [(mo, .inr (7, [.int 0, .int 0, .int 0, .int 0, .ref (mb 0), .ref (mb 1), .ref (mb 2), .ref (mb 3), .ref (mb 4), .ref (mb 5), .ref (mb 6), .ref (mb 7), .ref (mb 8), .ref (mb 9), .ref (mb 10), .ref (mb 11), .ref (mb 12), .ref (mb 13), .ref (mb 14), .ref (mb 15), .ref (mb 16), .ref (mb 17), .ref (mb 18), .ref (mb 19), .ref (mb 20), .ref (mb 21), .ref (mb 22), .ref (mb 23), .ref (mb 24), .ref (mb 25), .ref (mb 26), .ref (mb 27), .ref (mb 28), .ref (mb 29), .ref (mb 30), .ref (mb 31), .ref (mb 32), .int 0, .int 0, .int 0, .int 0, .int 0, .int 0, .int 0, .ref (mb 33), .ref (mb 34), .ref (mb 35), .ref (mb 36), .int 0, .int 0, .int 0, .int 0, .ref (mb 37)]))] s.heap := hP.sub [0] rfl
  have hDc : va_D A [(mo, .inr (7, [.int 0, .int 0, .int 0, .int 0, .ref (mb 0), .ref (mb 1), .ref (mb 2), .ref (mb 3), .ref (mb 4), .ref (mb 5), .ref (mb 6), .ref (mb 7), .ref (mb 8), .ref (mb 9), .ref (mb 10), .ref (mb 11), .ref (mb 12), .ref (mb 13), .ref (mb 14), .ref (mb 15), .ref (mb 16), .ref (mb 17), .ref (mb 18), .ref (mb 19), .ref (mb 20), .ref (mb 21), .ref (mb 22), .ref (mb 23), .ref (mb 24), .ref (mb 25), .ref (mb 26), .ref (mb 27), .ref (mb 28), .ref (mb 29), .ref (mb 30), .ref (mb 31), .ref (mb 32), .int 0, .int 0, .int 0, .int 0, .int 0, .int 0, .int 0, .ref (mb 33), .ref (mb 34), .ref (mb 35), .ref (mb 36), .int 0, .int 0, .int 0, .int 0, .ref (mb 37)]))] := hD.sub [0] (by decide) rfl
  refine zcallp (va_runV (As := [.int p0]) (rest := [.ref mo]) ⟨hx, hb, hml, hown, zno⟩ (zm_isBridge l dC dI cI cZ cJ a0 s0 mo mb s.heap.size p0) (zcw 1 (hB.word (zm5 k5_49) rfl) (hB.word (zm1 k1_9) rfl) (hB.word (zm5 k5_46) rfl) (hB.word (zm5 k5_48) rfl) (k2_selects_private (by decide) (hB.word (zm4 k4_109) rfl) (hB.word (zm5 k5_47) rfl) (hB.word (zm5 k5_48) rfl)) rfl rfl (by decide +kernel) ⟨Nat.le_of_ble_eq_true rfl, Nat.le_of_ble_eq_true rfl⟩) ⟨zP_blind, va_recv hK hP (ci := 7) (q0 := 0) rfl rfl, zP_pre hPc hK hDc hAD (zB_on hB hA0 hS)⟩ rfl rfl hl.1 rfl (lv_room (Nat.le_of_ble_eq_true rfl)) dMO_order_3 ⟨Nat.le_of_ble_eq_true rfl, Nat.le_of_ble_eq_true rfl⟩) hS hA (fun r1 H1 locs hr1 hz1 hk1 hS => ?_)
  have hP := zKeep hP hk1
  generalize H1 = H at hP hS ⊢
  have hP : va_P (dC, dI) zCl [(mo, .inr (7, [.int 0, .int 0, .int 0, .int 0, .ref (mb 0), .ref (mb 1), .ref (mb 2), .ref (mb 3), .ref (mb 4), .ref (mb 5), .ref (mb 6), .ref (mb 7), .ref (mb 8), .ref (mb 9), .ref (mb 10), .ref (mb 11), .ref (mb 12), .ref (mb 13), .ref (mb 14), .ref (mb 15), .ref (mb 16), .ref (mb 17), .ref (mb 18), .ref (mb 19), .ref (mb 20), .ref (mb 21), .ref (mb 22), .ref (mb 23), .ref (mb 24), .ref (mb 25), .ref (mb 26), .ref (mb 27), .ref (mb 28), .ref (mb 29), .ref (mb 30), .ref (mb 31), .ref (mb 32), .int 0, .int 0, .int 0, .int 0, .int 0, .int 0, .int 0, .ref (mb 33), .ref (mb 34), .ref (mb 35), .ref (mb 36), .int 0, .int 0, .int 0, .int 0, .ref (mb 37)]))] H := hP
  subst hr1
  refine lv_if_eq (tgt := 30) hx hb dMO_order_6 (by decide) (fun _ => ?_) (fun c9 => absurd (by decide) c9)
  refine lv_iconst (v := 0) hx hb dMO_order_30 (by decide) ?_
  refine lv_aload_n hx hb dMO_order_31 rfl (lv_at hl 0 rfl) ?_
  have hu7 : ∀ w ∈ u_ws "RingGuardModel" T_MO 53, w.before ([.ref mo, .int p0, .int p1, .int p2] : List Value).toArray s = true := hB.words zU_MO
  refine va_get (D := (dC, dI)) (ci := 7) (v := .int 0) (C := "RingGuardModel") (T := T_MO) (N := 53) hx hb hu7 zid hown hK hP 0 rfl rfl 1 (by decide) (hB.word (zm4 k4_115) rfl) (fun _ h9 => h9) rfl dMO_order_32 ?_
  have hPc : va_P (dC, dI) zCl [(mo, .inr (7, [.int 0, .int 0, .int 0, .int 0, .ref (mb 0), .ref (mb 1), .ref (mb 2), .ref (mb 3), .ref (mb 4), .ref (mb 5), .ref (mb 6), .ref (mb 7), .ref (mb 8), .ref (mb 9), .ref (mb 10), .ref (mb 11), .ref (mb 12), .ref (mb 13), .ref (mb 14), .ref (mb 15), .ref (mb 16), .ref (mb 17), .ref (mb 18), .ref (mb 19), .ref (mb 20), .ref (mb 21), .ref (mb 22), .ref (mb 23), .ref (mb 24), .ref (mb 25), .ref (mb 26), .ref (mb 27), .ref (mb 28), .ref (mb 29), .ref (mb 30), .ref (mb 31), .ref (mb 32), .int 0, .int 0, .int 0, .int 0, .int 0, .int 0, .int 0, .ref (mb 33), .ref (mb 34), .ref (mb 35), .ref (mb 36), .int 0, .int 0, .int 0, .int 0, .ref (mb 37)]))] H := hP.sub [0] rfl
  have hDc : va_D A [(mo, .inr (7, [.int 0, .int 0, .int 0, .int 0, .ref (mb 0), .ref (mb 1), .ref (mb 2), .ref (mb 3), .ref (mb 4), .ref (mb 5), .ref (mb 6), .ref (mb 7), .ref (mb 8), .ref (mb 9), .ref (mb 10), .ref (mb 11), .ref (mb 12), .ref (mb 13), .ref (mb 14), .ref (mb 15), .ref (mb 16), .ref (mb 17), .ref (mb 18), .ref (mb 19), .ref (mb 20), .ref (mb 21), .ref (mb 22), .ref (mb 23), .ref (mb 24), .ref (mb 25), .ref (mb 26), .ref (mb 27), .ref (mb 28), .ref (mb 29), .ref (mb 30), .ref (mb 31), .ref (mb 32), .int 0, .int 0, .int 0, .int 0, .int 0, .int 0, .int 0, .ref (mb 33), .ref (mb 34), .ref (mb 35), .ref (mb 36), .int 0, .int 0, .int 0, .int 0, .ref (mb 37)]))] := hD.sub [0] (by decide) rfl
  refine zcalli (wr := []) (va_runV (As := [.int 0, .int 0]) (rest := []) ⟨hx, hb, hml, hown, zno⟩ (zm_goes0 l dC dI cI cZ cJ a0 s0 mo mb H.size 0) (zcw 2 (hB.word (zm5 k5_56) rfl) (hB.word (zm1 k1_9) rfl) (hB.word (zm5 k5_53) rfl) (hB.word (zm5 k5_55) rfl) (k2_selects_private (by decide) (hB.word (zm4 k4_109) rfl) (hB.word (zm5 k5_54) rfl) (hB.word (zm5 k5_55) rfl)) rfl rfl (by decide +kernel) ⟨Nat.le_of_ble_eq_true rfl, Nat.le_of_ble_eq_true rfl⟩) ⟨zP_blind, va_recv hK hP (ci := 7) (q0 := 0) rfl rfl, zP_pre hPc hK hDc hAD (zB_on hB hA0 hS)⟩ rfl rfl hl.1 rfl (lv_room (Nat.le_of_ble_eq_true rfl)) dMO_order_35 ⟨Nat.le_of_ble_eq_true rfl, Nat.le_of_ble_eq_true rfl⟩) hP hD hS hA [0] [] rfl rfl (by decide) (by decide) (fun r2 H1 locs hr2 hP hD hS => ?_)
  generalize H1 = H at hP hS ⊢
  have hP : va_P (dC, dI) zCl [(mo, .inr (7, [.int 1, .int 0, .int 0, .int 0, .ref (mb 0), .ref (mb 1), .ref (mb 2), .ref (mb 3), .ref (mb 4), .ref (mb 5), .ref (mb 6), .ref (mb 7), .ref (mb 8), .ref (mb 9), .ref (mb 10), .ref (mb 11), .ref (mb 12), .ref (mb 13), .ref (mb 14), .ref (mb 15), .ref (mb 16), .ref (mb 17), .ref (mb 18), .ref (mb 19), .ref (mb 20), .ref (mb 21), .ref (mb 22), .ref (mb 23), .ref (mb 24), .ref (mb 25), .ref (mb 26), .ref (mb 27), .ref (mb 28), .ref (mb 29), .ref (mb 30), .ref (mb 31), .ref (mb 32), .int 0, .int 0, .int 0, .int 0, .int 0, .int 0, .int 0, .ref (mb 33), .ref (mb 34), .ref (mb 35), .ref (mb 36), .int 0, .int 0, .int 0, .int 0, .ref (mb 37)]))] H := hP
  have hD : va_D A [(mo, .inr (7, [.int 1, .int 0, .int 0, .int 0, .ref (mb 0), .ref (mb 1), .ref (mb 2), .ref (mb 3), .ref (mb 4), .ref (mb 5), .ref (mb 6), .ref (mb 7), .ref (mb 8), .ref (mb 9), .ref (mb 10), .ref (mb 11), .ref (mb 12), .ref (mb 13), .ref (mb 14), .ref (mb 15), .ref (mb 16), .ref (mb 17), .ref (mb 18), .ref (mb 19), .ref (mb 20), .ref (mb 21), .ref (mb 22), .ref (mb 23), .ref (mb 24), .ref (mb 25), .ref (mb 26), .ref (mb 27), .ref (mb 28), .ref (mb 29), .ref (mb 30), .ref (mb 31), .ref (mb 32), .int 0, .int 0, .int 0, .int 0, .int 0, .int 0, .int 0, .ref (mb 33), .ref (mb 34), .ref (mb 35), .ref (mb 36), .int 0, .int 0, .int 0, .int 0, .ref (mb 37)]))] := hD
  subst hr2
  refine lv_if_ne (tgt := 43) hx hb dMO_order_38 (by decide) (fun c9 => absurd (by decide) c9) (fun _ => ?_)
  refine lv_iconst (v := 0) hx hb dMO_order_41 (by decide) ?_
  refine W.widen (k := 0) (n := 0) (Nat.le_of_ble_eq_true rfl) (Nat.le_of_ble_eq_true rfl) ?_
  have hP9 : va_P (dC, dI) zCl [(mo, .inr (7, [.int 1, .int 0, .int 0, .int 0, .ref (mb 0), .ref (mb 1), .ref (mb 2), .ref (mb 3), .ref (mb 4), .ref (mb 5), .ref (mb 6), .ref (mb 7), .ref (mb 8), .ref (mb 9), .ref (mb 10), .ref (mb 11), .ref (mb 12), .ref (mb 13), .ref (mb 14), .ref (mb 15), .ref (mb 16), .ref (mb 17), .ref (mb 18), .ref (mb 19), .ref (mb 20), .ref (mb 21), .ref (mb 22), .ref (mb 23), .ref (mb 24), .ref (mb 25), .ref (mb 26), .ref (mb 27), .ref (mb 28), .ref (mb 29), .ref (mb 30), .ref (mb 31), .ref (mb 32), .int 0, .int 0, .int 0, .int 0, .int 0, .int 0, .int 0, .ref (mb 33), .ref (mb 34), .ref (mb 35), .ref (mb 36), .int 0, .int 0, .int 0, .int 0, .ref (mb 37)]))] H := hP.sub [0] rfl
  have hD9 : va_D A [(mo, .inr (7, [.int 1, .int 0, .int 0, .int 0, .ref (mb 0), .ref (mb 1), .ref (mb 2), .ref (mb 3), .ref (mb 4), .ref (mb 5), .ref (mb 6), .ref (mb 7), .ref (mb 8), .ref (mb 9), .ref (mb 10), .ref (mb 11), .ref (mb 12), .ref (mb 13), .ref (mb 14), .ref (mb 15), .ref (mb 16), .ref (mb 17), .ref (mb 18), .ref (mb 19), .ref (mb 20), .ref (mb 21), .ref (mb 22), .ref (mb 23), .ref (mb 24), .ref (mb 25), .ref (mb 26), .ref (mb 27), .ref (mb 28), .ref (mb 29), .ref (mb 30), .ref (mb 31), .ref (mb 32), .int 0, .int 0, .int 0, .int 0, .int 0, .int 0, .int 0, .ref (mb 33), .ref (mb 34), .ref (mb 35), .ref (mb 36), .int 0, .int 0, .int 0, .int 0, .ref (mb 37)]))] := hD.sub [0] (by decide) rfl
  exact W.zret (v := 0) (ty := .boolean) hx hb hr rfl (fun t ht hW => ⟨⟨0, (), rfl, rfl, by rw [ht]; exact hP9, hD9⟩, hS.F ht⟩) hS.2.2 dMO_order_42
set_option maxHeartbeats 4000000 in
set_option maxRecDepth 100000 in
theorem zm_told (l : Launch) (dC : Nat → ClassId) (dI : Nat → Nat → Nat) (cI cZ cJ : ClassId) (a0 : Array Value) (s0 : State) (mo : Nat) (mb : Nat → Nat) (sz : Nat) (p0 p1 p2 : Int32) : Met l yMO_told [Cond.code yMO_told bMO_told 4 (some .int)] ({ frames := 1, cells := 0, slots := 0, locals := 21 } : Room) (zP zCl dC dI (zTY cI cZ cJ) a0 s0 [.ref mo, .int p0, .int p1, .int p2] sz [(mo, .inr (7, [.int 0, .int 0, .int 0, .int 0, .ref (mb 0), .ref (mb 1), .ref (mb 2), .ref (mb 3), .ref (mb 4), .ref (mb 5), .ref (mb 6), .ref (mb 7), .ref (mb 8), .ref (mb 9), .ref (mb 10), .ref (mb 11), .ref (mb 12), .ref (mb 13), .ref (mb 14), .ref (mb 15), .ref (mb 16), .ref (mb 17), .ref (mb 18), .ref (mb 19), .ref (mb 20), .ref (mb 21), .ref (mb 22), .ref (mb 23), .ref (mb 24), .ref (mb 25), .ref (mb 26), .ref (mb 27), .ref (mb 28), .ref (mb 29), .ref (mb 30), .ref (mb 31), .ref (mb 32), .int 0, .int 0, .int 0, .int 0, .int 0, .int 0, .int 0, .ref (mb 33), .ref (mb 34), .ref (mb 35), .ref (mb 36), .int 0, .int 0, .int 0, .int 0, .ref (mb 37)]))]) (zQi zCl dC dI (fun r => r = 0) [(mo, .inr (7, [.int 1, .int 0, .int 0, .int 0, .ref (mb 0), .ref (mb 1), .ref (mb 2), .ref (mb 3), .ref (mb 4), .ref (mb 5), .ref (mb 6), .ref (mb 7), .ref (mb 8), .ref (mb 9), .ref (mb 10), .ref (mb 11), .ref (mb 12), .ref (mb 13), .ref (mb 14), .ref (mb 15), .ref (mb 16), .ref (mb 17), .ref (mb 18), .ref (mb 19), .ref (mb 20), .ref (mb 21), .ref (mb 22), .ref (mb 23), .ref (mb 24), .ref (mb 25), .ref (mb 26), .ref (mb 27), .ref (mb 28), .ref (mb 29), .ref (mb 30), .ref (mb 31), .ref (mb 32), .int 0, .int 0, .int 0, .int 0, .int 0, .int 0, .int 0, .ref (mb 33), .ref (mb 34), .ref (mb 35), .ref (mb 36), .int 0, .int 0, .int 0, .int 0, .ref (mb 37)]))] (va_A [(mo, .inr (7, [.int 0, .int 0, .int 0, .int 0, .ref (mb 0), .ref (mb 1), .ref (mb 2), .ref (mb 3), .ref (mb 4), .ref (mb 5), .ref (mb 6), .ref (mb 7), .ref (mb 8), .ref (mb 9), .ref (mb 10), .ref (mb 11), .ref (mb 12), .ref (mb 13), .ref (mb 14), .ref (mb 15), .ref (mb 16), .ref (mb 17), .ref (mb 18), .ref (mb 19), .ref (mb 20), .ref (mb 21), .ref (mb 22), .ref (mb 23), .ref (mb 24), .ref (mb 25), .ref (mb 26), .ref (mb 27), .ref (mb 28), .ref (mb 29), .ref (mb 30), .ref (mb 31), .ref (mb 32), .int 0, .int 0, .int 0, .int 0, .int 0, .int 0, .int 0, .ref (mb 33), .ref (mb 34), .ref (mb 35), .ref (mb 36), .int 0, .int 0, .int 0, .int 0, .ref (mb 37)]))] sz)) 0 0 (va_A [(mo, .inr (7, [.int 0, .int 0, .int 0, .int 0, .ref (mb 0), .ref (mb 1), .ref (mb 2), .ref (mb 3), .ref (mb 4), .ref (mb 5), .ref (mb 6), .ref (mb 7), .ref (mb 8), .ref (mb 9), .ref (mb 10), .ref (mb 11), .ref (mb 12), .ref (mb 13), .ref (mb 14), .ref (mb 15), .ref (mb 16), .ref (mb 17), .ref (mb 18), .ref (mb 19), .ref (mb 20), .ref (mb 21), .ref (mb 22), .ref (mb 23), .ref (mb 24), .ref (mb 25), .ref (mb 26), .ref (mb 27), .ref (mb 28), .ref (mb 29), .ref (mb 30), .ref (mb 31), .ref (mb 32), .int 0, .int 0, .int 0, .int 0, .int 0, .int 0, .int 0, .ref (mb 33), .ref (mb 34), .ref (mb 35), .ref (mb 36), .int 0, .int 0, .int 0, .int 0, .ref (mb 37)]))] sz) := by
  refine Met.ofW (cc := bMO_told) (maxL := 4) (ret := (some .int)) (by decide) rfl ?_
  intro p e s m args below meth c s₁ B hml hv
  obtain ⟨rfl, hsz, hP, hK, hD0, hB⟩ := hv
  have hx := B.exec
  have hb := B.bytes
  have hr := B.returns
  have hown : s.vm.findClass "RingGuardModel" = some m.cls := findClass_of_methodNamed B.named
  have hlocks := B.notSynchronized
  subst hsz
  have hD := hD0.self (sz := s.heap.size)
  have hA0 := zA0 hD0 hB
  generalize hAe : va_A [(mo, .inr (7, [.int 0, .int 0, .int 0, .int 0, .ref (mb 0), .ref (mb 1), .ref (mb 2), .ref (mb 3), .ref (mb 4), .ref (mb 5), .ref (mb 6), .ref (mb 7), .ref (mb 8), .ref (mb 9), .ref (mb 10), .ref (mb 11), .ref (mb 12), .ref (mb 13), .ref (mb 14), .ref (mb 15), .ref (mb 16), .ref (mb 17), .ref (mb 18), .ref (mb 19), .ref (mb 20), .ref (mb 21), .ref (mb 22), .ref (mb 23), .ref (mb 24), .ref (mb 25), .ref (mb 26), .ref (mb 27), .ref (mb 28), .ref (mb 29), .ref (mb 30), .ref (mb 31), .ref (mb 32), .int 0, .int 0, .int 0, .int 0, .int 0, .int 0, .int 0, .ref (mb 33), .ref (mb 34), .ref (mb 35), .ref (mb 36), .int 0, .int 0, .int 0, .int 0, .ref (mb 37)]))] s.heap.size = A at hD hA0 ⊢
  have hAD := hA0
  have hA : ∀ q : Nat, s.heap.size ≤ q → A q := fun q h => by rw [← hAe]; exact Or.inr h
  have hS : va_S A s.heap s.heap [] := va_S.rf
  have hP : va_P (dC, dI) zCl [(mo, .inr (7, [.int 0, .int 0, .int 0, .int 0, .ref (mb 0), .ref (mb 1), .ref (mb 2), .ref (mb 3), .ref (mb 4), .ref (mb 5), .ref (mb 6), .ref (mb 7), .ref (mb 8), .ref (mb 9), .ref (mb 10), .ref (mb 11), .ref (mb 12), .ref (mb 13), .ref (mb 14), .ref (mb 15), .ref (mb 16), .ref (mb 17), .ref (mb 18), .ref (mb 19), .ref (mb 20), .ref (mb 21), .ref (mb 22), .ref (mb 23), .ref (mb 24), .ref (mb 25), .ref (mb 26), .ref (mb 27), .ref (mb 28), .ref (mb 29), .ref (mb 30), .ref (mb 31), .ref (mb 32), .int 0, .int 0, .int 0, .int 0, .int 0, .int 0, .int 0, .ref (mb 33), .ref (mb 34), .ref (mb 35), .ref (mb 36), .int 0, .int 0, .int 0, .int 0, .ref (mb 37)]))] s.heap := hP
  have hl := lv_entry ([.ref mo, .int p0, .int p1, .int p2]) (n := 4) (Nat.le_of_ble_eq_true rfl)
  rw [lg_entry_eq]
  generalize (lg_sl ([.ref mo, .int p0, .int p1, .int p2]) ++ List.replicate (4 - (lg_sl ([.ref mo, .int p0, .int p1, .int p2])).length) Slot.unset).toArray = ls at hl ⊢
  have hl : lv_has ls 4 [(0, .ref mo), (1, .int p0), (2, .int p1), (3, .int p2)] := hl
  refine lv_aload_n hx hb dMO_told_0 rfl (lv_at hl 0 rfl) ?_
  refine lv_aload_n hx hb dMO_told_1 rfl (lv_at hl 0 rfl) ?_
  refine lv_iload_n hx hb dMO_told_2 rfl (lv_at hl 1 rfl) ?_
  have hPc : va_P (dC, dI) zCl [(mo, .inr (7, [.int 0, .int 0, .int 0, .int 0, .ref (mb 0), .ref (mb 1), .ref (mb 2), .ref (mb 3), .ref (mb 4), .ref (mb 5), .ref (mb 6), .ref (mb 7), .ref (mb 8), .ref (mb 9), .ref (mb 10), .ref (mb 11), .ref (mb 12), .ref (mb 13), .ref (mb 14), .ref (mb 15), .ref (mb 16), .ref (mb 17), .ref (mb 18), .ref (mb 19), .ref (mb 20), .ref (mb 21), .ref (mb 22), .ref (mb 23), .ref (mb 24), .ref (mb 25), .ref (mb 26), .ref (mb 27), .ref (mb 28), .ref (mb 29), .ref (mb 30), .ref (mb 31), .ref (mb 32), .int 0, .int 0, .int 0, .int 0, .int 0, .int 0, .int 0, .ref (mb 33), .ref (mb 34), .ref (mb 35), .ref (mb 36), .int 0, .int 0, .int 0, .int 0, .ref (mb 37)]))] s.heap := hP.sub [0] rfl
  have hDc : va_D A [(mo, .inr (7, [.int 0, .int 0, .int 0, .int 0, .ref (mb 0), .ref (mb 1), .ref (mb 2), .ref (mb 3), .ref (mb 4), .ref (mb 5), .ref (mb 6), .ref (mb 7), .ref (mb 8), .ref (mb 9), .ref (mb 10), .ref (mb 11), .ref (mb 12), .ref (mb 13), .ref (mb 14), .ref (mb 15), .ref (mb 16), .ref (mb 17), .ref (mb 18), .ref (mb 19), .ref (mb 20), .ref (mb 21), .ref (mb 22), .ref (mb 23), .ref (mb 24), .ref (mb 25), .ref (mb 26), .ref (mb 27), .ref (mb 28), .ref (mb 29), .ref (mb 30), .ref (mb 31), .ref (mb 32), .int 0, .int 0, .int 0, .int 0, .int 0, .int 0, .int 0, .ref (mb 33), .ref (mb 34), .ref (mb 35), .ref (mb 36), .int 0, .int 0, .int 0, .int 0, .ref (mb 37)]))] := hD.sub [0] (by decide) rfl
  refine zcallp (va_runV (As := [.int p0]) (rest := [.ref mo]) ⟨hx, hb, hml, hown, zno⟩ (zm_isBridge l dC dI cI cZ cJ a0 s0 mo mb s.heap.size p0) (zcw 1 (hB.word (zm5 k5_49) rfl) (hB.word (zm1 k1_9) rfl) (hB.word (zm5 k5_46) rfl) (hB.word (zm5 k5_48) rfl) (k2_selects_private (by decide) (hB.word (zm4 k4_109) rfl) (hB.word (zm5 k5_47) rfl) (hB.word (zm5 k5_48) rfl)) rfl rfl (by decide +kernel) ⟨Nat.le_of_ble_eq_true rfl, Nat.le_of_ble_eq_true rfl⟩) ⟨zP_blind, va_recv hK hP (ci := 7) (q0 := 0) rfl rfl, zP_pre hPc hK hDc hAD (zB_on hB hA0 hS)⟩ rfl rfl hl.1 rfl (lv_room (Nat.le_of_ble_eq_true rfl)) dMO_told_3 ⟨Nat.le_of_ble_eq_true rfl, Nat.le_of_ble_eq_true rfl⟩) hS hA (fun r1 H1 locs hr1 hz1 hk1 hS => ?_)
  have hP := zKeep hP hk1
  generalize H1 = H at hP hS ⊢
  have hP : va_P (dC, dI) zCl [(mo, .inr (7, [.int 0, .int 0, .int 0, .int 0, .ref (mb 0), .ref (mb 1), .ref (mb 2), .ref (mb 3), .ref (mb 4), .ref (mb 5), .ref (mb 6), .ref (mb 7), .ref (mb 8), .ref (mb 9), .ref (mb 10), .ref (mb 11), .ref (mb 12), .ref (mb 13), .ref (mb 14), .ref (mb 15), .ref (mb 16), .ref (mb 17), .ref (mb 18), .ref (mb 19), .ref (mb 20), .ref (mb 21), .ref (mb 22), .ref (mb 23), .ref (mb 24), .ref (mb 25), .ref (mb 26), .ref (mb 27), .ref (mb 28), .ref (mb 29), .ref (mb 30), .ref (mb 31), .ref (mb 32), .int 0, .int 0, .int 0, .int 0, .int 0, .int 0, .int 0, .ref (mb 33), .ref (mb 34), .ref (mb 35), .ref (mb 36), .int 0, .int 0, .int 0, .int 0, .ref (mb 37)]))] H := hP
  subst hr1
  refine lv_if_eq (tgt := 29) hx hb dMO_told_6 (by decide) (fun _ => ?_) (fun c9 => absurd (by decide) c9)
  refine lv_iconst (v := 1) hx hb dMO_told_29 (by decide) ?_
  have hu7 : ∀ w ∈ u_ws "RingGuardModel" T_MO 53, w.before ([.ref mo, .int p0, .int p1, .int p2] : List Value).toArray s = true := hB.words zU_MO
  refine va_put (D := (dC, dI)) (ci := 7) (v := .int 1) (ty := .int) (C := "RingGuardModel") (T := T_MO) (N := 53) hx hb hu7 zid ty_MO ok_MO nm_MO hown hK hP hD hS 0 rfl rfl 0 (by decide) (hB.word (zm4 k4_114) rfl) (fun _ h9 => h9) rfl (by decide +kernel) rfl rfl (Nat.le_of_ble_eq_true rfl) dMO_told_30 (fun H locs hP hD hS => ?_)
  have hP : va_P (dC, dI) zCl [(mo, .inr (7, [.int 1, .int 0, .int 0, .int 0, .ref (mb 0), .ref (mb 1), .ref (mb 2), .ref (mb 3), .ref (mb 4), .ref (mb 5), .ref (mb 6), .ref (mb 7), .ref (mb 8), .ref (mb 9), .ref (mb 10), .ref (mb 11), .ref (mb 12), .ref (mb 13), .ref (mb 14), .ref (mb 15), .ref (mb 16), .ref (mb 17), .ref (mb 18), .ref (mb 19), .ref (mb 20), .ref (mb 21), .ref (mb 22), .ref (mb 23), .ref (mb 24), .ref (mb 25), .ref (mb 26), .ref (mb 27), .ref (mb 28), .ref (mb 29), .ref (mb 30), .ref (mb 31), .ref (mb 32), .int 0, .int 0, .int 0, .int 0, .int 0, .int 0, .int 0, .ref (mb 33), .ref (mb 34), .ref (mb 35), .ref (mb 36), .int 0, .int 0, .int 0, .int 0, .ref (mb 37)]))] H := hP
  have hD : va_D A [(mo, .inr (7, [.int 1, .int 0, .int 0, .int 0, .ref (mb 0), .ref (mb 1), .ref (mb 2), .ref (mb 3), .ref (mb 4), .ref (mb 5), .ref (mb 6), .ref (mb 7), .ref (mb 8), .ref (mb 9), .ref (mb 10), .ref (mb 11), .ref (mb 12), .ref (mb 13), .ref (mb 14), .ref (mb 15), .ref (mb 16), .ref (mb 17), .ref (mb 18), .ref (mb 19), .ref (mb 20), .ref (mb 21), .ref (mb 22), .ref (mb 23), .ref (mb 24), .ref (mb 25), .ref (mb 26), .ref (mb 27), .ref (mb 28), .ref (mb 29), .ref (mb 30), .ref (mb 31), .ref (mb 32), .int 0, .int 0, .int 0, .int 0, .int 0, .int 0, .int 0, .ref (mb 33), .ref (mb 34), .ref (mb 35), .ref (mb 36), .int 0, .int 0, .int 0, .int 0, .ref (mb 37)]))] := hD
  refine lv_aload_n hx hb dMO_told_33 rfl (lv_at hl 0 rfl) ?_
  refine va_get (D := (dC, dI)) (ci := 7) (v := .int 1) (C := "RingGuardModel") (T := T_MO) (N := 53) hx hb hu7 zid hown hK hP 0 rfl rfl 0 (by decide) (hB.word (zm4 k4_114) rfl) (fun _ h9 => h9) rfl dMO_told_34 ?_
  refine lv_if_le (tgt := 42) hx hb dMO_told_37 (by decide) (fun c9 => absurd c9 (by decide)) (fun _ => ?_)
  refine lv_iconst (v := 0) hx hb dMO_told_40 (by decide) ?_
  refine W.widen (k := 0) (n := 0) (Nat.le_of_ble_eq_true rfl) (Nat.le_of_ble_eq_true rfl) ?_
  have hP9 : va_P (dC, dI) zCl [(mo, .inr (7, [.int 1, .int 0, .int 0, .int 0, .ref (mb 0), .ref (mb 1), .ref (mb 2), .ref (mb 3), .ref (mb 4), .ref (mb 5), .ref (mb 6), .ref (mb 7), .ref (mb 8), .ref (mb 9), .ref (mb 10), .ref (mb 11), .ref (mb 12), .ref (mb 13), .ref (mb 14), .ref (mb 15), .ref (mb 16), .ref (mb 17), .ref (mb 18), .ref (mb 19), .ref (mb 20), .ref (mb 21), .ref (mb 22), .ref (mb 23), .ref (mb 24), .ref (mb 25), .ref (mb 26), .ref (mb 27), .ref (mb 28), .ref (mb 29), .ref (mb 30), .ref (mb 31), .ref (mb 32), .int 0, .int 0, .int 0, .int 0, .int 0, .int 0, .int 0, .ref (mb 33), .ref (mb 34), .ref (mb 35), .ref (mb 36), .int 0, .int 0, .int 0, .int 0, .ref (mb 37)]))] H := hP.sub [0] rfl
  have hD9 : va_D A [(mo, .inr (7, [.int 1, .int 0, .int 0, .int 0, .ref (mb 0), .ref (mb 1), .ref (mb 2), .ref (mb 3), .ref (mb 4), .ref (mb 5), .ref (mb 6), .ref (mb 7), .ref (mb 8), .ref (mb 9), .ref (mb 10), .ref (mb 11), .ref (mb 12), .ref (mb 13), .ref (mb 14), .ref (mb 15), .ref (mb 16), .ref (mb 17), .ref (mb 18), .ref (mb 19), .ref (mb 20), .ref (mb 21), .ref (mb 22), .ref (mb 23), .ref (mb 24), .ref (mb 25), .ref (mb 26), .ref (mb 27), .ref (mb 28), .ref (mb 29), .ref (mb 30), .ref (mb 31), .ref (mb 32), .int 0, .int 0, .int 0, .int 0, .int 0, .int 0, .int 0, .ref (mb 33), .ref (mb 34), .ref (mb 35), .ref (mb 36), .int 0, .int 0, .int 0, .int 0, .ref (mb 37)]))] := hD.sub [0] (by decide) rfl
  exact W.iret (v := 0) hx hb hr (fun t ht hW => ⟨⟨0, (), rfl, rfl, by rw [ht]; exact hP9, hD9⟩, hS.F ht⟩) hS.2.2 dMO_told_41
set_option maxHeartbeats 4000000 in
set_option maxRecDepth 100000 in
theorem zm_learned (l : Launch) (dC : Nat → ClassId) (dI : Nat → Nat → Nat) (cI cZ cJ : ClassId) (a0 : Array Value) (s0 : State) (mo : Nat) (mb : Nat → Nat) (sz : Nat) (p0 p1 p2 : Int32) : Met l yMO_learned [Cond.code yMO_learned bMO_learned 4 (some .int)] ({ frames := 1, cells := 0, slots := 0, locals := 21 } : Room) (zP zCl dC dI (zTY cI cZ cJ) a0 s0 [.ref mo, .int p0, .int p1, .int p2] sz [(mo, .inr (7, [.int 0, .int 0, .int 0, .int 0, .ref (mb 0), .ref (mb 1), .ref (mb 2), .ref (mb 3), .ref (mb 4), .ref (mb 5), .ref (mb 6), .ref (mb 7), .ref (mb 8), .ref (mb 9), .ref (mb 10), .ref (mb 11), .ref (mb 12), .ref (mb 13), .ref (mb 14), .ref (mb 15), .ref (mb 16), .ref (mb 17), .ref (mb 18), .ref (mb 19), .ref (mb 20), .ref (mb 21), .ref (mb 22), .ref (mb 23), .ref (mb 24), .ref (mb 25), .ref (mb 26), .ref (mb 27), .ref (mb 28), .ref (mb 29), .ref (mb 30), .ref (mb 31), .ref (mb 32), .int 0, .int 0, .int 0, .int 0, .int 0, .int 0, .int 0, .ref (mb 33), .ref (mb 34), .ref (mb 35), .ref (mb 36), .int 0, .int 0, .int 0, .int 0, .ref (mb 37)]))]) (zQi zCl dC dI (fun r => r = (-1)) [(mo, .inr (7, [.int 1, .int 0, .int 0, .int 0, .ref (mb 0), .ref (mb 1), .ref (mb 2), .ref (mb 3), .ref (mb 4), .ref (mb 5), .ref (mb 6), .ref (mb 7), .ref (mb 8), .ref (mb 9), .ref (mb 10), .ref (mb 11), .ref (mb 12), .ref (mb 13), .ref (mb 14), .ref (mb 15), .ref (mb 16), .ref (mb 17), .ref (mb 18), .ref (mb 19), .ref (mb 20), .ref (mb 21), .ref (mb 22), .ref (mb 23), .ref (mb 24), .ref (mb 25), .ref (mb 26), .ref (mb 27), .ref (mb 28), .ref (mb 29), .ref (mb 30), .ref (mb 31), .ref (mb 32), .int 0, .int 0, .int 0, .int 0, .int 0, .int 0, .int 0, .ref (mb 33), .ref (mb 34), .ref (mb 35), .ref (mb 36), .int 0, .int 0, .int 0, .int 0, .ref (mb 37)]))] (va_A [(mo, .inr (7, [.int 0, .int 0, .int 0, .int 0, .ref (mb 0), .ref (mb 1), .ref (mb 2), .ref (mb 3), .ref (mb 4), .ref (mb 5), .ref (mb 6), .ref (mb 7), .ref (mb 8), .ref (mb 9), .ref (mb 10), .ref (mb 11), .ref (mb 12), .ref (mb 13), .ref (mb 14), .ref (mb 15), .ref (mb 16), .ref (mb 17), .ref (mb 18), .ref (mb 19), .ref (mb 20), .ref (mb 21), .ref (mb 22), .ref (mb 23), .ref (mb 24), .ref (mb 25), .ref (mb 26), .ref (mb 27), .ref (mb 28), .ref (mb 29), .ref (mb 30), .ref (mb 31), .ref (mb 32), .int 0, .int 0, .int 0, .int 0, .int 0, .int 0, .int 0, .ref (mb 33), .ref (mb 34), .ref (mb 35), .ref (mb 36), .int 0, .int 0, .int 0, .int 0, .ref (mb 37)]))] sz)) 0 0 (va_A [(mo, .inr (7, [.int 0, .int 0, .int 0, .int 0, .ref (mb 0), .ref (mb 1), .ref (mb 2), .ref (mb 3), .ref (mb 4), .ref (mb 5), .ref (mb 6), .ref (mb 7), .ref (mb 8), .ref (mb 9), .ref (mb 10), .ref (mb 11), .ref (mb 12), .ref (mb 13), .ref (mb 14), .ref (mb 15), .ref (mb 16), .ref (mb 17), .ref (mb 18), .ref (mb 19), .ref (mb 20), .ref (mb 21), .ref (mb 22), .ref (mb 23), .ref (mb 24), .ref (mb 25), .ref (mb 26), .ref (mb 27), .ref (mb 28), .ref (mb 29), .ref (mb 30), .ref (mb 31), .ref (mb 32), .int 0, .int 0, .int 0, .int 0, .int 0, .int 0, .int 0, .ref (mb 33), .ref (mb 34), .ref (mb 35), .ref (mb 36), .int 0, .int 0, .int 0, .int 0, .ref (mb 37)]))] sz) := by
  refine Met.ofW (cc := bMO_learned) (maxL := 4) (ret := (some .int)) (by decide) rfl ?_
  intro p e s m args below meth c s₁ B hml hv
  obtain ⟨rfl, hsz, hP, hK, hD0, hB⟩ := hv
  have hx := B.exec
  have hb := B.bytes
  have hr := B.returns
  have hown : s.vm.findClass "RingGuardModel" = some m.cls := findClass_of_methodNamed B.named
  have hlocks := B.notSynchronized
  subst hsz
  have hD := hD0.self (sz := s.heap.size)
  have hA0 := zA0 hD0 hB
  generalize hAe : va_A [(mo, .inr (7, [.int 0, .int 0, .int 0, .int 0, .ref (mb 0), .ref (mb 1), .ref (mb 2), .ref (mb 3), .ref (mb 4), .ref (mb 5), .ref (mb 6), .ref (mb 7), .ref (mb 8), .ref (mb 9), .ref (mb 10), .ref (mb 11), .ref (mb 12), .ref (mb 13), .ref (mb 14), .ref (mb 15), .ref (mb 16), .ref (mb 17), .ref (mb 18), .ref (mb 19), .ref (mb 20), .ref (mb 21), .ref (mb 22), .ref (mb 23), .ref (mb 24), .ref (mb 25), .ref (mb 26), .ref (mb 27), .ref (mb 28), .ref (mb 29), .ref (mb 30), .ref (mb 31), .ref (mb 32), .int 0, .int 0, .int 0, .int 0, .int 0, .int 0, .int 0, .ref (mb 33), .ref (mb 34), .ref (mb 35), .ref (mb 36), .int 0, .int 0, .int 0, .int 0, .ref (mb 37)]))] s.heap.size = A at hD hA0 ⊢
  have hAD := hA0
  have hA : ∀ q : Nat, s.heap.size ≤ q → A q := fun q h => by rw [← hAe]; exact Or.inr h
  have hS : va_S A s.heap s.heap [] := va_S.rf
  have hP : va_P (dC, dI) zCl [(mo, .inr (7, [.int 0, .int 0, .int 0, .int 0, .ref (mb 0), .ref (mb 1), .ref (mb 2), .ref (mb 3), .ref (mb 4), .ref (mb 5), .ref (mb 6), .ref (mb 7), .ref (mb 8), .ref (mb 9), .ref (mb 10), .ref (mb 11), .ref (mb 12), .ref (mb 13), .ref (mb 14), .ref (mb 15), .ref (mb 16), .ref (mb 17), .ref (mb 18), .ref (mb 19), .ref (mb 20), .ref (mb 21), .ref (mb 22), .ref (mb 23), .ref (mb 24), .ref (mb 25), .ref (mb 26), .ref (mb 27), .ref (mb 28), .ref (mb 29), .ref (mb 30), .ref (mb 31), .ref (mb 32), .int 0, .int 0, .int 0, .int 0, .int 0, .int 0, .int 0, .ref (mb 33), .ref (mb 34), .ref (mb 35), .ref (mb 36), .int 0, .int 0, .int 0, .int 0, .ref (mb 37)]))] s.heap := hP
  have hl := lv_entry ([.ref mo, .int p0, .int p1, .int p2]) (n := 4) (Nat.le_of_ble_eq_true rfl)
  rw [lg_entry_eq]
  generalize (lg_sl ([.ref mo, .int p0, .int p1, .int p2]) ++ List.replicate (4 - (lg_sl ([.ref mo, .int p0, .int p1, .int p2])).length) Slot.unset).toArray = ls at hl ⊢
  have hl : lv_has ls 4 [(0, .ref mo), (1, .int p0), (2, .int p1), (3, .int p2)] := hl
  refine lv_aload_n hx hb dMO_learned_0 rfl (lv_at hl 0 rfl) ?_
  refine lv_aload_n hx hb dMO_learned_1 rfl (lv_at hl 0 rfl) ?_
  refine lv_iload_n hx hb dMO_learned_2 rfl (lv_at hl 1 rfl) ?_
  have hPc : va_P (dC, dI) zCl [(mo, .inr (7, [.int 0, .int 0, .int 0, .int 0, .ref (mb 0), .ref (mb 1), .ref (mb 2), .ref (mb 3), .ref (mb 4), .ref (mb 5), .ref (mb 6), .ref (mb 7), .ref (mb 8), .ref (mb 9), .ref (mb 10), .ref (mb 11), .ref (mb 12), .ref (mb 13), .ref (mb 14), .ref (mb 15), .ref (mb 16), .ref (mb 17), .ref (mb 18), .ref (mb 19), .ref (mb 20), .ref (mb 21), .ref (mb 22), .ref (mb 23), .ref (mb 24), .ref (mb 25), .ref (mb 26), .ref (mb 27), .ref (mb 28), .ref (mb 29), .ref (mb 30), .ref (mb 31), .ref (mb 32), .int 0, .int 0, .int 0, .int 0, .int 0, .int 0, .int 0, .ref (mb 33), .ref (mb 34), .ref (mb 35), .ref (mb 36), .int 0, .int 0, .int 0, .int 0, .ref (mb 37)]))] s.heap := hP.sub [0] rfl
  have hDc : va_D A [(mo, .inr (7, [.int 0, .int 0, .int 0, .int 0, .ref (mb 0), .ref (mb 1), .ref (mb 2), .ref (mb 3), .ref (mb 4), .ref (mb 5), .ref (mb 6), .ref (mb 7), .ref (mb 8), .ref (mb 9), .ref (mb 10), .ref (mb 11), .ref (mb 12), .ref (mb 13), .ref (mb 14), .ref (mb 15), .ref (mb 16), .ref (mb 17), .ref (mb 18), .ref (mb 19), .ref (mb 20), .ref (mb 21), .ref (mb 22), .ref (mb 23), .ref (mb 24), .ref (mb 25), .ref (mb 26), .ref (mb 27), .ref (mb 28), .ref (mb 29), .ref (mb 30), .ref (mb 31), .ref (mb 32), .int 0, .int 0, .int 0, .int 0, .int 0, .int 0, .int 0, .ref (mb 33), .ref (mb 34), .ref (mb 35), .ref (mb 36), .int 0, .int 0, .int 0, .int 0, .ref (mb 37)]))] := hD.sub [0] (by decide) rfl
  refine zcallp (va_runV (As := [.int p0]) (rest := [.ref mo]) ⟨hx, hb, hml, hown, zno⟩ (zm_isBridge l dC dI cI cZ cJ a0 s0 mo mb s.heap.size p0) (zcw 1 (hB.word (zm5 k5_49) rfl) (hB.word (zm1 k1_9) rfl) (hB.word (zm5 k5_46) rfl) (hB.word (zm5 k5_48) rfl) (k2_selects_private (by decide) (hB.word (zm4 k4_109) rfl) (hB.word (zm5 k5_47) rfl) (hB.word (zm5 k5_48) rfl)) rfl rfl (by decide +kernel) ⟨Nat.le_of_ble_eq_true rfl, Nat.le_of_ble_eq_true rfl⟩) ⟨zP_blind, va_recv hK hP (ci := 7) (q0 := 0) rfl rfl, zP_pre hPc hK hDc hAD (zB_on hB hA0 hS)⟩ rfl rfl hl.1 rfl (lv_room (Nat.le_of_ble_eq_true rfl)) dMO_learned_3 ⟨Nat.le_of_ble_eq_true rfl, Nat.le_of_ble_eq_true rfl⟩) hS hA (fun r1 H1 locs hr1 hz1 hk1 hS => ?_)
  have hP := zKeep hP hk1
  generalize H1 = H at hP hS ⊢
  have hP : va_P (dC, dI) zCl [(mo, .inr (7, [.int 0, .int 0, .int 0, .int 0, .ref (mb 0), .ref (mb 1), .ref (mb 2), .ref (mb 3), .ref (mb 4), .ref (mb 5), .ref (mb 6), .ref (mb 7), .ref (mb 8), .ref (mb 9), .ref (mb 10), .ref (mb 11), .ref (mb 12), .ref (mb 13), .ref (mb 14), .ref (mb 15), .ref (mb 16), .ref (mb 17), .ref (mb 18), .ref (mb 19), .ref (mb 20), .ref (mb 21), .ref (mb 22), .ref (mb 23), .ref (mb 24), .ref (mb 25), .ref (mb 26), .ref (mb 27), .ref (mb 28), .ref (mb 29), .ref (mb 30), .ref (mb 31), .ref (mb 32), .int 0, .int 0, .int 0, .int 0, .int 0, .int 0, .int 0, .ref (mb 33), .ref (mb 34), .ref (mb 35), .ref (mb 36), .int 0, .int 0, .int 0, .int 0, .ref (mb 37)]))] H := hP
  subst hr1
  refine lv_if_eq (tgt := 32) hx hb dMO_learned_6 (by decide) (fun _ => ?_) (fun c9 => absurd (by decide) c9)
  refine lv_iconst (v := 1) hx hb dMO_learned_32 (by decide) ?_
  have hu7 : ∀ w ∈ u_ws "RingGuardModel" T_MO 53, w.before ([.ref mo, .int p0, .int p1, .int p2] : List Value).toArray s = true := hB.words zU_MO
  refine va_put (D := (dC, dI)) (ci := 7) (v := .int 1) (ty := .int) (C := "RingGuardModel") (T := T_MO) (N := 53) hx hb hu7 zid ty_MO ok_MO nm_MO hown hK hP hD hS 0 rfl rfl 0 (by decide) (hB.word (zm4 k4_114) rfl) (fun _ h9 => h9) rfl (by decide +kernel) rfl rfl (Nat.le_of_ble_eq_true rfl) dMO_learned_33 (fun H locs hP hD hS => ?_)
  have hP : va_P (dC, dI) zCl [(mo, .inr (7, [.int 1, .int 0, .int 0, .int 0, .ref (mb 0), .ref (mb 1), .ref (mb 2), .ref (mb 3), .ref (mb 4), .ref (mb 5), .ref (mb 6), .ref (mb 7), .ref (mb 8), .ref (mb 9), .ref (mb 10), .ref (mb 11), .ref (mb 12), .ref (mb 13), .ref (mb 14), .ref (mb 15), .ref (mb 16), .ref (mb 17), .ref (mb 18), .ref (mb 19), .ref (mb 20), .ref (mb 21), .ref (mb 22), .ref (mb 23), .ref (mb 24), .ref (mb 25), .ref (mb 26), .ref (mb 27), .ref (mb 28), .ref (mb 29), .ref (mb 30), .ref (mb 31), .ref (mb 32), .int 0, .int 0, .int 0, .int 0, .int 0, .int 0, .int 0, .ref (mb 33), .ref (mb 34), .ref (mb 35), .ref (mb 36), .int 0, .int 0, .int 0, .int 0, .ref (mb 37)]))] H := hP
  have hD : va_D A [(mo, .inr (7, [.int 1, .int 0, .int 0, .int 0, .ref (mb 0), .ref (mb 1), .ref (mb 2), .ref (mb 3), .ref (mb 4), .ref (mb 5), .ref (mb 6), .ref (mb 7), .ref (mb 8), .ref (mb 9), .ref (mb 10), .ref (mb 11), .ref (mb 12), .ref (mb 13), .ref (mb 14), .ref (mb 15), .ref (mb 16), .ref (mb 17), .ref (mb 18), .ref (mb 19), .ref (mb 20), .ref (mb 21), .ref (mb 22), .ref (mb 23), .ref (mb 24), .ref (mb 25), .ref (mb 26), .ref (mb 27), .ref (mb 28), .ref (mb 29), .ref (mb 30), .ref (mb 31), .ref (mb 32), .int 0, .int 0, .int 0, .int 0, .int 0, .int 0, .int 0, .ref (mb 33), .ref (mb 34), .ref (mb 35), .ref (mb 36), .int 0, .int 0, .int 0, .int 0, .ref (mb 37)]))] := hD
  refine lv_aload_n hx hb dMO_learned_36 rfl (lv_at hl 0 rfl) ?_
  refine va_get (D := (dC, dI)) (ci := 7) (v := .int 1) (C := "RingGuardModel") (T := T_MO) (N := 53) hx hb hu7 zid hown hK hP 0 rfl rfl 0 (by decide) (hB.word (zm4 k4_114) rfl) (fun _ h9 => h9) rfl dMO_learned_37 ?_
  refine lv_if_le (tgt := 47) hx hb dMO_learned_40 (by decide) (fun c9 => absurd c9 (by decide)) (fun _ => ?_)
  refine lv_iconst (v := (-1)) hx hb dMO_learned_43 (by decide) ?_
  refine lv_goto (tgt := 54) hx hb dMO_learned_44 (by decide) ?_
  refine W.widen (k := 0) (n := 0) (Nat.le_of_ble_eq_true rfl) (Nat.le_of_ble_eq_true rfl) ?_
  have hP9 : va_P (dC, dI) zCl [(mo, .inr (7, [.int 1, .int 0, .int 0, .int 0, .ref (mb 0), .ref (mb 1), .ref (mb 2), .ref (mb 3), .ref (mb 4), .ref (mb 5), .ref (mb 6), .ref (mb 7), .ref (mb 8), .ref (mb 9), .ref (mb 10), .ref (mb 11), .ref (mb 12), .ref (mb 13), .ref (mb 14), .ref (mb 15), .ref (mb 16), .ref (mb 17), .ref (mb 18), .ref (mb 19), .ref (mb 20), .ref (mb 21), .ref (mb 22), .ref (mb 23), .ref (mb 24), .ref (mb 25), .ref (mb 26), .ref (mb 27), .ref (mb 28), .ref (mb 29), .ref (mb 30), .ref (mb 31), .ref (mb 32), .int 0, .int 0, .int 0, .int 0, .int 0, .int 0, .int 0, .ref (mb 33), .ref (mb 34), .ref (mb 35), .ref (mb 36), .int 0, .int 0, .int 0, .int 0, .ref (mb 37)]))] H := hP.sub [0] rfl
  have hD9 : va_D A [(mo, .inr (7, [.int 1, .int 0, .int 0, .int 0, .ref (mb 0), .ref (mb 1), .ref (mb 2), .ref (mb 3), .ref (mb 4), .ref (mb 5), .ref (mb 6), .ref (mb 7), .ref (mb 8), .ref (mb 9), .ref (mb 10), .ref (mb 11), .ref (mb 12), .ref (mb 13), .ref (mb 14), .ref (mb 15), .ref (mb 16), .ref (mb 17), .ref (mb 18), .ref (mb 19), .ref (mb 20), .ref (mb 21), .ref (mb 22), .ref (mb 23), .ref (mb 24), .ref (mb 25), .ref (mb 26), .ref (mb 27), .ref (mb 28), .ref (mb 29), .ref (mb 30), .ref (mb 31), .ref (mb 32), .int 0, .int 0, .int 0, .int 0, .int 0, .int 0, .int 0, .ref (mb 33), .ref (mb 34), .ref (mb 35), .ref (mb 36), .int 0, .int 0, .int 0, .int 0, .ref (mb 37)]))] := hD.sub [0] (by decide) rfl
  exact W.iret (v := (-1)) hx hb hr (fun t ht hW => ⟨⟨(-1), (), rfl, rfl, by rw [ht]; exact hP9, hD9⟩, hS.F ht⟩) hS.2.2 dMO_learned_54
set_option maxHeartbeats 4000000 in
set_option maxRecDepth 100000 in
theorem zm_ticks1 (l : Launch) (dC : Nat → ClassId) (dI : Nat → Nat → Nat) (cI cZ cJ : ClassId) (a0 : Array Value) (s0 : State) (mo : Nat) (mb : Nat → Nat) (sz : Nat) (p0 : Int32) (hv : ¬ p0 < 1 → ¬ p0 ≤ 200) : Met l yMO_ticks [Cond.code yMO_ticks bMO_ticks 3 (some .int)] ({ frames := 1, cells := 0, slots := 0, locals := 22 } : Room) (zP zCl dC dI (zTY cI cZ cJ) a0 s0 [.ref mo, .int p0] sz [(mo, .inr (7, [.int 0, .int 0, .int 0, .int 0, .ref (mb 0), .ref (mb 1), .ref (mb 2), .ref (mb 3), .ref (mb 4), .ref (mb 5), .ref (mb 6), .ref (mb 7), .ref (mb 8), .ref (mb 9), .ref (mb 10), .ref (mb 11), .ref (mb 12), .ref (mb 13), .ref (mb 14), .ref (mb 15), .ref (mb 16), .ref (mb 17), .ref (mb 18), .ref (mb 19), .ref (mb 20), .ref (mb 21), .ref (mb 22), .ref (mb 23), .ref (mb 24), .ref (mb 25), .ref (mb 26), .ref (mb 27), .ref (mb 28), .ref (mb 29), .ref (mb 30), .ref (mb 31), .ref (mb 32), .int 0, .int 0, .int 0, .int 0, .int 0, .int 0, .int 0, .ref (mb 33), .ref (mb 34), .ref (mb 35), .ref (mb 36), .int 0, .int 0, .int 0, .int 0, .ref (mb 37)]))]) (zQi zCl dC dI (fun r => r = 0) [(mo, .inr (7, [.int 1, .int 0, .int 0, .int 0, .ref (mb 0), .ref (mb 1), .ref (mb 2), .ref (mb 3), .ref (mb 4), .ref (mb 5), .ref (mb 6), .ref (mb 7), .ref (mb 8), .ref (mb 9), .ref (mb 10), .ref (mb 11), .ref (mb 12), .ref (mb 13), .ref (mb 14), .ref (mb 15), .ref (mb 16), .ref (mb 17), .ref (mb 18), .ref (mb 19), .ref (mb 20), .ref (mb 21), .ref (mb 22), .ref (mb 23), .ref (mb 24), .ref (mb 25), .ref (mb 26), .ref (mb 27), .ref (mb 28), .ref (mb 29), .ref (mb 30), .ref (mb 31), .ref (mb 32), .int 0, .int 0, .int 0, .int 0, .int 0, .int 0, .int 0, .ref (mb 33), .ref (mb 34), .ref (mb 35), .ref (mb 36), .int 0, .int 0, .int 0, .int 0, .ref (mb 37)]))] (va_A [(mo, .inr (7, [.int 0, .int 0, .int 0, .int 0, .ref (mb 0), .ref (mb 1), .ref (mb 2), .ref (mb 3), .ref (mb 4), .ref (mb 5), .ref (mb 6), .ref (mb 7), .ref (mb 8), .ref (mb 9), .ref (mb 10), .ref (mb 11), .ref (mb 12), .ref (mb 13), .ref (mb 14), .ref (mb 15), .ref (mb 16), .ref (mb 17), .ref (mb 18), .ref (mb 19), .ref (mb 20), .ref (mb 21), .ref (mb 22), .ref (mb 23), .ref (mb 24), .ref (mb 25), .ref (mb 26), .ref (mb 27), .ref (mb 28), .ref (mb 29), .ref (mb 30), .ref (mb 31), .ref (mb 32), .int 0, .int 0, .int 0, .int 0, .int 0, .int 0, .int 0, .ref (mb 33), .ref (mb 34), .ref (mb 35), .ref (mb 36), .int 0, .int 0, .int 0, .int 0, .ref (mb 37)]))] sz)) 0 0 (va_A [(mo, .inr (7, [.int 0, .int 0, .int 0, .int 0, .ref (mb 0), .ref (mb 1), .ref (mb 2), .ref (mb 3), .ref (mb 4), .ref (mb 5), .ref (mb 6), .ref (mb 7), .ref (mb 8), .ref (mb 9), .ref (mb 10), .ref (mb 11), .ref (mb 12), .ref (mb 13), .ref (mb 14), .ref (mb 15), .ref (mb 16), .ref (mb 17), .ref (mb 18), .ref (mb 19), .ref (mb 20), .ref (mb 21), .ref (mb 22), .ref (mb 23), .ref (mb 24), .ref (mb 25), .ref (mb 26), .ref (mb 27), .ref (mb 28), .ref (mb 29), .ref (mb 30), .ref (mb 31), .ref (mb 32), .int 0, .int 0, .int 0, .int 0, .int 0, .int 0, .int 0, .ref (mb 33), .ref (mb 34), .ref (mb 35), .ref (mb 36), .int 0, .int 0, .int 0, .int 0, .ref (mb 37)]))] sz) := by
  refine Met.ofW (cc := bMO_ticks) (maxL := 3) (ret := (some .int)) (by decide) rfl ?_
  intro p e s m args below meth c s₁ B hml hv
  obtain ⟨rfl, hsz, hP, hK, hD0, hB⟩ := hv
  have hx := B.exec
  have hb := B.bytes
  have hr := B.returns
  have hown : s.vm.findClass "RingGuardModel" = some m.cls := findClass_of_methodNamed B.named
  have hlocks := B.notSynchronized
  subst hsz
  have hD := hD0.self (sz := s.heap.size)
  have hA0 := zA0 hD0 hB
  generalize hAe : va_A [(mo, .inr (7, [.int 0, .int 0, .int 0, .int 0, .ref (mb 0), .ref (mb 1), .ref (mb 2), .ref (mb 3), .ref (mb 4), .ref (mb 5), .ref (mb 6), .ref (mb 7), .ref (mb 8), .ref (mb 9), .ref (mb 10), .ref (mb 11), .ref (mb 12), .ref (mb 13), .ref (mb 14), .ref (mb 15), .ref (mb 16), .ref (mb 17), .ref (mb 18), .ref (mb 19), .ref (mb 20), .ref (mb 21), .ref (mb 22), .ref (mb 23), .ref (mb 24), .ref (mb 25), .ref (mb 26), .ref (mb 27), .ref (mb 28), .ref (mb 29), .ref (mb 30), .ref (mb 31), .ref (mb 32), .int 0, .int 0, .int 0, .int 0, .int 0, .int 0, .int 0, .ref (mb 33), .ref (mb 34), .ref (mb 35), .ref (mb 36), .int 0, .int 0, .int 0, .int 0, .ref (mb 37)]))] s.heap.size = A at hD hA0 ⊢
  have hAD := hA0
  have hA : ∀ q : Nat, s.heap.size ≤ q → A q := fun q h => by rw [← hAe]; exact Or.inr h
  have hS : va_S A s.heap s.heap [] := va_S.rf
  have hP : va_P (dC, dI) zCl [(mo, .inr (7, [.int 0, .int 0, .int 0, .int 0, .ref (mb 0), .ref (mb 1), .ref (mb 2), .ref (mb 3), .ref (mb 4), .ref (mb 5), .ref (mb 6), .ref (mb 7), .ref (mb 8), .ref (mb 9), .ref (mb 10), .ref (mb 11), .ref (mb 12), .ref (mb 13), .ref (mb 14), .ref (mb 15), .ref (mb 16), .ref (mb 17), .ref (mb 18), .ref (mb 19), .ref (mb 20), .ref (mb 21), .ref (mb 22), .ref (mb 23), .ref (mb 24), .ref (mb 25), .ref (mb 26), .ref (mb 27), .ref (mb 28), .ref (mb 29), .ref (mb 30), .ref (mb 31), .ref (mb 32), .int 0, .int 0, .int 0, .int 0, .int 0, .int 0, .int 0, .ref (mb 33), .ref (mb 34), .ref (mb 35), .ref (mb 36), .int 0, .int 0, .int 0, .int 0, .ref (mb 37)]))] s.heap := hP
  have hl := lv_entry ([.ref mo, .int p0]) (n := 3) (Nat.le_of_ble_eq_true rfl)
  rw [lg_entry_eq]
  generalize (lg_sl ([.ref mo, .int p0]) ++ List.replicate (3 - (lg_sl ([.ref mo, .int p0])).length) Slot.unset).toArray = ls at hl ⊢
  have hl : lv_has ls 3 [(0, .ref mo), (1, .int p0)] := hl
  refine lv_aload_n hx hb dMO_ticks_0 rfl (lv_at hl 0 rfl) ?_
  refine lv_iload_n hx hb dMO_ticks_1 rfl (lv_at hl 1 rfl) ?_
  refine lv_iconst (v := 1) hx hb dMO_ticks_2 (by decide) ?_
  refine lv_icmp_lt (tgt := 17) hx hb dMO_ticks_3 (by decide) (fun c_3 => ?_) (fun c_3 => ?_)
  · refine lv_iconst (v := 0) hx hb dMO_ticks_17 (by decide) ?_
    refine lv_aload_n hx hb dMO_ticks_18 rfl (lv_at hl 0 rfl) ?_
    have hu7 : ∀ w ∈ u_ws "RingGuardModel" T_MO 53, w.before ([.ref mo, .int p0] : List Value).toArray s = true := hB.words zU_MO
    refine va_get (D := (dC, dI)) (ci := 7) (v := .int 0) (C := "RingGuardModel") (T := T_MO) (N := 53) hx hb hu7 zid hown hK hP 0 rfl rfl 1 (by decide) (hB.word (zm4 k4_115) rfl) (fun _ h9 => h9) rfl dMO_ticks_19 ?_
    refine lv_if_eq (tgt := 41) hx hb dMO_ticks_22 (by decide) (fun _ => ?_) (fun c9 => absurd (by decide) c9)
    refine lv_iconst (v := 0) hx hb dMO_ticks_41 (by decide) ?_
    have hPc : va_P (dC, dI) zCl [(mo, .inr (7, [.int 0, .int 0, .int 0, .int 0, .ref (mb 0), .ref (mb 1), .ref (mb 2), .ref (mb 3), .ref (mb 4), .ref (mb 5), .ref (mb 6), .ref (mb 7), .ref (mb 8), .ref (mb 9), .ref (mb 10), .ref (mb 11), .ref (mb 12), .ref (mb 13), .ref (mb 14), .ref (mb 15), .ref (mb 16), .ref (mb 17), .ref (mb 18), .ref (mb 19), .ref (mb 20), .ref (mb 21), .ref (mb 22), .ref (mb 23), .ref (mb 24), .ref (mb 25), .ref (mb 26), .ref (mb 27), .ref (mb 28), .ref (mb 29), .ref (mb 30), .ref (mb 31), .ref (mb 32), .int 0, .int 0, .int 0, .int 0, .int 0, .int 0, .int 0, .ref (mb 33), .ref (mb 34), .ref (mb 35), .ref (mb 36), .int 0, .int 0, .int 0, .int 0, .ref (mb 37)]))] s.heap := hP.sub [0] rfl
    have hDc : va_D A [(mo, .inr (7, [.int 0, .int 0, .int 0, .int 0, .ref (mb 0), .ref (mb 1), .ref (mb 2), .ref (mb 3), .ref (mb 4), .ref (mb 5), .ref (mb 6), .ref (mb 7), .ref (mb 8), .ref (mb 9), .ref (mb 10), .ref (mb 11), .ref (mb 12), .ref (mb 13), .ref (mb 14), .ref (mb 15), .ref (mb 16), .ref (mb 17), .ref (mb 18), .ref (mb 19), .ref (mb 20), .ref (mb 21), .ref (mb 22), .ref (mb 23), .ref (mb 24), .ref (mb 25), .ref (mb 26), .ref (mb 27), .ref (mb 28), .ref (mb 29), .ref (mb 30), .ref (mb 31), .ref (mb 32), .int 0, .int 0, .int 0, .int 0, .int 0, .int 0, .int 0, .ref (mb 33), .ref (mb 34), .ref (mb 35), .ref (mb 36), .int 0, .int 0, .int 0, .int 0, .ref (mb 37)]))] := hD.sub [0] (by decide) rfl
    refine zcalli (wr := []) (va_runV (As := [.int 0, .int 0]) (rest := []) ⟨hx, hb, hml, hown, zno⟩ (zm_goes0 l dC dI cI cZ cJ a0 s0 mo mb s.heap.size 0) (zcw 2 (hB.word (zm5 k5_56) rfl) (hB.word (zm1 k1_9) rfl) (hB.word (zm5 k5_53) rfl) (hB.word (zm5 k5_55) rfl) (k2_selects_private (by decide) (hB.word (zm4 k4_109) rfl) (hB.word (zm5 k5_54) rfl) (hB.word (zm5 k5_55) rfl)) rfl rfl (by decide +kernel) ⟨Nat.le_of_ble_eq_true rfl, Nat.le_of_ble_eq_true rfl⟩) ⟨zP_blind, va_recv hK hP (ci := 7) (q0 := 0) rfl rfl, zP_pre hPc hK hDc hAD (zB_on hB hA0 hS)⟩ rfl rfl hl.1 rfl (lv_room (Nat.le_of_ble_eq_true rfl)) dMO_ticks_42 ⟨Nat.le_of_ble_eq_true rfl, Nat.le_of_ble_eq_true rfl⟩) hP hD hS hA [0] [] rfl rfl (by decide) (by decide) (fun r1 H1 locs hr1 hP hD hS => ?_)
    generalize H1 = H at hP hS ⊢
    have hP : va_P (dC, dI) zCl [(mo, .inr (7, [.int 1, .int 0, .int 0, .int 0, .ref (mb 0), .ref (mb 1), .ref (mb 2), .ref (mb 3), .ref (mb 4), .ref (mb 5), .ref (mb 6), .ref (mb 7), .ref (mb 8), .ref (mb 9), .ref (mb 10), .ref (mb 11), .ref (mb 12), .ref (mb 13), .ref (mb 14), .ref (mb 15), .ref (mb 16), .ref (mb 17), .ref (mb 18), .ref (mb 19), .ref (mb 20), .ref (mb 21), .ref (mb 22), .ref (mb 23), .ref (mb 24), .ref (mb 25), .ref (mb 26), .ref (mb 27), .ref (mb 28), .ref (mb 29), .ref (mb 30), .ref (mb 31), .ref (mb 32), .int 0, .int 0, .int 0, .int 0, .int 0, .int 0, .int 0, .ref (mb 33), .ref (mb 34), .ref (mb 35), .ref (mb 36), .int 0, .int 0, .int 0, .int 0, .ref (mb 37)]))] H := hP
    have hD : va_D A [(mo, .inr (7, [.int 1, .int 0, .int 0, .int 0, .ref (mb 0), .ref (mb 1), .ref (mb 2), .ref (mb 3), .ref (mb 4), .ref (mb 5), .ref (mb 6), .ref (mb 7), .ref (mb 8), .ref (mb 9), .ref (mb 10), .ref (mb 11), .ref (mb 12), .ref (mb 13), .ref (mb 14), .ref (mb 15), .ref (mb 16), .ref (mb 17), .ref (mb 18), .ref (mb 19), .ref (mb 20), .ref (mb 21), .ref (mb 22), .ref (mb 23), .ref (mb 24), .ref (mb 25), .ref (mb 26), .ref (mb 27), .ref (mb 28), .ref (mb 29), .ref (mb 30), .ref (mb 31), .ref (mb 32), .int 0, .int 0, .int 0, .int 0, .int 0, .int 0, .int 0, .ref (mb 33), .ref (mb 34), .ref (mb 35), .ref (mb 36), .int 0, .int 0, .int 0, .int 0, .ref (mb 37)]))] := hD
    subst hr1
    refine lv_if_ne (tgt := 50) hx hb dMO_ticks_45 (by decide) (fun c9 => absurd (by decide) c9) (fun _ => ?_)
    refine lv_iconst (v := 0) hx hb dMO_ticks_48 (by decide) ?_
    refine W.widen (k := 0) (n := 0) (Nat.le_of_ble_eq_true rfl) (Nat.le_of_ble_eq_true rfl) ?_
    have hP9 : va_P (dC, dI) zCl [(mo, .inr (7, [.int 1, .int 0, .int 0, .int 0, .ref (mb 0), .ref (mb 1), .ref (mb 2), .ref (mb 3), .ref (mb 4), .ref (mb 5), .ref (mb 6), .ref (mb 7), .ref (mb 8), .ref (mb 9), .ref (mb 10), .ref (mb 11), .ref (mb 12), .ref (mb 13), .ref (mb 14), .ref (mb 15), .ref (mb 16), .ref (mb 17), .ref (mb 18), .ref (mb 19), .ref (mb 20), .ref (mb 21), .ref (mb 22), .ref (mb 23), .ref (mb 24), .ref (mb 25), .ref (mb 26), .ref (mb 27), .ref (mb 28), .ref (mb 29), .ref (mb 30), .ref (mb 31), .ref (mb 32), .int 0, .int 0, .int 0, .int 0, .int 0, .int 0, .int 0, .ref (mb 33), .ref (mb 34), .ref (mb 35), .ref (mb 36), .int 0, .int 0, .int 0, .int 0, .ref (mb 37)]))] H := hP.sub [0] rfl
    have hD9 : va_D A [(mo, .inr (7, [.int 1, .int 0, .int 0, .int 0, .ref (mb 0), .ref (mb 1), .ref (mb 2), .ref (mb 3), .ref (mb 4), .ref (mb 5), .ref (mb 6), .ref (mb 7), .ref (mb 8), .ref (mb 9), .ref (mb 10), .ref (mb 11), .ref (mb 12), .ref (mb 13), .ref (mb 14), .ref (mb 15), .ref (mb 16), .ref (mb 17), .ref (mb 18), .ref (mb 19), .ref (mb 20), .ref (mb 21), .ref (mb 22), .ref (mb 23), .ref (mb 24), .ref (mb 25), .ref (mb 26), .ref (mb 27), .ref (mb 28), .ref (mb 29), .ref (mb 30), .ref (mb 31), .ref (mb 32), .int 0, .int 0, .int 0, .int 0, .int 0, .int 0, .int 0, .ref (mb 33), .ref (mb 34), .ref (mb 35), .ref (mb 36), .int 0, .int 0, .int 0, .int 0, .ref (mb 37)]))] := hD.sub [0] (by decide) rfl
    exact W.iret (v := 0) hx hb hr (fun t ht hW => ⟨⟨0, (), rfl, rfl, by rw [ht]; exact hP9, hD9⟩, hS.F ht⟩) hS.2.2 dMO_ticks_49
  · refine lv_iload_n hx hb dMO_ticks_6 rfl (lv_at hl 1 rfl) ?_
    refine lv_sipush (v := 200) hx hb dMO_ticks_7 (by decide) ?_
    refine lv_icmp_gt (tgt := 17) hx hb dMO_ticks_10 (by decide) (fun _ => ?_) (fun c9 => absurd (Int32.not_le.mp (hv c_3)) c9)
    refine lv_iconst (v := 0) hx hb dMO_ticks_17 (by decide) ?_
    refine lv_aload_n hx hb dMO_ticks_18 rfl (lv_at hl 0 rfl) ?_
    have hu7 : ∀ w ∈ u_ws "RingGuardModel" T_MO 53, w.before ([.ref mo, .int p0] : List Value).toArray s = true := hB.words zU_MO
    refine va_get (D := (dC, dI)) (ci := 7) (v := .int 0) (C := "RingGuardModel") (T := T_MO) (N := 53) hx hb hu7 zid hown hK hP 0 rfl rfl 1 (by decide) (hB.word (zm4 k4_115) rfl) (fun _ h9 => h9) rfl dMO_ticks_19 ?_
    refine lv_if_eq (tgt := 41) hx hb dMO_ticks_22 (by decide) (fun _ => ?_) (fun c9 => absurd (by decide) c9)
    refine lv_iconst (v := 0) hx hb dMO_ticks_41 (by decide) ?_
    have hPc : va_P (dC, dI) zCl [(mo, .inr (7, [.int 0, .int 0, .int 0, .int 0, .ref (mb 0), .ref (mb 1), .ref (mb 2), .ref (mb 3), .ref (mb 4), .ref (mb 5), .ref (mb 6), .ref (mb 7), .ref (mb 8), .ref (mb 9), .ref (mb 10), .ref (mb 11), .ref (mb 12), .ref (mb 13), .ref (mb 14), .ref (mb 15), .ref (mb 16), .ref (mb 17), .ref (mb 18), .ref (mb 19), .ref (mb 20), .ref (mb 21), .ref (mb 22), .ref (mb 23), .ref (mb 24), .ref (mb 25), .ref (mb 26), .ref (mb 27), .ref (mb 28), .ref (mb 29), .ref (mb 30), .ref (mb 31), .ref (mb 32), .int 0, .int 0, .int 0, .int 0, .int 0, .int 0, .int 0, .ref (mb 33), .ref (mb 34), .ref (mb 35), .ref (mb 36), .int 0, .int 0, .int 0, .int 0, .ref (mb 37)]))] s.heap := hP.sub [0] rfl
    have hDc : va_D A [(mo, .inr (7, [.int 0, .int 0, .int 0, .int 0, .ref (mb 0), .ref (mb 1), .ref (mb 2), .ref (mb 3), .ref (mb 4), .ref (mb 5), .ref (mb 6), .ref (mb 7), .ref (mb 8), .ref (mb 9), .ref (mb 10), .ref (mb 11), .ref (mb 12), .ref (mb 13), .ref (mb 14), .ref (mb 15), .ref (mb 16), .ref (mb 17), .ref (mb 18), .ref (mb 19), .ref (mb 20), .ref (mb 21), .ref (mb 22), .ref (mb 23), .ref (mb 24), .ref (mb 25), .ref (mb 26), .ref (mb 27), .ref (mb 28), .ref (mb 29), .ref (mb 30), .ref (mb 31), .ref (mb 32), .int 0, .int 0, .int 0, .int 0, .int 0, .int 0, .int 0, .ref (mb 33), .ref (mb 34), .ref (mb 35), .ref (mb 36), .int 0, .int 0, .int 0, .int 0, .ref (mb 37)]))] := hD.sub [0] (by decide) rfl
    refine zcalli (wr := []) (va_runV (As := [.int 0, .int 0]) (rest := []) ⟨hx, hb, hml, hown, zno⟩ (zm_goes0 l dC dI cI cZ cJ a0 s0 mo mb s.heap.size 0) (zcw 2 (hB.word (zm5 k5_56) rfl) (hB.word (zm1 k1_9) rfl) (hB.word (zm5 k5_53) rfl) (hB.word (zm5 k5_55) rfl) (k2_selects_private (by decide) (hB.word (zm4 k4_109) rfl) (hB.word (zm5 k5_54) rfl) (hB.word (zm5 k5_55) rfl)) rfl rfl (by decide +kernel) ⟨Nat.le_of_ble_eq_true rfl, Nat.le_of_ble_eq_true rfl⟩) ⟨zP_blind, va_recv hK hP (ci := 7) (q0 := 0) rfl rfl, zP_pre hPc hK hDc hAD (zB_on hB hA0 hS)⟩ rfl rfl hl.1 rfl (lv_room (Nat.le_of_ble_eq_true rfl)) dMO_ticks_42 ⟨Nat.le_of_ble_eq_true rfl, Nat.le_of_ble_eq_true rfl⟩) hP hD hS hA [0] [] rfl rfl (by decide) (by decide) (fun r2 H1 locs hr2 hP hD hS => ?_)
    generalize H1 = H at hP hS ⊢
    have hP : va_P (dC, dI) zCl [(mo, .inr (7, [.int 1, .int 0, .int 0, .int 0, .ref (mb 0), .ref (mb 1), .ref (mb 2), .ref (mb 3), .ref (mb 4), .ref (mb 5), .ref (mb 6), .ref (mb 7), .ref (mb 8), .ref (mb 9), .ref (mb 10), .ref (mb 11), .ref (mb 12), .ref (mb 13), .ref (mb 14), .ref (mb 15), .ref (mb 16), .ref (mb 17), .ref (mb 18), .ref (mb 19), .ref (mb 20), .ref (mb 21), .ref (mb 22), .ref (mb 23), .ref (mb 24), .ref (mb 25), .ref (mb 26), .ref (mb 27), .ref (mb 28), .ref (mb 29), .ref (mb 30), .ref (mb 31), .ref (mb 32), .int 0, .int 0, .int 0, .int 0, .int 0, .int 0, .int 0, .ref (mb 33), .ref (mb 34), .ref (mb 35), .ref (mb 36), .int 0, .int 0, .int 0, .int 0, .ref (mb 37)]))] H := hP
    have hD : va_D A [(mo, .inr (7, [.int 1, .int 0, .int 0, .int 0, .ref (mb 0), .ref (mb 1), .ref (mb 2), .ref (mb 3), .ref (mb 4), .ref (mb 5), .ref (mb 6), .ref (mb 7), .ref (mb 8), .ref (mb 9), .ref (mb 10), .ref (mb 11), .ref (mb 12), .ref (mb 13), .ref (mb 14), .ref (mb 15), .ref (mb 16), .ref (mb 17), .ref (mb 18), .ref (mb 19), .ref (mb 20), .ref (mb 21), .ref (mb 22), .ref (mb 23), .ref (mb 24), .ref (mb 25), .ref (mb 26), .ref (mb 27), .ref (mb 28), .ref (mb 29), .ref (mb 30), .ref (mb 31), .ref (mb 32), .int 0, .int 0, .int 0, .int 0, .int 0, .int 0, .int 0, .ref (mb 33), .ref (mb 34), .ref (mb 35), .ref (mb 36), .int 0, .int 0, .int 0, .int 0, .ref (mb 37)]))] := hD
    subst hr2
    refine lv_if_ne (tgt := 50) hx hb dMO_ticks_45 (by decide) (fun c9 => absurd (by decide) c9) (fun _ => ?_)
    refine lv_iconst (v := 0) hx hb dMO_ticks_48 (by decide) ?_
    refine W.widen (k := 0) (n := 0) (Nat.le_of_ble_eq_true rfl) (Nat.le_of_ble_eq_true rfl) ?_
    have hP9 : va_P (dC, dI) zCl [(mo, .inr (7, [.int 1, .int 0, .int 0, .int 0, .ref (mb 0), .ref (mb 1), .ref (mb 2), .ref (mb 3), .ref (mb 4), .ref (mb 5), .ref (mb 6), .ref (mb 7), .ref (mb 8), .ref (mb 9), .ref (mb 10), .ref (mb 11), .ref (mb 12), .ref (mb 13), .ref (mb 14), .ref (mb 15), .ref (mb 16), .ref (mb 17), .ref (mb 18), .ref (mb 19), .ref (mb 20), .ref (mb 21), .ref (mb 22), .ref (mb 23), .ref (mb 24), .ref (mb 25), .ref (mb 26), .ref (mb 27), .ref (mb 28), .ref (mb 29), .ref (mb 30), .ref (mb 31), .ref (mb 32), .int 0, .int 0, .int 0, .int 0, .int 0, .int 0, .int 0, .ref (mb 33), .ref (mb 34), .ref (mb 35), .ref (mb 36), .int 0, .int 0, .int 0, .int 0, .ref (mb 37)]))] H := hP.sub [0] rfl
    have hD9 : va_D A [(mo, .inr (7, [.int 1, .int 0, .int 0, .int 0, .ref (mb 0), .ref (mb 1), .ref (mb 2), .ref (mb 3), .ref (mb 4), .ref (mb 5), .ref (mb 6), .ref (mb 7), .ref (mb 8), .ref (mb 9), .ref (mb 10), .ref (mb 11), .ref (mb 12), .ref (mb 13), .ref (mb 14), .ref (mb 15), .ref (mb 16), .ref (mb 17), .ref (mb 18), .ref (mb 19), .ref (mb 20), .ref (mb 21), .ref (mb 22), .ref (mb 23), .ref (mb 24), .ref (mb 25), .ref (mb 26), .ref (mb 27), .ref (mb 28), .ref (mb 29), .ref (mb 30), .ref (mb 31), .ref (mb 32), .int 0, .int 0, .int 0, .int 0, .int 0, .int 0, .int 0, .ref (mb 33), .ref (mb 34), .ref (mb 35), .ref (mb 36), .int 0, .int 0, .int 0, .int 0, .ref (mb 37)]))] := hD.sub [0] (by decide) rfl
    exact W.iret (v := 0) hx hb hr (fun t ht hW => ⟨⟨0, (), rfl, rfl, by rw [ht]; exact hP9, hD9⟩, hS.F ht⟩) hS.2.2 dMO_ticks_49
set_option maxHeartbeats 4000000 in
set_option maxRecDepth 100000 in
theorem zm_ticks2 (l : Launch) (dC : Nat → ClassId) (dI : Nat → Nat → Nat) (cI cZ cJ : ClassId) (a0 : Array Value) (s0 : State) (mo : Nat) (mb : Nat → Nat) (sz : Nat) (p0 : Int32) (h0 : ¬ p0 < 1) (h1 : p0 ≤ 200) : Met l yMO_ticks [Cond.code yMO_ticks bMO_ticks 3 (some .int)] ({ frames := 1, cells := 0, slots := 0, locals := 22 } : Room) (zP zCl dC dI (zTY cI cZ cJ) a0 s0 [.ref mo, .int p0] sz [(mo, .inr (7, [.int 0, .int 0, .int 0, .int 0, .ref (mb 0), .ref (mb 1), .ref (mb 2), .ref (mb 3), .ref (mb 4), .ref (mb 5), .ref (mb 6), .ref (mb 7), .ref (mb 8), .ref (mb 9), .ref (mb 10), .ref (mb 11), .ref (mb 12), .ref (mb 13), .ref (mb 14), .ref (mb 15), .ref (mb 16), .ref (mb 17), .ref (mb 18), .ref (mb 19), .ref (mb 20), .ref (mb 21), .ref (mb 22), .ref (mb 23), .ref (mb 24), .ref (mb 25), .ref (mb 26), .ref (mb 27), .ref (mb 28), .ref (mb 29), .ref (mb 30), .ref (mb 31), .ref (mb 32), .int 0, .int 0, .int 0, .int 0, .int 0, .int 0, .int 0, .ref (mb 33), .ref (mb 34), .ref (mb 35), .ref (mb 36), .int 0, .int 0, .int 0, .int 0, .ref (mb 37)]))]) (zQi zCl dC dI (fun r => r = 0) [(mo, .inr (7, [.int 2, .int 0, .int 0, .int 0, .ref (mb 0), .ref (mb 1), .ref (mb 2), .ref (mb 3), .ref (mb 4), .ref (mb 5), .ref (mb 6), .ref (mb 7), .ref (mb 8), .ref (mb 9), .ref (mb 10), .ref (mb 11), .ref (mb 12), .ref (mb 13), .ref (mb 14), .ref (mb 15), .ref (mb 16), .ref (mb 17), .ref (mb 18), .ref (mb 19), .ref (mb 20), .ref (mb 21), .ref (mb 22), .ref (mb 23), .ref (mb 24), .ref (mb 25), .ref (mb 26), .ref (mb 27), .ref (mb 28), .ref (mb 29), .ref (mb 30), .ref (mb 31), .ref (mb 32), .int 0, .int 0, .int 0, .int 0, .int 0, .int 0, .int 0, .ref (mb 33), .ref (mb 34), .ref (mb 35), .ref (mb 36), .int 0, .int 0, .int 0, .int 0, .ref (mb 37)]))] (va_A [(mo, .inr (7, [.int 0, .int 0, .int 0, .int 0, .ref (mb 0), .ref (mb 1), .ref (mb 2), .ref (mb 3), .ref (mb 4), .ref (mb 5), .ref (mb 6), .ref (mb 7), .ref (mb 8), .ref (mb 9), .ref (mb 10), .ref (mb 11), .ref (mb 12), .ref (mb 13), .ref (mb 14), .ref (mb 15), .ref (mb 16), .ref (mb 17), .ref (mb 18), .ref (mb 19), .ref (mb 20), .ref (mb 21), .ref (mb 22), .ref (mb 23), .ref (mb 24), .ref (mb 25), .ref (mb 26), .ref (mb 27), .ref (mb 28), .ref (mb 29), .ref (mb 30), .ref (mb 31), .ref (mb 32), .int 0, .int 0, .int 0, .int 0, .int 0, .int 0, .int 0, .ref (mb 33), .ref (mb 34), .ref (mb 35), .ref (mb 36), .int 0, .int 0, .int 0, .int 0, .ref (mb 37)]))] sz)) 0 0 (va_A [(mo, .inr (7, [.int 0, .int 0, .int 0, .int 0, .ref (mb 0), .ref (mb 1), .ref (mb 2), .ref (mb 3), .ref (mb 4), .ref (mb 5), .ref (mb 6), .ref (mb 7), .ref (mb 8), .ref (mb 9), .ref (mb 10), .ref (mb 11), .ref (mb 12), .ref (mb 13), .ref (mb 14), .ref (mb 15), .ref (mb 16), .ref (mb 17), .ref (mb 18), .ref (mb 19), .ref (mb 20), .ref (mb 21), .ref (mb 22), .ref (mb 23), .ref (mb 24), .ref (mb 25), .ref (mb 26), .ref (mb 27), .ref (mb 28), .ref (mb 29), .ref (mb 30), .ref (mb 31), .ref (mb 32), .int 0, .int 0, .int 0, .int 0, .int 0, .int 0, .int 0, .ref (mb 33), .ref (mb 34), .ref (mb 35), .ref (mb 36), .int 0, .int 0, .int 0, .int 0, .ref (mb 37)]))] sz) := by
  refine Met.ofW (cc := bMO_ticks) (maxL := 3) (ret := (some .int)) (by decide) rfl ?_
  intro p e s m args below meth c s₁ B hml hv
  obtain ⟨rfl, hsz, hP, hK, hD0, hB⟩ := hv
  have hx := B.exec
  have hb := B.bytes
  have hr := B.returns
  have hown : s.vm.findClass "RingGuardModel" = some m.cls := findClass_of_methodNamed B.named
  have hlocks := B.notSynchronized
  subst hsz
  have hD := hD0.self (sz := s.heap.size)
  have hA0 := zA0 hD0 hB
  generalize hAe : va_A [(mo, .inr (7, [.int 0, .int 0, .int 0, .int 0, .ref (mb 0), .ref (mb 1), .ref (mb 2), .ref (mb 3), .ref (mb 4), .ref (mb 5), .ref (mb 6), .ref (mb 7), .ref (mb 8), .ref (mb 9), .ref (mb 10), .ref (mb 11), .ref (mb 12), .ref (mb 13), .ref (mb 14), .ref (mb 15), .ref (mb 16), .ref (mb 17), .ref (mb 18), .ref (mb 19), .ref (mb 20), .ref (mb 21), .ref (mb 22), .ref (mb 23), .ref (mb 24), .ref (mb 25), .ref (mb 26), .ref (mb 27), .ref (mb 28), .ref (mb 29), .ref (mb 30), .ref (mb 31), .ref (mb 32), .int 0, .int 0, .int 0, .int 0, .int 0, .int 0, .int 0, .ref (mb 33), .ref (mb 34), .ref (mb 35), .ref (mb 36), .int 0, .int 0, .int 0, .int 0, .ref (mb 37)]))] s.heap.size = A at hD hA0 ⊢
  have hAD := hA0
  have hA : ∀ q : Nat, s.heap.size ≤ q → A q := fun q h => by rw [← hAe]; exact Or.inr h
  have hS : va_S A s.heap s.heap [] := va_S.rf
  have hP : va_P (dC, dI) zCl [(mo, .inr (7, [.int 0, .int 0, .int 0, .int 0, .ref (mb 0), .ref (mb 1), .ref (mb 2), .ref (mb 3), .ref (mb 4), .ref (mb 5), .ref (mb 6), .ref (mb 7), .ref (mb 8), .ref (mb 9), .ref (mb 10), .ref (mb 11), .ref (mb 12), .ref (mb 13), .ref (mb 14), .ref (mb 15), .ref (mb 16), .ref (mb 17), .ref (mb 18), .ref (mb 19), .ref (mb 20), .ref (mb 21), .ref (mb 22), .ref (mb 23), .ref (mb 24), .ref (mb 25), .ref (mb 26), .ref (mb 27), .ref (mb 28), .ref (mb 29), .ref (mb 30), .ref (mb 31), .ref (mb 32), .int 0, .int 0, .int 0, .int 0, .int 0, .int 0, .int 0, .ref (mb 33), .ref (mb 34), .ref (mb 35), .ref (mb 36), .int 0, .int 0, .int 0, .int 0, .ref (mb 37)]))] s.heap := hP
  have hl := lv_entry ([.ref mo, .int p0]) (n := 3) (Nat.le_of_ble_eq_true rfl)
  rw [lg_entry_eq]
  generalize (lg_sl ([.ref mo, .int p0]) ++ List.replicate (3 - (lg_sl ([.ref mo, .int p0])).length) Slot.unset).toArray = ls at hl ⊢
  have hl : lv_has ls 3 [(0, .ref mo), (1, .int p0)] := hl
  refine lv_aload_n hx hb dMO_ticks_0 rfl (lv_at hl 0 rfl) ?_
  refine lv_iload_n hx hb dMO_ticks_1 rfl (lv_at hl 1 rfl) ?_
  refine lv_iconst (v := 1) hx hb dMO_ticks_2 (by decide) ?_
  refine lv_icmp_lt (tgt := 17) hx hb dMO_ticks_3 (by decide) (fun c9 => absurd c9 h0) (fun _ => ?_)
  refine lv_iload_n hx hb dMO_ticks_6 rfl (lv_at hl 1 rfl) ?_
  refine lv_sipush (v := 200) hx hb dMO_ticks_7 (by decide) ?_
  refine lv_icmp_gt (tgt := 17) hx hb dMO_ticks_10 (by decide) (fun c9 => absurd c9 (Int32.not_lt.mpr h1)) (fun _ => ?_)
  refine lv_iconst (v := 1) hx hb dMO_ticks_13 (by decide) ?_
  refine lv_goto (tgt := 18) hx hb dMO_ticks_14 (by decide) ?_
  refine lv_aload_n hx hb dMO_ticks_18 rfl (lv_at hl 0 rfl) ?_
  have hu7 : ∀ w ∈ u_ws "RingGuardModel" T_MO 53, w.before ([.ref mo, .int p0] : List Value).toArray s = true := hB.words zU_MO
  refine va_get (D := (dC, dI)) (ci := 7) (v := .int 0) (C := "RingGuardModel") (T := T_MO) (N := 53) hx hb hu7 zid hown hK hP 0 rfl rfl 1 (by decide) (hB.word (zm4 k4_115) rfl) (fun _ h9 => h9) rfl dMO_ticks_19 ?_
  refine lv_if_eq (tgt := 41) hx hb dMO_ticks_22 (by decide) (fun _ => ?_) (fun c9 => absurd (by decide) c9)
  refine lv_iconst (v := 0) hx hb dMO_ticks_41 (by decide) ?_
  have hPc : va_P (dC, dI) zCl [(mo, .inr (7, [.int 0, .int 0, .int 0, .int 0, .ref (mb 0), .ref (mb 1), .ref (mb 2), .ref (mb 3), .ref (mb 4), .ref (mb 5), .ref (mb 6), .ref (mb 7), .ref (mb 8), .ref (mb 9), .ref (mb 10), .ref (mb 11), .ref (mb 12), .ref (mb 13), .ref (mb 14), .ref (mb 15), .ref (mb 16), .ref (mb 17), .ref (mb 18), .ref (mb 19), .ref (mb 20), .ref (mb 21), .ref (mb 22), .ref (mb 23), .ref (mb 24), .ref (mb 25), .ref (mb 26), .ref (mb 27), .ref (mb 28), .ref (mb 29), .ref (mb 30), .ref (mb 31), .ref (mb 32), .int 0, .int 0, .int 0, .int 0, .int 0, .int 0, .int 0, .ref (mb 33), .ref (mb 34), .ref (mb 35), .ref (mb 36), .int 0, .int 0, .int 0, .int 0, .ref (mb 37)]))] s.heap := hP.sub [0] rfl
  have hDc : va_D A [(mo, .inr (7, [.int 0, .int 0, .int 0, .int 0, .ref (mb 0), .ref (mb 1), .ref (mb 2), .ref (mb 3), .ref (mb 4), .ref (mb 5), .ref (mb 6), .ref (mb 7), .ref (mb 8), .ref (mb 9), .ref (mb 10), .ref (mb 11), .ref (mb 12), .ref (mb 13), .ref (mb 14), .ref (mb 15), .ref (mb 16), .ref (mb 17), .ref (mb 18), .ref (mb 19), .ref (mb 20), .ref (mb 21), .ref (mb 22), .ref (mb 23), .ref (mb 24), .ref (mb 25), .ref (mb 26), .ref (mb 27), .ref (mb 28), .ref (mb 29), .ref (mb 30), .ref (mb 31), .ref (mb 32), .int 0, .int 0, .int 0, .int 0, .int 0, .int 0, .int 0, .ref (mb 33), .ref (mb 34), .ref (mb 35), .ref (mb 36), .int 0, .int 0, .int 0, .int 0, .ref (mb 37)]))] := hD.sub [0] (by decide) rfl
  refine zcalli (wr := []) (va_runV (As := [.int 1, .int 0]) (rest := []) ⟨hx, hb, hml, hown, zno⟩ (zm_goes2 l dC dI cI cZ cJ a0 s0 mo mb s.heap.size) (zcw 2 (hB.word (zm5 k5_56) rfl) (hB.word (zm1 k1_9) rfl) (hB.word (zm5 k5_53) rfl) (hB.word (zm5 k5_55) rfl) (k2_selects_private (by decide) (hB.word (zm4 k4_109) rfl) (hB.word (zm5 k5_54) rfl) (hB.word (zm5 k5_55) rfl)) rfl rfl (by decide +kernel) ⟨Nat.le_of_ble_eq_true rfl, Nat.le_of_ble_eq_true rfl⟩) ⟨zP_blind, va_recv hK hP (ci := 7) (q0 := 0) rfl rfl, zP_pre hPc hK hDc hAD (zB_on hB hA0 hS)⟩ rfl rfl hl.1 rfl (lv_room (Nat.le_of_ble_eq_true rfl)) dMO_ticks_42 ⟨Nat.le_of_ble_eq_true rfl, Nat.le_of_ble_eq_true rfl⟩) hP hD hS hA [0] [] rfl rfl (by decide) (by decide) (fun r1 H1 locs hr1 hP hD hS => ?_)
  generalize H1 = H at hP hS ⊢
  have hP : va_P (dC, dI) zCl [(mo, .inr (7, [.int 2, .int 0, .int 0, .int 0, .ref (mb 0), .ref (mb 1), .ref (mb 2), .ref (mb 3), .ref (mb 4), .ref (mb 5), .ref (mb 6), .ref (mb 7), .ref (mb 8), .ref (mb 9), .ref (mb 10), .ref (mb 11), .ref (mb 12), .ref (mb 13), .ref (mb 14), .ref (mb 15), .ref (mb 16), .ref (mb 17), .ref (mb 18), .ref (mb 19), .ref (mb 20), .ref (mb 21), .ref (mb 22), .ref (mb 23), .ref (mb 24), .ref (mb 25), .ref (mb 26), .ref (mb 27), .ref (mb 28), .ref (mb 29), .ref (mb 30), .ref (mb 31), .ref (mb 32), .int 0, .int 0, .int 0, .int 0, .int 0, .int 0, .int 0, .ref (mb 33), .ref (mb 34), .ref (mb 35), .ref (mb 36), .int 0, .int 0, .int 0, .int 0, .ref (mb 37)]))] H := hP
  have hD : va_D A [(mo, .inr (7, [.int 2, .int 0, .int 0, .int 0, .ref (mb 0), .ref (mb 1), .ref (mb 2), .ref (mb 3), .ref (mb 4), .ref (mb 5), .ref (mb 6), .ref (mb 7), .ref (mb 8), .ref (mb 9), .ref (mb 10), .ref (mb 11), .ref (mb 12), .ref (mb 13), .ref (mb 14), .ref (mb 15), .ref (mb 16), .ref (mb 17), .ref (mb 18), .ref (mb 19), .ref (mb 20), .ref (mb 21), .ref (mb 22), .ref (mb 23), .ref (mb 24), .ref (mb 25), .ref (mb 26), .ref (mb 27), .ref (mb 28), .ref (mb 29), .ref (mb 30), .ref (mb 31), .ref (mb 32), .int 0, .int 0, .int 0, .int 0, .int 0, .int 0, .int 0, .ref (mb 33), .ref (mb 34), .ref (mb 35), .ref (mb 36), .int 0, .int 0, .int 0, .int 0, .ref (mb 37)]))] := hD
  subst hr1
  refine lv_if_ne (tgt := 50) hx hb dMO_ticks_45 (by decide) (fun c9 => absurd (by decide) c9) (fun _ => ?_)
  refine lv_iconst (v := 0) hx hb dMO_ticks_48 (by decide) ?_
  refine W.widen (k := 0) (n := 0) (Nat.le_of_ble_eq_true rfl) (Nat.le_of_ble_eq_true rfl) ?_
  have hP9 : va_P (dC, dI) zCl [(mo, .inr (7, [.int 2, .int 0, .int 0, .int 0, .ref (mb 0), .ref (mb 1), .ref (mb 2), .ref (mb 3), .ref (mb 4), .ref (mb 5), .ref (mb 6), .ref (mb 7), .ref (mb 8), .ref (mb 9), .ref (mb 10), .ref (mb 11), .ref (mb 12), .ref (mb 13), .ref (mb 14), .ref (mb 15), .ref (mb 16), .ref (mb 17), .ref (mb 18), .ref (mb 19), .ref (mb 20), .ref (mb 21), .ref (mb 22), .ref (mb 23), .ref (mb 24), .ref (mb 25), .ref (mb 26), .ref (mb 27), .ref (mb 28), .ref (mb 29), .ref (mb 30), .ref (mb 31), .ref (mb 32), .int 0, .int 0, .int 0, .int 0, .int 0, .int 0, .int 0, .ref (mb 33), .ref (mb 34), .ref (mb 35), .ref (mb 36), .int 0, .int 0, .int 0, .int 0, .ref (mb 37)]))] H := hP.sub [0] rfl
  have hD9 : va_D A [(mo, .inr (7, [.int 2, .int 0, .int 0, .int 0, .ref (mb 0), .ref (mb 1), .ref (mb 2), .ref (mb 3), .ref (mb 4), .ref (mb 5), .ref (mb 6), .ref (mb 7), .ref (mb 8), .ref (mb 9), .ref (mb 10), .ref (mb 11), .ref (mb 12), .ref (mb 13), .ref (mb 14), .ref (mb 15), .ref (mb 16), .ref (mb 17), .ref (mb 18), .ref (mb 19), .ref (mb 20), .ref (mb 21), .ref (mb 22), .ref (mb 23), .ref (mb 24), .ref (mb 25), .ref (mb 26), .ref (mb 27), .ref (mb 28), .ref (mb 29), .ref (mb 30), .ref (mb 31), .ref (mb 32), .int 0, .int 0, .int 0, .int 0, .int 0, .int 0, .int 0, .ref (mb 33), .ref (mb 34), .ref (mb 35), .ref (mb 36), .int 0, .int 0, .int 0, .int 0, .ref (mb 37)]))] := hD.sub [0] (by decide) rfl
  exact W.iret (v := 0) hx hb hr (fun t ht hW => ⟨⟨0, (), rfl, rfl, by rw [ht]; exact hP9, hD9⟩, hS.F ht⟩) hS.2.2 dMO_ticks_49
set_option maxHeartbeats 4000000 in
set_option maxRecDepth 100000 in
theorem zm_send (l : Launch) (dC : Nat → ClassId) (dI : Nat → Nat → Nat) (cI cZ cJ : ClassId) (a0 : Array Value) (s0 : State) (mo : Nat) (mb : Nat → Nat) (sz : Nat) (fp : Nat → Int32) (p0 p1 p2 : Int32) (hf : ∀ j, j < 64 → fp j = -1) : Met l yMO_send [Cond.code yMO_send bMO_send 12 (some .int)] ({ frames := 1, cells := 0, slots := 0, locals := 22 } : Room) (zP zCl dC dI (zTY cI cZ cJ) a0 s0 [.ref mo, .int p0, .int p1, .int p2] sz [(mo, .inr (7, [.int 0, .int 0, .int 0, .int 0, .ref (mb 0), .ref (mb 1), .ref (mb 2), .ref (mb 3), .ref (mb 4), .ref (mb 5), .ref (mb 6), .ref (mb 7), .ref (mb 8), .ref (mb 9), .ref (mb 10), .ref (mb 11), .ref (mb 12), .ref (mb 13), .ref (mb 14), .ref (mb 15), .ref (mb 16), .ref (mb 17), .ref (mb 18), .ref (mb 19), .ref (mb 20), .ref (mb 21), .ref (mb 22), .ref (mb 23), .ref (mb 24), .ref (mb 25), .ref (mb 26), .ref (mb 27), .ref (mb 28), .ref (mb 29), .ref (mb 30), .ref (mb 31), .ref (mb 32), .int 0, .int 0, .int 0, .int 0, .int 0, .int 0, .int 0, .ref (mb 33), .ref (mb 34), .ref (mb 35), .ref (mb 36), .int 0, .int 0, .int 0, .int 0, .ref (mb 37)])), ((mb 22), .inl (cI, 64, .inl fp))]) (zQi zCl dC dI (fun r => r = 0) [(mo, .inr (7, [.int 1, .int 0, .int 0, .int 0, .ref (mb 0), .ref (mb 1), .ref (mb 2), .ref (mb 3), .ref (mb 4), .ref (mb 5), .ref (mb 6), .ref (mb 7), .ref (mb 8), .ref (mb 9), .ref (mb 10), .ref (mb 11), .ref (mb 12), .ref (mb 13), .ref (mb 14), .ref (mb 15), .ref (mb 16), .ref (mb 17), .ref (mb 18), .ref (mb 19), .ref (mb 20), .ref (mb 21), .ref (mb 22), .ref (mb 23), .ref (mb 24), .ref (mb 25), .ref (mb 26), .ref (mb 27), .ref (mb 28), .ref (mb 29), .ref (mb 30), .ref (mb 31), .ref (mb 32), .int 0, .int 0, .int 0, .int 0, .int 0, .int 0, .int 0, .ref (mb 33), .ref (mb 34), .ref (mb 35), .ref (mb 36), .int 0, .int 0, .int 0, .int 0, .ref (mb 37)])), ((mb 22), .inl (cI, 64, .inl fp))] (va_A [(mo, .inr (7, [.int 0, .int 0, .int 0, .int 0, .ref (mb 0), .ref (mb 1), .ref (mb 2), .ref (mb 3), .ref (mb 4), .ref (mb 5), .ref (mb 6), .ref (mb 7), .ref (mb 8), .ref (mb 9), .ref (mb 10), .ref (mb 11), .ref (mb 12), .ref (mb 13), .ref (mb 14), .ref (mb 15), .ref (mb 16), .ref (mb 17), .ref (mb 18), .ref (mb 19), .ref (mb 20), .ref (mb 21), .ref (mb 22), .ref (mb 23), .ref (mb 24), .ref (mb 25), .ref (mb 26), .ref (mb 27), .ref (mb 28), .ref (mb 29), .ref (mb 30), .ref (mb 31), .ref (mb 32), .int 0, .int 0, .int 0, .int 0, .int 0, .int 0, .int 0, .ref (mb 33), .ref (mb 34), .ref (mb 35), .ref (mb 36), .int 0, .int 0, .int 0, .int 0, .ref (mb 37)])), ((mb 22), .inl (cI, 64, .inl fp))] sz)) 0 0 (va_A [(mo, .inr (7, [.int 0, .int 0, .int 0, .int 0, .ref (mb 0), .ref (mb 1), .ref (mb 2), .ref (mb 3), .ref (mb 4), .ref (mb 5), .ref (mb 6), .ref (mb 7), .ref (mb 8), .ref (mb 9), .ref (mb 10), .ref (mb 11), .ref (mb 12), .ref (mb 13), .ref (mb 14), .ref (mb 15), .ref (mb 16), .ref (mb 17), .ref (mb 18), .ref (mb 19), .ref (mb 20), .ref (mb 21), .ref (mb 22), .ref (mb 23), .ref (mb 24), .ref (mb 25), .ref (mb 26), .ref (mb 27), .ref (mb 28), .ref (mb 29), .ref (mb 30), .ref (mb 31), .ref (mb 32), .int 0, .int 0, .int 0, .int 0, .int 0, .int 0, .int 0, .ref (mb 33), .ref (mb 34), .ref (mb 35), .ref (mb 36), .int 0, .int 0, .int 0, .int 0, .ref (mb 37)])), ((mb 22), .inl (cI, 64, .inl fp))] sz) := by
  refine Met.ofW (cc := bMO_send) (maxL := 12) (ret := (some .int)) (by decide) rfl ?_
  intro p e s m args below meth c s₁ B hml hv
  obtain ⟨rfl, hsz, hP, hK, hD0, hB⟩ := hv
  have hx := B.exec
  have hb := B.bytes
  have hr := B.returns
  have hown : s.vm.findClass "RingGuardModel" = some m.cls := findClass_of_methodNamed B.named
  have hlocks := B.notSynchronized
  subst hsz
  have hD := hD0.self (sz := s.heap.size)
  have hA0 := zA0 hD0 hB
  generalize hAe : va_A [(mo, .inr (7, [.int 0, .int 0, .int 0, .int 0, .ref (mb 0), .ref (mb 1), .ref (mb 2), .ref (mb 3), .ref (mb 4), .ref (mb 5), .ref (mb 6), .ref (mb 7), .ref (mb 8), .ref (mb 9), .ref (mb 10), .ref (mb 11), .ref (mb 12), .ref (mb 13), .ref (mb 14), .ref (mb 15), .ref (mb 16), .ref (mb 17), .ref (mb 18), .ref (mb 19), .ref (mb 20), .ref (mb 21), .ref (mb 22), .ref (mb 23), .ref (mb 24), .ref (mb 25), .ref (mb 26), .ref (mb 27), .ref (mb 28), .ref (mb 29), .ref (mb 30), .ref (mb 31), .ref (mb 32), .int 0, .int 0, .int 0, .int 0, .int 0, .int 0, .int 0, .ref (mb 33), .ref (mb 34), .ref (mb 35), .ref (mb 36), .int 0, .int 0, .int 0, .int 0, .ref (mb 37)])), ((mb 22), .inl (cI, 64, .inl fp))] s.heap.size = A at hD hA0 ⊢
  have hAD := hA0
  have hA : ∀ q : Nat, s.heap.size ≤ q → A q := fun q h => by rw [← hAe]; exact Or.inr h
  have hS : va_S A s.heap s.heap [] := va_S.rf
  have hP : va_P (dC, dI) zCl [(mo, .inr (7, [.int 0, .int 0, .int 0, .int 0, .ref (mb 0), .ref (mb 1), .ref (mb 2), .ref (mb 3), .ref (mb 4), .ref (mb 5), .ref (mb 6), .ref (mb 7), .ref (mb 8), .ref (mb 9), .ref (mb 10), .ref (mb 11), .ref (mb 12), .ref (mb 13), .ref (mb 14), .ref (mb 15), .ref (mb 16), .ref (mb 17), .ref (mb 18), .ref (mb 19), .ref (mb 20), .ref (mb 21), .ref (mb 22), .ref (mb 23), .ref (mb 24), .ref (mb 25), .ref (mb 26), .ref (mb 27), .ref (mb 28), .ref (mb 29), .ref (mb 30), .ref (mb 31), .ref (mb 32), .int 0, .int 0, .int 0, .int 0, .int 0, .int 0, .int 0, .ref (mb 33), .ref (mb 34), .ref (mb 35), .ref (mb 36), .int 0, .int 0, .int 0, .int 0, .ref (mb 37)])), ((mb 22), .inl (cI, 64, .inl fp))] s.heap := hP
  have hl := lv_entry ([.ref mo, .int p0, .int p1, .int p2]) (n := 12) (Nat.le_of_ble_eq_true rfl)
  rw [lg_entry_eq]
  generalize (lg_sl ([.ref mo, .int p0, .int p1, .int p2]) ++ List.replicate (12 - (lg_sl ([.ref mo, .int p0, .int p1, .int p2])).length) Slot.unset).toArray = ls at hl ⊢
  have hl : lv_has ls 12 [(0, .ref mo), (1, .int p0), (2, .int p1), (3, .int p2)] := hl
  refine lv_iload_n hx hb dMO_send_0 rfl (lv_at hl 1 rfl) ?_
  refine lv_if_lt (tgt := 38) hx hb dMO_send_1 (by decide) (fun c_1 => ?_) (fun c_1 => ?_)
  · refine lv_iconst (v := 0) hx hb dMO_send_38 (by decide) ?_
    refine lv_istore (lv' := [(4, .int 0), (0, .ref mo), (1, .int p0), (2, .int p1), (3, .int p2)]) hx hb dMO_send_39 hl (by decide) rfl (fun ls hl => ?_)
    refine lv_aload_n hx hb dMO_send_41 rfl (lv_at hl 1 rfl) ?_
    refine lv_iload hx hb dMO_send_42 (lv_at hl 0 rfl) ?_
    refine lv_if_eq (tgt := 71) hx hb dMO_send_44 (by decide) (fun _ => ?_) (fun c9 => absurd (by decide) c9)
    refine lv_iconst (v := 0) hx hb dMO_send_71 (by decide) ?_
    refine lv_aload_n hx hb dMO_send_72 rfl (lv_at hl 1 rfl) ?_
    have hu7 : ∀ w ∈ u_ws "RingGuardModel" T_MO 53, w.before ([.ref mo, .int p0, .int p1, .int p2] : List Value).toArray s = true := hB.words zU_MO
    refine va_get (D := (dC, dI)) (ci := 7) (v := .int 0) (C := "RingGuardModel") (T := T_MO) (N := 53) hx hb hu7 zid hown hK hP 0 rfl rfl 1 (by decide) (hB.word (zm4 k4_115) rfl) (fun _ h9 => h9) rfl dMO_send_73 ?_
    have hPc : va_P (dC, dI) zCl [(mo, .inr (7, [.int 0, .int 0, .int 0, .int 0, .ref (mb 0), .ref (mb 1), .ref (mb 2), .ref (mb 3), .ref (mb 4), .ref (mb 5), .ref (mb 6), .ref (mb 7), .ref (mb 8), .ref (mb 9), .ref (mb 10), .ref (mb 11), .ref (mb 12), .ref (mb 13), .ref (mb 14), .ref (mb 15), .ref (mb 16), .ref (mb 17), .ref (mb 18), .ref (mb 19), .ref (mb 20), .ref (mb 21), .ref (mb 22), .ref (mb 23), .ref (mb 24), .ref (mb 25), .ref (mb 26), .ref (mb 27), .ref (mb 28), .ref (mb 29), .ref (mb 30), .ref (mb 31), .ref (mb 32), .int 0, .int 0, .int 0, .int 0, .int 0, .int 0, .int 0, .ref (mb 33), .ref (mb 34), .ref (mb 35), .ref (mb 36), .int 0, .int 0, .int 0, .int 0, .ref (mb 37)]))] s.heap := hP.sub [0] rfl
    have hDc : va_D A [(mo, .inr (7, [.int 0, .int 0, .int 0, .int 0, .ref (mb 0), .ref (mb 1), .ref (mb 2), .ref (mb 3), .ref (mb 4), .ref (mb 5), .ref (mb 6), .ref (mb 7), .ref (mb 8), .ref (mb 9), .ref (mb 10), .ref (mb 11), .ref (mb 12), .ref (mb 13), .ref (mb 14), .ref (mb 15), .ref (mb 16), .ref (mb 17), .ref (mb 18), .ref (mb 19), .ref (mb 20), .ref (mb 21), .ref (mb 22), .ref (mb 23), .ref (mb 24), .ref (mb 25), .ref (mb 26), .ref (mb 27), .ref (mb 28), .ref (mb 29), .ref (mb 30), .ref (mb 31), .ref (mb 32), .int 0, .int 0, .int 0, .int 0, .int 0, .int 0, .int 0, .ref (mb 33), .ref (mb 34), .ref (mb 35), .ref (mb 36), .int 0, .int 0, .int 0, .int 0, .ref (mb 37)]))] := hD.sub [0] (by decide) rfl
    refine zcalli (wr := [((mb 22), .inl (cI, 64, .inl fp))]) (va_runV (As := [.int 0, .int 0]) (rest := []) ⟨hx, hb, hml, hown, zno⟩ (zm_goes0 l dC dI cI cZ cJ a0 s0 mo mb s.heap.size 0) (zcw 2 (hB.word (zm5 k5_56) rfl) (hB.word (zm1 k1_9) rfl) (hB.word (zm5 k5_53) rfl) (hB.word (zm5 k5_55) rfl) (k2_selects_private (by decide) (hB.word (zm4 k4_109) rfl) (hB.word (zm5 k5_54) rfl) (hB.word (zm5 k5_55) rfl)) rfl rfl (by decide +kernel) ⟨Nat.le_of_ble_eq_true rfl, Nat.le_of_ble_eq_true rfl⟩) ⟨zP_blind, va_recv hK hP (ci := 7) (q0 := 0) rfl rfl, zP_pre hPc hK hDc hAD (zB_on hB hA0 hS)⟩ rfl rfl hl.1 rfl (lv_room (Nat.le_of_ble_eq_true rfl)) dMO_send_76 ⟨Nat.le_of_ble_eq_true rfl, Nat.le_of_ble_eq_true rfl⟩) hP hD hS hA [0] [1] rfl rfl (by decide) (by decide) (fun r1 H1 locs hr1 hP hD hS => ?_)
    generalize H1 = H at hP hS ⊢
    have hP : va_P (dC, dI) zCl [((mb 22), .inl (cI, 64, .inl fp)), (mo, .inr (7, [.int 1, .int 0, .int 0, .int 0, .ref (mb 0), .ref (mb 1), .ref (mb 2), .ref (mb 3), .ref (mb 4), .ref (mb 5), .ref (mb 6), .ref (mb 7), .ref (mb 8), .ref (mb 9), .ref (mb 10), .ref (mb 11), .ref (mb 12), .ref (mb 13), .ref (mb 14), .ref (mb 15), .ref (mb 16), .ref (mb 17), .ref (mb 18), .ref (mb 19), .ref (mb 20), .ref (mb 21), .ref (mb 22), .ref (mb 23), .ref (mb 24), .ref (mb 25), .ref (mb 26), .ref (mb 27), .ref (mb 28), .ref (mb 29), .ref (mb 30), .ref (mb 31), .ref (mb 32), .int 0, .int 0, .int 0, .int 0, .int 0, .int 0, .int 0, .ref (mb 33), .ref (mb 34), .ref (mb 35), .ref (mb 36), .int 0, .int 0, .int 0, .int 0, .ref (mb 37)]))] H := hP
    have hD : va_D A [((mb 22), .inl (cI, 64, .inl fp)), (mo, .inr (7, [.int 1, .int 0, .int 0, .int 0, .ref (mb 0), .ref (mb 1), .ref (mb 2), .ref (mb 3), .ref (mb 4), .ref (mb 5), .ref (mb 6), .ref (mb 7), .ref (mb 8), .ref (mb 9), .ref (mb 10), .ref (mb 11), .ref (mb 12), .ref (mb 13), .ref (mb 14), .ref (mb 15), .ref (mb 16), .ref (mb 17), .ref (mb 18), .ref (mb 19), .ref (mb 20), .ref (mb 21), .ref (mb 22), .ref (mb 23), .ref (mb 24), .ref (mb 25), .ref (mb 26), .ref (mb 27), .ref (mb 28), .ref (mb 29), .ref (mb 30), .ref (mb 31), .ref (mb 32), .int 0, .int 0, .int 0, .int 0, .int 0, .int 0, .int 0, .ref (mb 33), .ref (mb 34), .ref (mb 35), .ref (mb 36), .int 0, .int 0, .int 0, .int 0, .ref (mb 37)]))] := hD
    subst hr1
    refine lv_if_ne (tgt := 84) hx hb dMO_send_79 (by decide) (fun c9 => absurd (by decide) c9) (fun _ => ?_)
    refine lv_iconst (v := 0) hx hb dMO_send_82 (by decide) ?_
    refine W.widen (k := 0) (n := 0) (Nat.le_of_ble_eq_true rfl) (Nat.le_of_ble_eq_true rfl) ?_
    have hP9 : va_P (dC, dI) zCl [(mo, .inr (7, [.int 1, .int 0, .int 0, .int 0, .ref (mb 0), .ref (mb 1), .ref (mb 2), .ref (mb 3), .ref (mb 4), .ref (mb 5), .ref (mb 6), .ref (mb 7), .ref (mb 8), .ref (mb 9), .ref (mb 10), .ref (mb 11), .ref (mb 12), .ref (mb 13), .ref (mb 14), .ref (mb 15), .ref (mb 16), .ref (mb 17), .ref (mb 18), .ref (mb 19), .ref (mb 20), .ref (mb 21), .ref (mb 22), .ref (mb 23), .ref (mb 24), .ref (mb 25), .ref (mb 26), .ref (mb 27), .ref (mb 28), .ref (mb 29), .ref (mb 30), .ref (mb 31), .ref (mb 32), .int 0, .int 0, .int 0, .int 0, .int 0, .int 0, .int 0, .ref (mb 33), .ref (mb 34), .ref (mb 35), .ref (mb 36), .int 0, .int 0, .int 0, .int 0, .ref (mb 37)])), ((mb 22), .inl (cI, 64, .inl fp))] H := hP.sub [1, 0] rfl
    have hD9 : va_D A [(mo, .inr (7, [.int 1, .int 0, .int 0, .int 0, .ref (mb 0), .ref (mb 1), .ref (mb 2), .ref (mb 3), .ref (mb 4), .ref (mb 5), .ref (mb 6), .ref (mb 7), .ref (mb 8), .ref (mb 9), .ref (mb 10), .ref (mb 11), .ref (mb 12), .ref (mb 13), .ref (mb 14), .ref (mb 15), .ref (mb 16), .ref (mb 17), .ref (mb 18), .ref (mb 19), .ref (mb 20), .ref (mb 21), .ref (mb 22), .ref (mb 23), .ref (mb 24), .ref (mb 25), .ref (mb 26), .ref (mb 27), .ref (mb 28), .ref (mb 29), .ref (mb 30), .ref (mb 31), .ref (mb 32), .int 0, .int 0, .int 0, .int 0, .int 0, .int 0, .int 0, .ref (mb 33), .ref (mb 34), .ref (mb 35), .ref (mb 36), .int 0, .int 0, .int 0, .int 0, .ref (mb 37)])), ((mb 22), .inl (cI, 64, .inl fp))] := hD.sub [1, 0] (by decide) rfl
    exact W.iret (v := 0) hx hb hr (fun t ht hW => ⟨⟨0, (), rfl, rfl, by rw [ht]; exact hP9, hD9⟩, hS.F ht⟩) hS.2.2 dMO_send_83
  · refine lv_iload_n hx hb dMO_send_4 rfl (lv_at hl 1 rfl) ?_
    refine lv_bipush (v := 64) hx hb dMO_send_5 (by decide) ?_
    refine lv_icmp_ge (tgt := 38) hx hb dMO_send_7 (by decide) (fun c_7 => ?_) (fun c_7 => ?_)
    · refine lv_iconst (v := 0) hx hb dMO_send_38 (by decide) ?_
      refine lv_istore (lv' := [(4, .int 0), (0, .ref mo), (1, .int p0), (2, .int p1), (3, .int p2)]) hx hb dMO_send_39 hl (by decide) rfl (fun ls hl => ?_)
      refine lv_aload_n hx hb dMO_send_41 rfl (lv_at hl 1 rfl) ?_
      refine lv_iload hx hb dMO_send_42 (lv_at hl 0 rfl) ?_
      refine lv_if_eq (tgt := 71) hx hb dMO_send_44 (by decide) (fun _ => ?_) (fun c9 => absurd (by decide) c9)
      refine lv_iconst (v := 0) hx hb dMO_send_71 (by decide) ?_
      refine lv_aload_n hx hb dMO_send_72 rfl (lv_at hl 1 rfl) ?_
      have hu7 : ∀ w ∈ u_ws "RingGuardModel" T_MO 53, w.before ([.ref mo, .int p0, .int p1, .int p2] : List Value).toArray s = true := hB.words zU_MO
      refine va_get (D := (dC, dI)) (ci := 7) (v := .int 0) (C := "RingGuardModel") (T := T_MO) (N := 53) hx hb hu7 zid hown hK hP 0 rfl rfl 1 (by decide) (hB.word (zm4 k4_115) rfl) (fun _ h9 => h9) rfl dMO_send_73 ?_
      have hPc : va_P (dC, dI) zCl [(mo, .inr (7, [.int 0, .int 0, .int 0, .int 0, .ref (mb 0), .ref (mb 1), .ref (mb 2), .ref (mb 3), .ref (mb 4), .ref (mb 5), .ref (mb 6), .ref (mb 7), .ref (mb 8), .ref (mb 9), .ref (mb 10), .ref (mb 11), .ref (mb 12), .ref (mb 13), .ref (mb 14), .ref (mb 15), .ref (mb 16), .ref (mb 17), .ref (mb 18), .ref (mb 19), .ref (mb 20), .ref (mb 21), .ref (mb 22), .ref (mb 23), .ref (mb 24), .ref (mb 25), .ref (mb 26), .ref (mb 27), .ref (mb 28), .ref (mb 29), .ref (mb 30), .ref (mb 31), .ref (mb 32), .int 0, .int 0, .int 0, .int 0, .int 0, .int 0, .int 0, .ref (mb 33), .ref (mb 34), .ref (mb 35), .ref (mb 36), .int 0, .int 0, .int 0, .int 0, .ref (mb 37)]))] s.heap := hP.sub [0] rfl
      have hDc : va_D A [(mo, .inr (7, [.int 0, .int 0, .int 0, .int 0, .ref (mb 0), .ref (mb 1), .ref (mb 2), .ref (mb 3), .ref (mb 4), .ref (mb 5), .ref (mb 6), .ref (mb 7), .ref (mb 8), .ref (mb 9), .ref (mb 10), .ref (mb 11), .ref (mb 12), .ref (mb 13), .ref (mb 14), .ref (mb 15), .ref (mb 16), .ref (mb 17), .ref (mb 18), .ref (mb 19), .ref (mb 20), .ref (mb 21), .ref (mb 22), .ref (mb 23), .ref (mb 24), .ref (mb 25), .ref (mb 26), .ref (mb 27), .ref (mb 28), .ref (mb 29), .ref (mb 30), .ref (mb 31), .ref (mb 32), .int 0, .int 0, .int 0, .int 0, .int 0, .int 0, .int 0, .ref (mb 33), .ref (mb 34), .ref (mb 35), .ref (mb 36), .int 0, .int 0, .int 0, .int 0, .ref (mb 37)]))] := hD.sub [0] (by decide) rfl
      refine zcalli (wr := [((mb 22), .inl (cI, 64, .inl fp))]) (va_runV (As := [.int 0, .int 0]) (rest := []) ⟨hx, hb, hml, hown, zno⟩ (zm_goes0 l dC dI cI cZ cJ a0 s0 mo mb s.heap.size 0) (zcw 2 (hB.word (zm5 k5_56) rfl) (hB.word (zm1 k1_9) rfl) (hB.word (zm5 k5_53) rfl) (hB.word (zm5 k5_55) rfl) (k2_selects_private (by decide) (hB.word (zm4 k4_109) rfl) (hB.word (zm5 k5_54) rfl) (hB.word (zm5 k5_55) rfl)) rfl rfl (by decide +kernel) ⟨Nat.le_of_ble_eq_true rfl, Nat.le_of_ble_eq_true rfl⟩) ⟨zP_blind, va_recv hK hP (ci := 7) (q0 := 0) rfl rfl, zP_pre hPc hK hDc hAD (zB_on hB hA0 hS)⟩ rfl rfl hl.1 rfl (lv_room (Nat.le_of_ble_eq_true rfl)) dMO_send_76 ⟨Nat.le_of_ble_eq_true rfl, Nat.le_of_ble_eq_true rfl⟩) hP hD hS hA [0] [1] rfl rfl (by decide) (by decide) (fun r2 H1 locs hr2 hP hD hS => ?_)
      generalize H1 = H at hP hS ⊢
      have hP : va_P (dC, dI) zCl [((mb 22), .inl (cI, 64, .inl fp)), (mo, .inr (7, [.int 1, .int 0, .int 0, .int 0, .ref (mb 0), .ref (mb 1), .ref (mb 2), .ref (mb 3), .ref (mb 4), .ref (mb 5), .ref (mb 6), .ref (mb 7), .ref (mb 8), .ref (mb 9), .ref (mb 10), .ref (mb 11), .ref (mb 12), .ref (mb 13), .ref (mb 14), .ref (mb 15), .ref (mb 16), .ref (mb 17), .ref (mb 18), .ref (mb 19), .ref (mb 20), .ref (mb 21), .ref (mb 22), .ref (mb 23), .ref (mb 24), .ref (mb 25), .ref (mb 26), .ref (mb 27), .ref (mb 28), .ref (mb 29), .ref (mb 30), .ref (mb 31), .ref (mb 32), .int 0, .int 0, .int 0, .int 0, .int 0, .int 0, .int 0, .ref (mb 33), .ref (mb 34), .ref (mb 35), .ref (mb 36), .int 0, .int 0, .int 0, .int 0, .ref (mb 37)]))] H := hP
      have hD : va_D A [((mb 22), .inl (cI, 64, .inl fp)), (mo, .inr (7, [.int 1, .int 0, .int 0, .int 0, .ref (mb 0), .ref (mb 1), .ref (mb 2), .ref (mb 3), .ref (mb 4), .ref (mb 5), .ref (mb 6), .ref (mb 7), .ref (mb 8), .ref (mb 9), .ref (mb 10), .ref (mb 11), .ref (mb 12), .ref (mb 13), .ref (mb 14), .ref (mb 15), .ref (mb 16), .ref (mb 17), .ref (mb 18), .ref (mb 19), .ref (mb 20), .ref (mb 21), .ref (mb 22), .ref (mb 23), .ref (mb 24), .ref (mb 25), .ref (mb 26), .ref (mb 27), .ref (mb 28), .ref (mb 29), .ref (mb 30), .ref (mb 31), .ref (mb 32), .int 0, .int 0, .int 0, .int 0, .int 0, .int 0, .int 0, .ref (mb 33), .ref (mb 34), .ref (mb 35), .ref (mb 36), .int 0, .int 0, .int 0, .int 0, .ref (mb 37)]))] := hD
      subst hr2
      refine lv_if_ne (tgt := 84) hx hb dMO_send_79 (by decide) (fun c9 => absurd (by decide) c9) (fun _ => ?_)
      refine lv_iconst (v := 0) hx hb dMO_send_82 (by decide) ?_
      refine W.widen (k := 0) (n := 0) (Nat.le_of_ble_eq_true rfl) (Nat.le_of_ble_eq_true rfl) ?_
      have hP9 : va_P (dC, dI) zCl [(mo, .inr (7, [.int 1, .int 0, .int 0, .int 0, .ref (mb 0), .ref (mb 1), .ref (mb 2), .ref (mb 3), .ref (mb 4), .ref (mb 5), .ref (mb 6), .ref (mb 7), .ref (mb 8), .ref (mb 9), .ref (mb 10), .ref (mb 11), .ref (mb 12), .ref (mb 13), .ref (mb 14), .ref (mb 15), .ref (mb 16), .ref (mb 17), .ref (mb 18), .ref (mb 19), .ref (mb 20), .ref (mb 21), .ref (mb 22), .ref (mb 23), .ref (mb 24), .ref (mb 25), .ref (mb 26), .ref (mb 27), .ref (mb 28), .ref (mb 29), .ref (mb 30), .ref (mb 31), .ref (mb 32), .int 0, .int 0, .int 0, .int 0, .int 0, .int 0, .int 0, .ref (mb 33), .ref (mb 34), .ref (mb 35), .ref (mb 36), .int 0, .int 0, .int 0, .int 0, .ref (mb 37)])), ((mb 22), .inl (cI, 64, .inl fp))] H := hP.sub [1, 0] rfl
      have hD9 : va_D A [(mo, .inr (7, [.int 1, .int 0, .int 0, .int 0, .ref (mb 0), .ref (mb 1), .ref (mb 2), .ref (mb 3), .ref (mb 4), .ref (mb 5), .ref (mb 6), .ref (mb 7), .ref (mb 8), .ref (mb 9), .ref (mb 10), .ref (mb 11), .ref (mb 12), .ref (mb 13), .ref (mb 14), .ref (mb 15), .ref (mb 16), .ref (mb 17), .ref (mb 18), .ref (mb 19), .ref (mb 20), .ref (mb 21), .ref (mb 22), .ref (mb 23), .ref (mb 24), .ref (mb 25), .ref (mb 26), .ref (mb 27), .ref (mb 28), .ref (mb 29), .ref (mb 30), .ref (mb 31), .ref (mb 32), .int 0, .int 0, .int 0, .int 0, .int 0, .int 0, .int 0, .ref (mb 33), .ref (mb 34), .ref (mb 35), .ref (mb 36), .int 0, .int 0, .int 0, .int 0, .ref (mb 37)])), ((mb 22), .inl (cI, 64, .inl fp))] := hD.sub [1, 0] (by decide) rfl
      exact W.iret (v := 0) hx hb hr (fun t ht hW => ⟨⟨0, (), rfl, rfl, by rw [ht]; exact hP9, hD9⟩, hS.F ht⟩) hS.2.2 dMO_send_83
    · refine lv_iload_n hx hb dMO_send_10 rfl (lv_at hl 2 rfl) ?_
      refine lv_if_lt (tgt := 38) hx hb dMO_send_11 (by decide) (fun c_11 => ?_) (fun c_11 => ?_)
      · refine lv_iconst (v := 0) hx hb dMO_send_38 (by decide) ?_
        refine lv_istore (lv' := [(4, .int 0), (0, .ref mo), (1, .int p0), (2, .int p1), (3, .int p2)]) hx hb dMO_send_39 hl (by decide) rfl (fun ls hl => ?_)
        refine lv_aload_n hx hb dMO_send_41 rfl (lv_at hl 1 rfl) ?_
        refine lv_iload hx hb dMO_send_42 (lv_at hl 0 rfl) ?_
        refine lv_if_eq (tgt := 71) hx hb dMO_send_44 (by decide) (fun _ => ?_) (fun c9 => absurd (by decide) c9)
        refine lv_iconst (v := 0) hx hb dMO_send_71 (by decide) ?_
        refine lv_aload_n hx hb dMO_send_72 rfl (lv_at hl 1 rfl) ?_
        have hu7 : ∀ w ∈ u_ws "RingGuardModel" T_MO 53, w.before ([.ref mo, .int p0, .int p1, .int p2] : List Value).toArray s = true := hB.words zU_MO
        refine va_get (D := (dC, dI)) (ci := 7) (v := .int 0) (C := "RingGuardModel") (T := T_MO) (N := 53) hx hb hu7 zid hown hK hP 0 rfl rfl 1 (by decide) (hB.word (zm4 k4_115) rfl) (fun _ h9 => h9) rfl dMO_send_73 ?_
        have hPc : va_P (dC, dI) zCl [(mo, .inr (7, [.int 0, .int 0, .int 0, .int 0, .ref (mb 0), .ref (mb 1), .ref (mb 2), .ref (mb 3), .ref (mb 4), .ref (mb 5), .ref (mb 6), .ref (mb 7), .ref (mb 8), .ref (mb 9), .ref (mb 10), .ref (mb 11), .ref (mb 12), .ref (mb 13), .ref (mb 14), .ref (mb 15), .ref (mb 16), .ref (mb 17), .ref (mb 18), .ref (mb 19), .ref (mb 20), .ref (mb 21), .ref (mb 22), .ref (mb 23), .ref (mb 24), .ref (mb 25), .ref (mb 26), .ref (mb 27), .ref (mb 28), .ref (mb 29), .ref (mb 30), .ref (mb 31), .ref (mb 32), .int 0, .int 0, .int 0, .int 0, .int 0, .int 0, .int 0, .ref (mb 33), .ref (mb 34), .ref (mb 35), .ref (mb 36), .int 0, .int 0, .int 0, .int 0, .ref (mb 37)]))] s.heap := hP.sub [0] rfl
        have hDc : va_D A [(mo, .inr (7, [.int 0, .int 0, .int 0, .int 0, .ref (mb 0), .ref (mb 1), .ref (mb 2), .ref (mb 3), .ref (mb 4), .ref (mb 5), .ref (mb 6), .ref (mb 7), .ref (mb 8), .ref (mb 9), .ref (mb 10), .ref (mb 11), .ref (mb 12), .ref (mb 13), .ref (mb 14), .ref (mb 15), .ref (mb 16), .ref (mb 17), .ref (mb 18), .ref (mb 19), .ref (mb 20), .ref (mb 21), .ref (mb 22), .ref (mb 23), .ref (mb 24), .ref (mb 25), .ref (mb 26), .ref (mb 27), .ref (mb 28), .ref (mb 29), .ref (mb 30), .ref (mb 31), .ref (mb 32), .int 0, .int 0, .int 0, .int 0, .int 0, .int 0, .int 0, .ref (mb 33), .ref (mb 34), .ref (mb 35), .ref (mb 36), .int 0, .int 0, .int 0, .int 0, .ref (mb 37)]))] := hD.sub [0] (by decide) rfl
        refine zcalli (wr := [((mb 22), .inl (cI, 64, .inl fp))]) (va_runV (As := [.int 0, .int 0]) (rest := []) ⟨hx, hb, hml, hown, zno⟩ (zm_goes0 l dC dI cI cZ cJ a0 s0 mo mb s.heap.size 0) (zcw 2 (hB.word (zm5 k5_56) rfl) (hB.word (zm1 k1_9) rfl) (hB.word (zm5 k5_53) rfl) (hB.word (zm5 k5_55) rfl) (k2_selects_private (by decide) (hB.word (zm4 k4_109) rfl) (hB.word (zm5 k5_54) rfl) (hB.word (zm5 k5_55) rfl)) rfl rfl (by decide +kernel) ⟨Nat.le_of_ble_eq_true rfl, Nat.le_of_ble_eq_true rfl⟩) ⟨zP_blind, va_recv hK hP (ci := 7) (q0 := 0) rfl rfl, zP_pre hPc hK hDc hAD (zB_on hB hA0 hS)⟩ rfl rfl hl.1 rfl (lv_room (Nat.le_of_ble_eq_true rfl)) dMO_send_76 ⟨Nat.le_of_ble_eq_true rfl, Nat.le_of_ble_eq_true rfl⟩) hP hD hS hA [0] [1] rfl rfl (by decide) (by decide) (fun r3 H1 locs hr3 hP hD hS => ?_)
        generalize H1 = H at hP hS ⊢
        have hP : va_P (dC, dI) zCl [((mb 22), .inl (cI, 64, .inl fp)), (mo, .inr (7, [.int 1, .int 0, .int 0, .int 0, .ref (mb 0), .ref (mb 1), .ref (mb 2), .ref (mb 3), .ref (mb 4), .ref (mb 5), .ref (mb 6), .ref (mb 7), .ref (mb 8), .ref (mb 9), .ref (mb 10), .ref (mb 11), .ref (mb 12), .ref (mb 13), .ref (mb 14), .ref (mb 15), .ref (mb 16), .ref (mb 17), .ref (mb 18), .ref (mb 19), .ref (mb 20), .ref (mb 21), .ref (mb 22), .ref (mb 23), .ref (mb 24), .ref (mb 25), .ref (mb 26), .ref (mb 27), .ref (mb 28), .ref (mb 29), .ref (mb 30), .ref (mb 31), .ref (mb 32), .int 0, .int 0, .int 0, .int 0, .int 0, .int 0, .int 0, .ref (mb 33), .ref (mb 34), .ref (mb 35), .ref (mb 36), .int 0, .int 0, .int 0, .int 0, .ref (mb 37)]))] H := hP
        have hD : va_D A [((mb 22), .inl (cI, 64, .inl fp)), (mo, .inr (7, [.int 1, .int 0, .int 0, .int 0, .ref (mb 0), .ref (mb 1), .ref (mb 2), .ref (mb 3), .ref (mb 4), .ref (mb 5), .ref (mb 6), .ref (mb 7), .ref (mb 8), .ref (mb 9), .ref (mb 10), .ref (mb 11), .ref (mb 12), .ref (mb 13), .ref (mb 14), .ref (mb 15), .ref (mb 16), .ref (mb 17), .ref (mb 18), .ref (mb 19), .ref (mb 20), .ref (mb 21), .ref (mb 22), .ref (mb 23), .ref (mb 24), .ref (mb 25), .ref (mb 26), .ref (mb 27), .ref (mb 28), .ref (mb 29), .ref (mb 30), .ref (mb 31), .ref (mb 32), .int 0, .int 0, .int 0, .int 0, .int 0, .int 0, .int 0, .ref (mb 33), .ref (mb 34), .ref (mb 35), .ref (mb 36), .int 0, .int 0, .int 0, .int 0, .ref (mb 37)]))] := hD
        subst hr3
        refine lv_if_ne (tgt := 84) hx hb dMO_send_79 (by decide) (fun c9 => absurd (by decide) c9) (fun _ => ?_)
        refine lv_iconst (v := 0) hx hb dMO_send_82 (by decide) ?_
        refine W.widen (k := 0) (n := 0) (Nat.le_of_ble_eq_true rfl) (Nat.le_of_ble_eq_true rfl) ?_
        have hP9 : va_P (dC, dI) zCl [(mo, .inr (7, [.int 1, .int 0, .int 0, .int 0, .ref (mb 0), .ref (mb 1), .ref (mb 2), .ref (mb 3), .ref (mb 4), .ref (mb 5), .ref (mb 6), .ref (mb 7), .ref (mb 8), .ref (mb 9), .ref (mb 10), .ref (mb 11), .ref (mb 12), .ref (mb 13), .ref (mb 14), .ref (mb 15), .ref (mb 16), .ref (mb 17), .ref (mb 18), .ref (mb 19), .ref (mb 20), .ref (mb 21), .ref (mb 22), .ref (mb 23), .ref (mb 24), .ref (mb 25), .ref (mb 26), .ref (mb 27), .ref (mb 28), .ref (mb 29), .ref (mb 30), .ref (mb 31), .ref (mb 32), .int 0, .int 0, .int 0, .int 0, .int 0, .int 0, .int 0, .ref (mb 33), .ref (mb 34), .ref (mb 35), .ref (mb 36), .int 0, .int 0, .int 0, .int 0, .ref (mb 37)])), ((mb 22), .inl (cI, 64, .inl fp))] H := hP.sub [1, 0] rfl
        have hD9 : va_D A [(mo, .inr (7, [.int 1, .int 0, .int 0, .int 0, .ref (mb 0), .ref (mb 1), .ref (mb 2), .ref (mb 3), .ref (mb 4), .ref (mb 5), .ref (mb 6), .ref (mb 7), .ref (mb 8), .ref (mb 9), .ref (mb 10), .ref (mb 11), .ref (mb 12), .ref (mb 13), .ref (mb 14), .ref (mb 15), .ref (mb 16), .ref (mb 17), .ref (mb 18), .ref (mb 19), .ref (mb 20), .ref (mb 21), .ref (mb 22), .ref (mb 23), .ref (mb 24), .ref (mb 25), .ref (mb 26), .ref (mb 27), .ref (mb 28), .ref (mb 29), .ref (mb 30), .ref (mb 31), .ref (mb 32), .int 0, .int 0, .int 0, .int 0, .int 0, .int 0, .int 0, .ref (mb 33), .ref (mb 34), .ref (mb 35), .ref (mb 36), .int 0, .int 0, .int 0, .int 0, .ref (mb 37)])), ((mb 22), .inl (cI, 64, .inl fp))] := hD.sub [1, 0] (by decide) rfl
        exact W.iret (v := 0) hx hb hr (fun t ht hW => ⟨⟨0, (), rfl, rfl, by rw [ht]; exact hP9, hD9⟩, hS.F ht⟩) hS.2.2 dMO_send_83
      · refine lv_iload_n hx hb dMO_send_14 rfl (lv_at hl 2 rfl) ?_
        refine lv_bipush (v := 64) hx hb dMO_send_15 (by decide) ?_
        refine lv_icmp_ge (tgt := 38) hx hb dMO_send_17 (by decide) (fun c_17 => ?_) (fun c_17 => ?_)
        · refine lv_iconst (v := 0) hx hb dMO_send_38 (by decide) ?_
          refine lv_istore (lv' := [(4, .int 0), (0, .ref mo), (1, .int p0), (2, .int p1), (3, .int p2)]) hx hb dMO_send_39 hl (by decide) rfl (fun ls hl => ?_)
          refine lv_aload_n hx hb dMO_send_41 rfl (lv_at hl 1 rfl) ?_
          refine lv_iload hx hb dMO_send_42 (lv_at hl 0 rfl) ?_
          refine lv_if_eq (tgt := 71) hx hb dMO_send_44 (by decide) (fun _ => ?_) (fun c9 => absurd (by decide) c9)
          refine lv_iconst (v := 0) hx hb dMO_send_71 (by decide) ?_
          refine lv_aload_n hx hb dMO_send_72 rfl (lv_at hl 1 rfl) ?_
          have hu7 : ∀ w ∈ u_ws "RingGuardModel" T_MO 53, w.before ([.ref mo, .int p0, .int p1, .int p2] : List Value).toArray s = true := hB.words zU_MO
          refine va_get (D := (dC, dI)) (ci := 7) (v := .int 0) (C := "RingGuardModel") (T := T_MO) (N := 53) hx hb hu7 zid hown hK hP 0 rfl rfl 1 (by decide) (hB.word (zm4 k4_115) rfl) (fun _ h9 => h9) rfl dMO_send_73 ?_
          have hPc : va_P (dC, dI) zCl [(mo, .inr (7, [.int 0, .int 0, .int 0, .int 0, .ref (mb 0), .ref (mb 1), .ref (mb 2), .ref (mb 3), .ref (mb 4), .ref (mb 5), .ref (mb 6), .ref (mb 7), .ref (mb 8), .ref (mb 9), .ref (mb 10), .ref (mb 11), .ref (mb 12), .ref (mb 13), .ref (mb 14), .ref (mb 15), .ref (mb 16), .ref (mb 17), .ref (mb 18), .ref (mb 19), .ref (mb 20), .ref (mb 21), .ref (mb 22), .ref (mb 23), .ref (mb 24), .ref (mb 25), .ref (mb 26), .ref (mb 27), .ref (mb 28), .ref (mb 29), .ref (mb 30), .ref (mb 31), .ref (mb 32), .int 0, .int 0, .int 0, .int 0, .int 0, .int 0, .int 0, .ref (mb 33), .ref (mb 34), .ref (mb 35), .ref (mb 36), .int 0, .int 0, .int 0, .int 0, .ref (mb 37)]))] s.heap := hP.sub [0] rfl
          have hDc : va_D A [(mo, .inr (7, [.int 0, .int 0, .int 0, .int 0, .ref (mb 0), .ref (mb 1), .ref (mb 2), .ref (mb 3), .ref (mb 4), .ref (mb 5), .ref (mb 6), .ref (mb 7), .ref (mb 8), .ref (mb 9), .ref (mb 10), .ref (mb 11), .ref (mb 12), .ref (mb 13), .ref (mb 14), .ref (mb 15), .ref (mb 16), .ref (mb 17), .ref (mb 18), .ref (mb 19), .ref (mb 20), .ref (mb 21), .ref (mb 22), .ref (mb 23), .ref (mb 24), .ref (mb 25), .ref (mb 26), .ref (mb 27), .ref (mb 28), .ref (mb 29), .ref (mb 30), .ref (mb 31), .ref (mb 32), .int 0, .int 0, .int 0, .int 0, .int 0, .int 0, .int 0, .ref (mb 33), .ref (mb 34), .ref (mb 35), .ref (mb 36), .int 0, .int 0, .int 0, .int 0, .ref (mb 37)]))] := hD.sub [0] (by decide) rfl
          refine zcalli (wr := [((mb 22), .inl (cI, 64, .inl fp))]) (va_runV (As := [.int 0, .int 0]) (rest := []) ⟨hx, hb, hml, hown, zno⟩ (zm_goes0 l dC dI cI cZ cJ a0 s0 mo mb s.heap.size 0) (zcw 2 (hB.word (zm5 k5_56) rfl) (hB.word (zm1 k1_9) rfl) (hB.word (zm5 k5_53) rfl) (hB.word (zm5 k5_55) rfl) (k2_selects_private (by decide) (hB.word (zm4 k4_109) rfl) (hB.word (zm5 k5_54) rfl) (hB.word (zm5 k5_55) rfl)) rfl rfl (by decide +kernel) ⟨Nat.le_of_ble_eq_true rfl, Nat.le_of_ble_eq_true rfl⟩) ⟨zP_blind, va_recv hK hP (ci := 7) (q0 := 0) rfl rfl, zP_pre hPc hK hDc hAD (zB_on hB hA0 hS)⟩ rfl rfl hl.1 rfl (lv_room (Nat.le_of_ble_eq_true rfl)) dMO_send_76 ⟨Nat.le_of_ble_eq_true rfl, Nat.le_of_ble_eq_true rfl⟩) hP hD hS hA [0] [1] rfl rfl (by decide) (by decide) (fun r4 H1 locs hr4 hP hD hS => ?_)
          generalize H1 = H at hP hS ⊢
          have hP : va_P (dC, dI) zCl [((mb 22), .inl (cI, 64, .inl fp)), (mo, .inr (7, [.int 1, .int 0, .int 0, .int 0, .ref (mb 0), .ref (mb 1), .ref (mb 2), .ref (mb 3), .ref (mb 4), .ref (mb 5), .ref (mb 6), .ref (mb 7), .ref (mb 8), .ref (mb 9), .ref (mb 10), .ref (mb 11), .ref (mb 12), .ref (mb 13), .ref (mb 14), .ref (mb 15), .ref (mb 16), .ref (mb 17), .ref (mb 18), .ref (mb 19), .ref (mb 20), .ref (mb 21), .ref (mb 22), .ref (mb 23), .ref (mb 24), .ref (mb 25), .ref (mb 26), .ref (mb 27), .ref (mb 28), .ref (mb 29), .ref (mb 30), .ref (mb 31), .ref (mb 32), .int 0, .int 0, .int 0, .int 0, .int 0, .int 0, .int 0, .ref (mb 33), .ref (mb 34), .ref (mb 35), .ref (mb 36), .int 0, .int 0, .int 0, .int 0, .ref (mb 37)]))] H := hP
          have hD : va_D A [((mb 22), .inl (cI, 64, .inl fp)), (mo, .inr (7, [.int 1, .int 0, .int 0, .int 0, .ref (mb 0), .ref (mb 1), .ref (mb 2), .ref (mb 3), .ref (mb 4), .ref (mb 5), .ref (mb 6), .ref (mb 7), .ref (mb 8), .ref (mb 9), .ref (mb 10), .ref (mb 11), .ref (mb 12), .ref (mb 13), .ref (mb 14), .ref (mb 15), .ref (mb 16), .ref (mb 17), .ref (mb 18), .ref (mb 19), .ref (mb 20), .ref (mb 21), .ref (mb 22), .ref (mb 23), .ref (mb 24), .ref (mb 25), .ref (mb 26), .ref (mb 27), .ref (mb 28), .ref (mb 29), .ref (mb 30), .ref (mb 31), .ref (mb 32), .int 0, .int 0, .int 0, .int 0, .int 0, .int 0, .int 0, .ref (mb 33), .ref (mb 34), .ref (mb 35), .ref (mb 36), .int 0, .int 0, .int 0, .int 0, .ref (mb 37)]))] := hD
          subst hr4
          refine lv_if_ne (tgt := 84) hx hb dMO_send_79 (by decide) (fun c9 => absurd (by decide) c9) (fun _ => ?_)
          refine lv_iconst (v := 0) hx hb dMO_send_82 (by decide) ?_
          refine W.widen (k := 0) (n := 0) (Nat.le_of_ble_eq_true rfl) (Nat.le_of_ble_eq_true rfl) ?_
          have hP9 : va_P (dC, dI) zCl [(mo, .inr (7, [.int 1, .int 0, .int 0, .int 0, .ref (mb 0), .ref (mb 1), .ref (mb 2), .ref (mb 3), .ref (mb 4), .ref (mb 5), .ref (mb 6), .ref (mb 7), .ref (mb 8), .ref (mb 9), .ref (mb 10), .ref (mb 11), .ref (mb 12), .ref (mb 13), .ref (mb 14), .ref (mb 15), .ref (mb 16), .ref (mb 17), .ref (mb 18), .ref (mb 19), .ref (mb 20), .ref (mb 21), .ref (mb 22), .ref (mb 23), .ref (mb 24), .ref (mb 25), .ref (mb 26), .ref (mb 27), .ref (mb 28), .ref (mb 29), .ref (mb 30), .ref (mb 31), .ref (mb 32), .int 0, .int 0, .int 0, .int 0, .int 0, .int 0, .int 0, .ref (mb 33), .ref (mb 34), .ref (mb 35), .ref (mb 36), .int 0, .int 0, .int 0, .int 0, .ref (mb 37)])), ((mb 22), .inl (cI, 64, .inl fp))] H := hP.sub [1, 0] rfl
          have hD9 : va_D A [(mo, .inr (7, [.int 1, .int 0, .int 0, .int 0, .ref (mb 0), .ref (mb 1), .ref (mb 2), .ref (mb 3), .ref (mb 4), .ref (mb 5), .ref (mb 6), .ref (mb 7), .ref (mb 8), .ref (mb 9), .ref (mb 10), .ref (mb 11), .ref (mb 12), .ref (mb 13), .ref (mb 14), .ref (mb 15), .ref (mb 16), .ref (mb 17), .ref (mb 18), .ref (mb 19), .ref (mb 20), .ref (mb 21), .ref (mb 22), .ref (mb 23), .ref (mb 24), .ref (mb 25), .ref (mb 26), .ref (mb 27), .ref (mb 28), .ref (mb 29), .ref (mb 30), .ref (mb 31), .ref (mb 32), .int 0, .int 0, .int 0, .int 0, .int 0, .int 0, .int 0, .ref (mb 33), .ref (mb 34), .ref (mb 35), .ref (mb 36), .int 0, .int 0, .int 0, .int 0, .ref (mb 37)])), ((mb 22), .inl (cI, 64, .inl fp))] := hD.sub [1, 0] (by decide) rfl
          exact W.iret (v := 0) hx hb hr (fun t ht hW => ⟨⟨0, (), rfl, rfl, by rw [ht]; exact hP9, hD9⟩, hS.F ht⟩) hS.2.2 dMO_send_83
        · refine lv_iload_n hx hb dMO_send_20 rfl (lv_at hl 3 rfl) ?_
          refine lv_if_lt (tgt := 38) hx hb dMO_send_21 (by decide) (fun c_21 => ?_) (fun c_21 => ?_)
          · refine lv_iconst (v := 0) hx hb dMO_send_38 (by decide) ?_
            refine lv_istore (lv' := [(4, .int 0), (0, .ref mo), (1, .int p0), (2, .int p1), (3, .int p2)]) hx hb dMO_send_39 hl (by decide) rfl (fun ls hl => ?_)
            refine lv_aload_n hx hb dMO_send_41 rfl (lv_at hl 1 rfl) ?_
            refine lv_iload hx hb dMO_send_42 (lv_at hl 0 rfl) ?_
            refine lv_if_eq (tgt := 71) hx hb dMO_send_44 (by decide) (fun _ => ?_) (fun c9 => absurd (by decide) c9)
            refine lv_iconst (v := 0) hx hb dMO_send_71 (by decide) ?_
            refine lv_aload_n hx hb dMO_send_72 rfl (lv_at hl 1 rfl) ?_
            have hu7 : ∀ w ∈ u_ws "RingGuardModel" T_MO 53, w.before ([.ref mo, .int p0, .int p1, .int p2] : List Value).toArray s = true := hB.words zU_MO
            refine va_get (D := (dC, dI)) (ci := 7) (v := .int 0) (C := "RingGuardModel") (T := T_MO) (N := 53) hx hb hu7 zid hown hK hP 0 rfl rfl 1 (by decide) (hB.word (zm4 k4_115) rfl) (fun _ h9 => h9) rfl dMO_send_73 ?_
            have hPc : va_P (dC, dI) zCl [(mo, .inr (7, [.int 0, .int 0, .int 0, .int 0, .ref (mb 0), .ref (mb 1), .ref (mb 2), .ref (mb 3), .ref (mb 4), .ref (mb 5), .ref (mb 6), .ref (mb 7), .ref (mb 8), .ref (mb 9), .ref (mb 10), .ref (mb 11), .ref (mb 12), .ref (mb 13), .ref (mb 14), .ref (mb 15), .ref (mb 16), .ref (mb 17), .ref (mb 18), .ref (mb 19), .ref (mb 20), .ref (mb 21), .ref (mb 22), .ref (mb 23), .ref (mb 24), .ref (mb 25), .ref (mb 26), .ref (mb 27), .ref (mb 28), .ref (mb 29), .ref (mb 30), .ref (mb 31), .ref (mb 32), .int 0, .int 0, .int 0, .int 0, .int 0, .int 0, .int 0, .ref (mb 33), .ref (mb 34), .ref (mb 35), .ref (mb 36), .int 0, .int 0, .int 0, .int 0, .ref (mb 37)]))] s.heap := hP.sub [0] rfl
            have hDc : va_D A [(mo, .inr (7, [.int 0, .int 0, .int 0, .int 0, .ref (mb 0), .ref (mb 1), .ref (mb 2), .ref (mb 3), .ref (mb 4), .ref (mb 5), .ref (mb 6), .ref (mb 7), .ref (mb 8), .ref (mb 9), .ref (mb 10), .ref (mb 11), .ref (mb 12), .ref (mb 13), .ref (mb 14), .ref (mb 15), .ref (mb 16), .ref (mb 17), .ref (mb 18), .ref (mb 19), .ref (mb 20), .ref (mb 21), .ref (mb 22), .ref (mb 23), .ref (mb 24), .ref (mb 25), .ref (mb 26), .ref (mb 27), .ref (mb 28), .ref (mb 29), .ref (mb 30), .ref (mb 31), .ref (mb 32), .int 0, .int 0, .int 0, .int 0, .int 0, .int 0, .int 0, .ref (mb 33), .ref (mb 34), .ref (mb 35), .ref (mb 36), .int 0, .int 0, .int 0, .int 0, .ref (mb 37)]))] := hD.sub [0] (by decide) rfl
            refine zcalli (wr := [((mb 22), .inl (cI, 64, .inl fp))]) (va_runV (As := [.int 0, .int 0]) (rest := []) ⟨hx, hb, hml, hown, zno⟩ (zm_goes0 l dC dI cI cZ cJ a0 s0 mo mb s.heap.size 0) (zcw 2 (hB.word (zm5 k5_56) rfl) (hB.word (zm1 k1_9) rfl) (hB.word (zm5 k5_53) rfl) (hB.word (zm5 k5_55) rfl) (k2_selects_private (by decide) (hB.word (zm4 k4_109) rfl) (hB.word (zm5 k5_54) rfl) (hB.word (zm5 k5_55) rfl)) rfl rfl (by decide +kernel) ⟨Nat.le_of_ble_eq_true rfl, Nat.le_of_ble_eq_true rfl⟩) ⟨zP_blind, va_recv hK hP (ci := 7) (q0 := 0) rfl rfl, zP_pre hPc hK hDc hAD (zB_on hB hA0 hS)⟩ rfl rfl hl.1 rfl (lv_room (Nat.le_of_ble_eq_true rfl)) dMO_send_76 ⟨Nat.le_of_ble_eq_true rfl, Nat.le_of_ble_eq_true rfl⟩) hP hD hS hA [0] [1] rfl rfl (by decide) (by decide) (fun r5 H1 locs hr5 hP hD hS => ?_)
            generalize H1 = H at hP hS ⊢
            have hP : va_P (dC, dI) zCl [((mb 22), .inl (cI, 64, .inl fp)), (mo, .inr (7, [.int 1, .int 0, .int 0, .int 0, .ref (mb 0), .ref (mb 1), .ref (mb 2), .ref (mb 3), .ref (mb 4), .ref (mb 5), .ref (mb 6), .ref (mb 7), .ref (mb 8), .ref (mb 9), .ref (mb 10), .ref (mb 11), .ref (mb 12), .ref (mb 13), .ref (mb 14), .ref (mb 15), .ref (mb 16), .ref (mb 17), .ref (mb 18), .ref (mb 19), .ref (mb 20), .ref (mb 21), .ref (mb 22), .ref (mb 23), .ref (mb 24), .ref (mb 25), .ref (mb 26), .ref (mb 27), .ref (mb 28), .ref (mb 29), .ref (mb 30), .ref (mb 31), .ref (mb 32), .int 0, .int 0, .int 0, .int 0, .int 0, .int 0, .int 0, .ref (mb 33), .ref (mb 34), .ref (mb 35), .ref (mb 36), .int 0, .int 0, .int 0, .int 0, .ref (mb 37)]))] H := hP
            have hD : va_D A [((mb 22), .inl (cI, 64, .inl fp)), (mo, .inr (7, [.int 1, .int 0, .int 0, .int 0, .ref (mb 0), .ref (mb 1), .ref (mb 2), .ref (mb 3), .ref (mb 4), .ref (mb 5), .ref (mb 6), .ref (mb 7), .ref (mb 8), .ref (mb 9), .ref (mb 10), .ref (mb 11), .ref (mb 12), .ref (mb 13), .ref (mb 14), .ref (mb 15), .ref (mb 16), .ref (mb 17), .ref (mb 18), .ref (mb 19), .ref (mb 20), .ref (mb 21), .ref (mb 22), .ref (mb 23), .ref (mb 24), .ref (mb 25), .ref (mb 26), .ref (mb 27), .ref (mb 28), .ref (mb 29), .ref (mb 30), .ref (mb 31), .ref (mb 32), .int 0, .int 0, .int 0, .int 0, .int 0, .int 0, .int 0, .ref (mb 33), .ref (mb 34), .ref (mb 35), .ref (mb 36), .int 0, .int 0, .int 0, .int 0, .ref (mb 37)]))] := hD
            subst hr5
            refine lv_if_ne (tgt := 84) hx hb dMO_send_79 (by decide) (fun c9 => absurd (by decide) c9) (fun _ => ?_)
            refine lv_iconst (v := 0) hx hb dMO_send_82 (by decide) ?_
            refine W.widen (k := 0) (n := 0) (Nat.le_of_ble_eq_true rfl) (Nat.le_of_ble_eq_true rfl) ?_
            have hP9 : va_P (dC, dI) zCl [(mo, .inr (7, [.int 1, .int 0, .int 0, .int 0, .ref (mb 0), .ref (mb 1), .ref (mb 2), .ref (mb 3), .ref (mb 4), .ref (mb 5), .ref (mb 6), .ref (mb 7), .ref (mb 8), .ref (mb 9), .ref (mb 10), .ref (mb 11), .ref (mb 12), .ref (mb 13), .ref (mb 14), .ref (mb 15), .ref (mb 16), .ref (mb 17), .ref (mb 18), .ref (mb 19), .ref (mb 20), .ref (mb 21), .ref (mb 22), .ref (mb 23), .ref (mb 24), .ref (mb 25), .ref (mb 26), .ref (mb 27), .ref (mb 28), .ref (mb 29), .ref (mb 30), .ref (mb 31), .ref (mb 32), .int 0, .int 0, .int 0, .int 0, .int 0, .int 0, .int 0, .ref (mb 33), .ref (mb 34), .ref (mb 35), .ref (mb 36), .int 0, .int 0, .int 0, .int 0, .ref (mb 37)])), ((mb 22), .inl (cI, 64, .inl fp))] H := hP.sub [1, 0] rfl
            have hD9 : va_D A [(mo, .inr (7, [.int 1, .int 0, .int 0, .int 0, .ref (mb 0), .ref (mb 1), .ref (mb 2), .ref (mb 3), .ref (mb 4), .ref (mb 5), .ref (mb 6), .ref (mb 7), .ref (mb 8), .ref (mb 9), .ref (mb 10), .ref (mb 11), .ref (mb 12), .ref (mb 13), .ref (mb 14), .ref (mb 15), .ref (mb 16), .ref (mb 17), .ref (mb 18), .ref (mb 19), .ref (mb 20), .ref (mb 21), .ref (mb 22), .ref (mb 23), .ref (mb 24), .ref (mb 25), .ref (mb 26), .ref (mb 27), .ref (mb 28), .ref (mb 29), .ref (mb 30), .ref (mb 31), .ref (mb 32), .int 0, .int 0, .int 0, .int 0, .int 0, .int 0, .int 0, .ref (mb 33), .ref (mb 34), .ref (mb 35), .ref (mb 36), .int 0, .int 0, .int 0, .int 0, .ref (mb 37)])), ((mb 22), .inl (cI, 64, .inl fp))] := hD.sub [1, 0] (by decide) rfl
            exact W.iret (v := 0) hx hb hr (fun t ht hW => ⟨⟨0, (), rfl, rfl, by rw [ht]; exact hP9, hD9⟩, hS.F ht⟩) hS.2.2 dMO_send_83
          · refine lv_iload_n hx hb dMO_send_24 rfl (lv_at hl 3 rfl) ?_
            refine lv_iconst (v := 4) hx hb dMO_send_25 (by decide) ?_
            refine lv_icmp_ge (tgt := 38) hx hb dMO_send_26 (by decide) (fun c_26 => ?_) (fun c_26 => ?_)
            · refine lv_iconst (v := 0) hx hb dMO_send_38 (by decide) ?_
              refine lv_istore (lv' := [(4, .int 0), (0, .ref mo), (1, .int p0), (2, .int p1), (3, .int p2)]) hx hb dMO_send_39 hl (by decide) rfl (fun ls hl => ?_)
              refine lv_aload_n hx hb dMO_send_41 rfl (lv_at hl 1 rfl) ?_
              refine lv_iload hx hb dMO_send_42 (lv_at hl 0 rfl) ?_
              refine lv_if_eq (tgt := 71) hx hb dMO_send_44 (by decide) (fun _ => ?_) (fun c9 => absurd (by decide) c9)
              refine lv_iconst (v := 0) hx hb dMO_send_71 (by decide) ?_
              refine lv_aload_n hx hb dMO_send_72 rfl (lv_at hl 1 rfl) ?_
              have hu7 : ∀ w ∈ u_ws "RingGuardModel" T_MO 53, w.before ([.ref mo, .int p0, .int p1, .int p2] : List Value).toArray s = true := hB.words zU_MO
              refine va_get (D := (dC, dI)) (ci := 7) (v := .int 0) (C := "RingGuardModel") (T := T_MO) (N := 53) hx hb hu7 zid hown hK hP 0 rfl rfl 1 (by decide) (hB.word (zm4 k4_115) rfl) (fun _ h9 => h9) rfl dMO_send_73 ?_
              have hPc : va_P (dC, dI) zCl [(mo, .inr (7, [.int 0, .int 0, .int 0, .int 0, .ref (mb 0), .ref (mb 1), .ref (mb 2), .ref (mb 3), .ref (mb 4), .ref (mb 5), .ref (mb 6), .ref (mb 7), .ref (mb 8), .ref (mb 9), .ref (mb 10), .ref (mb 11), .ref (mb 12), .ref (mb 13), .ref (mb 14), .ref (mb 15), .ref (mb 16), .ref (mb 17), .ref (mb 18), .ref (mb 19), .ref (mb 20), .ref (mb 21), .ref (mb 22), .ref (mb 23), .ref (mb 24), .ref (mb 25), .ref (mb 26), .ref (mb 27), .ref (mb 28), .ref (mb 29), .ref (mb 30), .ref (mb 31), .ref (mb 32), .int 0, .int 0, .int 0, .int 0, .int 0, .int 0, .int 0, .ref (mb 33), .ref (mb 34), .ref (mb 35), .ref (mb 36), .int 0, .int 0, .int 0, .int 0, .ref (mb 37)]))] s.heap := hP.sub [0] rfl
              have hDc : va_D A [(mo, .inr (7, [.int 0, .int 0, .int 0, .int 0, .ref (mb 0), .ref (mb 1), .ref (mb 2), .ref (mb 3), .ref (mb 4), .ref (mb 5), .ref (mb 6), .ref (mb 7), .ref (mb 8), .ref (mb 9), .ref (mb 10), .ref (mb 11), .ref (mb 12), .ref (mb 13), .ref (mb 14), .ref (mb 15), .ref (mb 16), .ref (mb 17), .ref (mb 18), .ref (mb 19), .ref (mb 20), .ref (mb 21), .ref (mb 22), .ref (mb 23), .ref (mb 24), .ref (mb 25), .ref (mb 26), .ref (mb 27), .ref (mb 28), .ref (mb 29), .ref (mb 30), .ref (mb 31), .ref (mb 32), .int 0, .int 0, .int 0, .int 0, .int 0, .int 0, .int 0, .ref (mb 33), .ref (mb 34), .ref (mb 35), .ref (mb 36), .int 0, .int 0, .int 0, .int 0, .ref (mb 37)]))] := hD.sub [0] (by decide) rfl
              refine zcalli (wr := [((mb 22), .inl (cI, 64, .inl fp))]) (va_runV (As := [.int 0, .int 0]) (rest := []) ⟨hx, hb, hml, hown, zno⟩ (zm_goes0 l dC dI cI cZ cJ a0 s0 mo mb s.heap.size 0) (zcw 2 (hB.word (zm5 k5_56) rfl) (hB.word (zm1 k1_9) rfl) (hB.word (zm5 k5_53) rfl) (hB.word (zm5 k5_55) rfl) (k2_selects_private (by decide) (hB.word (zm4 k4_109) rfl) (hB.word (zm5 k5_54) rfl) (hB.word (zm5 k5_55) rfl)) rfl rfl (by decide +kernel) ⟨Nat.le_of_ble_eq_true rfl, Nat.le_of_ble_eq_true rfl⟩) ⟨zP_blind, va_recv hK hP (ci := 7) (q0 := 0) rfl rfl, zP_pre hPc hK hDc hAD (zB_on hB hA0 hS)⟩ rfl rfl hl.1 rfl (lv_room (Nat.le_of_ble_eq_true rfl)) dMO_send_76 ⟨Nat.le_of_ble_eq_true rfl, Nat.le_of_ble_eq_true rfl⟩) hP hD hS hA [0] [1] rfl rfl (by decide) (by decide) (fun r6 H1 locs hr6 hP hD hS => ?_)
              generalize H1 = H at hP hS ⊢
              have hP : va_P (dC, dI) zCl [((mb 22), .inl (cI, 64, .inl fp)), (mo, .inr (7, [.int 1, .int 0, .int 0, .int 0, .ref (mb 0), .ref (mb 1), .ref (mb 2), .ref (mb 3), .ref (mb 4), .ref (mb 5), .ref (mb 6), .ref (mb 7), .ref (mb 8), .ref (mb 9), .ref (mb 10), .ref (mb 11), .ref (mb 12), .ref (mb 13), .ref (mb 14), .ref (mb 15), .ref (mb 16), .ref (mb 17), .ref (mb 18), .ref (mb 19), .ref (mb 20), .ref (mb 21), .ref (mb 22), .ref (mb 23), .ref (mb 24), .ref (mb 25), .ref (mb 26), .ref (mb 27), .ref (mb 28), .ref (mb 29), .ref (mb 30), .ref (mb 31), .ref (mb 32), .int 0, .int 0, .int 0, .int 0, .int 0, .int 0, .int 0, .ref (mb 33), .ref (mb 34), .ref (mb 35), .ref (mb 36), .int 0, .int 0, .int 0, .int 0, .ref (mb 37)]))] H := hP
              have hD : va_D A [((mb 22), .inl (cI, 64, .inl fp)), (mo, .inr (7, [.int 1, .int 0, .int 0, .int 0, .ref (mb 0), .ref (mb 1), .ref (mb 2), .ref (mb 3), .ref (mb 4), .ref (mb 5), .ref (mb 6), .ref (mb 7), .ref (mb 8), .ref (mb 9), .ref (mb 10), .ref (mb 11), .ref (mb 12), .ref (mb 13), .ref (mb 14), .ref (mb 15), .ref (mb 16), .ref (mb 17), .ref (mb 18), .ref (mb 19), .ref (mb 20), .ref (mb 21), .ref (mb 22), .ref (mb 23), .ref (mb 24), .ref (mb 25), .ref (mb 26), .ref (mb 27), .ref (mb 28), .ref (mb 29), .ref (mb 30), .ref (mb 31), .ref (mb 32), .int 0, .int 0, .int 0, .int 0, .int 0, .int 0, .int 0, .ref (mb 33), .ref (mb 34), .ref (mb 35), .ref (mb 36), .int 0, .int 0, .int 0, .int 0, .ref (mb 37)]))] := hD
              subst hr6
              refine lv_if_ne (tgt := 84) hx hb dMO_send_79 (by decide) (fun c9 => absurd (by decide) c9) (fun _ => ?_)
              refine lv_iconst (v := 0) hx hb dMO_send_82 (by decide) ?_
              refine W.widen (k := 0) (n := 0) (Nat.le_of_ble_eq_true rfl) (Nat.le_of_ble_eq_true rfl) ?_
              have hP9 : va_P (dC, dI) zCl [(mo, .inr (7, [.int 1, .int 0, .int 0, .int 0, .ref (mb 0), .ref (mb 1), .ref (mb 2), .ref (mb 3), .ref (mb 4), .ref (mb 5), .ref (mb 6), .ref (mb 7), .ref (mb 8), .ref (mb 9), .ref (mb 10), .ref (mb 11), .ref (mb 12), .ref (mb 13), .ref (mb 14), .ref (mb 15), .ref (mb 16), .ref (mb 17), .ref (mb 18), .ref (mb 19), .ref (mb 20), .ref (mb 21), .ref (mb 22), .ref (mb 23), .ref (mb 24), .ref (mb 25), .ref (mb 26), .ref (mb 27), .ref (mb 28), .ref (mb 29), .ref (mb 30), .ref (mb 31), .ref (mb 32), .int 0, .int 0, .int 0, .int 0, .int 0, .int 0, .int 0, .ref (mb 33), .ref (mb 34), .ref (mb 35), .ref (mb 36), .int 0, .int 0, .int 0, .int 0, .ref (mb 37)])), ((mb 22), .inl (cI, 64, .inl fp))] H := hP.sub [1, 0] rfl
              have hD9 : va_D A [(mo, .inr (7, [.int 1, .int 0, .int 0, .int 0, .ref (mb 0), .ref (mb 1), .ref (mb 2), .ref (mb 3), .ref (mb 4), .ref (mb 5), .ref (mb 6), .ref (mb 7), .ref (mb 8), .ref (mb 9), .ref (mb 10), .ref (mb 11), .ref (mb 12), .ref (mb 13), .ref (mb 14), .ref (mb 15), .ref (mb 16), .ref (mb 17), .ref (mb 18), .ref (mb 19), .ref (mb 20), .ref (mb 21), .ref (mb 22), .ref (mb 23), .ref (mb 24), .ref (mb 25), .ref (mb 26), .ref (mb 27), .ref (mb 28), .ref (mb 29), .ref (mb 30), .ref (mb 31), .ref (mb 32), .int 0, .int 0, .int 0, .int 0, .int 0, .int 0, .int 0, .ref (mb 33), .ref (mb 34), .ref (mb 35), .ref (mb 36), .int 0, .int 0, .int 0, .int 0, .ref (mb 37)])), ((mb 22), .inl (cI, 64, .inl fp))] := hD.sub [1, 0] (by decide) rfl
              exact W.iret (v := 0) hx hb hr (fun t ht hW => ⟨⟨0, (), rfl, rfl, by rw [ht]; exact hP9, hD9⟩, hS.F ht⟩) hS.2.2 dMO_send_83
            · refine lv_iload_n hx hb dMO_send_29 rfl (lv_at hl 1 rfl) ?_
              refine lv_iload_n hx hb dMO_send_30 rfl (lv_at hl 2 rfl) ?_
              refine lv_icmp_eq (tgt := 38) hx hb dMO_send_31 (by decide) (fun c_31 => ?_) (fun c_31 => ?_)
              · refine lv_iconst (v := 0) hx hb dMO_send_38 (by decide) ?_
                refine lv_istore (lv' := [(4, .int 0), (0, .ref mo), (1, .int p0), (2, .int p1), (3, .int p2)]) hx hb dMO_send_39 hl (by decide) rfl (fun ls hl => ?_)
                refine lv_aload_n hx hb dMO_send_41 rfl (lv_at hl 1 rfl) ?_
                refine lv_iload hx hb dMO_send_42 (lv_at hl 0 rfl) ?_
                refine lv_if_eq (tgt := 71) hx hb dMO_send_44 (by decide) (fun _ => ?_) (fun c9 => absurd (by decide) c9)
                refine lv_iconst (v := 0) hx hb dMO_send_71 (by decide) ?_
                refine lv_aload_n hx hb dMO_send_72 rfl (lv_at hl 1 rfl) ?_
                have hu7 : ∀ w ∈ u_ws "RingGuardModel" T_MO 53, w.before ([.ref mo, .int p0, .int p1, .int p2] : List Value).toArray s = true := hB.words zU_MO
                refine va_get (D := (dC, dI)) (ci := 7) (v := .int 0) (C := "RingGuardModel") (T := T_MO) (N := 53) hx hb hu7 zid hown hK hP 0 rfl rfl 1 (by decide) (hB.word (zm4 k4_115) rfl) (fun _ h9 => h9) rfl dMO_send_73 ?_
                have hPc : va_P (dC, dI) zCl [(mo, .inr (7, [.int 0, .int 0, .int 0, .int 0, .ref (mb 0), .ref (mb 1), .ref (mb 2), .ref (mb 3), .ref (mb 4), .ref (mb 5), .ref (mb 6), .ref (mb 7), .ref (mb 8), .ref (mb 9), .ref (mb 10), .ref (mb 11), .ref (mb 12), .ref (mb 13), .ref (mb 14), .ref (mb 15), .ref (mb 16), .ref (mb 17), .ref (mb 18), .ref (mb 19), .ref (mb 20), .ref (mb 21), .ref (mb 22), .ref (mb 23), .ref (mb 24), .ref (mb 25), .ref (mb 26), .ref (mb 27), .ref (mb 28), .ref (mb 29), .ref (mb 30), .ref (mb 31), .ref (mb 32), .int 0, .int 0, .int 0, .int 0, .int 0, .int 0, .int 0, .ref (mb 33), .ref (mb 34), .ref (mb 35), .ref (mb 36), .int 0, .int 0, .int 0, .int 0, .ref (mb 37)]))] s.heap := hP.sub [0] rfl
                have hDc : va_D A [(mo, .inr (7, [.int 0, .int 0, .int 0, .int 0, .ref (mb 0), .ref (mb 1), .ref (mb 2), .ref (mb 3), .ref (mb 4), .ref (mb 5), .ref (mb 6), .ref (mb 7), .ref (mb 8), .ref (mb 9), .ref (mb 10), .ref (mb 11), .ref (mb 12), .ref (mb 13), .ref (mb 14), .ref (mb 15), .ref (mb 16), .ref (mb 17), .ref (mb 18), .ref (mb 19), .ref (mb 20), .ref (mb 21), .ref (mb 22), .ref (mb 23), .ref (mb 24), .ref (mb 25), .ref (mb 26), .ref (mb 27), .ref (mb 28), .ref (mb 29), .ref (mb 30), .ref (mb 31), .ref (mb 32), .int 0, .int 0, .int 0, .int 0, .int 0, .int 0, .int 0, .ref (mb 33), .ref (mb 34), .ref (mb 35), .ref (mb 36), .int 0, .int 0, .int 0, .int 0, .ref (mb 37)]))] := hD.sub [0] (by decide) rfl
                refine zcalli (wr := [((mb 22), .inl (cI, 64, .inl fp))]) (va_runV (As := [.int 0, .int 0]) (rest := []) ⟨hx, hb, hml, hown, zno⟩ (zm_goes0 l dC dI cI cZ cJ a0 s0 mo mb s.heap.size 0) (zcw 2 (hB.word (zm5 k5_56) rfl) (hB.word (zm1 k1_9) rfl) (hB.word (zm5 k5_53) rfl) (hB.word (zm5 k5_55) rfl) (k2_selects_private (by decide) (hB.word (zm4 k4_109) rfl) (hB.word (zm5 k5_54) rfl) (hB.word (zm5 k5_55) rfl)) rfl rfl (by decide +kernel) ⟨Nat.le_of_ble_eq_true rfl, Nat.le_of_ble_eq_true rfl⟩) ⟨zP_blind, va_recv hK hP (ci := 7) (q0 := 0) rfl rfl, zP_pre hPc hK hDc hAD (zB_on hB hA0 hS)⟩ rfl rfl hl.1 rfl (lv_room (Nat.le_of_ble_eq_true rfl)) dMO_send_76 ⟨Nat.le_of_ble_eq_true rfl, Nat.le_of_ble_eq_true rfl⟩) hP hD hS hA [0] [1] rfl rfl (by decide) (by decide) (fun r7 H1 locs hr7 hP hD hS => ?_)
                generalize H1 = H at hP hS ⊢
                have hP : va_P (dC, dI) zCl [((mb 22), .inl (cI, 64, .inl fp)), (mo, .inr (7, [.int 1, .int 0, .int 0, .int 0, .ref (mb 0), .ref (mb 1), .ref (mb 2), .ref (mb 3), .ref (mb 4), .ref (mb 5), .ref (mb 6), .ref (mb 7), .ref (mb 8), .ref (mb 9), .ref (mb 10), .ref (mb 11), .ref (mb 12), .ref (mb 13), .ref (mb 14), .ref (mb 15), .ref (mb 16), .ref (mb 17), .ref (mb 18), .ref (mb 19), .ref (mb 20), .ref (mb 21), .ref (mb 22), .ref (mb 23), .ref (mb 24), .ref (mb 25), .ref (mb 26), .ref (mb 27), .ref (mb 28), .ref (mb 29), .ref (mb 30), .ref (mb 31), .ref (mb 32), .int 0, .int 0, .int 0, .int 0, .int 0, .int 0, .int 0, .ref (mb 33), .ref (mb 34), .ref (mb 35), .ref (mb 36), .int 0, .int 0, .int 0, .int 0, .ref (mb 37)]))] H := hP
                have hD : va_D A [((mb 22), .inl (cI, 64, .inl fp)), (mo, .inr (7, [.int 1, .int 0, .int 0, .int 0, .ref (mb 0), .ref (mb 1), .ref (mb 2), .ref (mb 3), .ref (mb 4), .ref (mb 5), .ref (mb 6), .ref (mb 7), .ref (mb 8), .ref (mb 9), .ref (mb 10), .ref (mb 11), .ref (mb 12), .ref (mb 13), .ref (mb 14), .ref (mb 15), .ref (mb 16), .ref (mb 17), .ref (mb 18), .ref (mb 19), .ref (mb 20), .ref (mb 21), .ref (mb 22), .ref (mb 23), .ref (mb 24), .ref (mb 25), .ref (mb 26), .ref (mb 27), .ref (mb 28), .ref (mb 29), .ref (mb 30), .ref (mb 31), .ref (mb 32), .int 0, .int 0, .int 0, .int 0, .int 0, .int 0, .int 0, .ref (mb 33), .ref (mb 34), .ref (mb 35), .ref (mb 36), .int 0, .int 0, .int 0, .int 0, .ref (mb 37)]))] := hD
                subst hr7
                refine lv_if_ne (tgt := 84) hx hb dMO_send_79 (by decide) (fun c9 => absurd (by decide) c9) (fun _ => ?_)
                refine lv_iconst (v := 0) hx hb dMO_send_82 (by decide) ?_
                refine W.widen (k := 0) (n := 0) (Nat.le_of_ble_eq_true rfl) (Nat.le_of_ble_eq_true rfl) ?_
                have hP9 : va_P (dC, dI) zCl [(mo, .inr (7, [.int 1, .int 0, .int 0, .int 0, .ref (mb 0), .ref (mb 1), .ref (mb 2), .ref (mb 3), .ref (mb 4), .ref (mb 5), .ref (mb 6), .ref (mb 7), .ref (mb 8), .ref (mb 9), .ref (mb 10), .ref (mb 11), .ref (mb 12), .ref (mb 13), .ref (mb 14), .ref (mb 15), .ref (mb 16), .ref (mb 17), .ref (mb 18), .ref (mb 19), .ref (mb 20), .ref (mb 21), .ref (mb 22), .ref (mb 23), .ref (mb 24), .ref (mb 25), .ref (mb 26), .ref (mb 27), .ref (mb 28), .ref (mb 29), .ref (mb 30), .ref (mb 31), .ref (mb 32), .int 0, .int 0, .int 0, .int 0, .int 0, .int 0, .int 0, .ref (mb 33), .ref (mb 34), .ref (mb 35), .ref (mb 36), .int 0, .int 0, .int 0, .int 0, .ref (mb 37)])), ((mb 22), .inl (cI, 64, .inl fp))] H := hP.sub [1, 0] rfl
                have hD9 : va_D A [(mo, .inr (7, [.int 1, .int 0, .int 0, .int 0, .ref (mb 0), .ref (mb 1), .ref (mb 2), .ref (mb 3), .ref (mb 4), .ref (mb 5), .ref (mb 6), .ref (mb 7), .ref (mb 8), .ref (mb 9), .ref (mb 10), .ref (mb 11), .ref (mb 12), .ref (mb 13), .ref (mb 14), .ref (mb 15), .ref (mb 16), .ref (mb 17), .ref (mb 18), .ref (mb 19), .ref (mb 20), .ref (mb 21), .ref (mb 22), .ref (mb 23), .ref (mb 24), .ref (mb 25), .ref (mb 26), .ref (mb 27), .ref (mb 28), .ref (mb 29), .ref (mb 30), .ref (mb 31), .ref (mb 32), .int 0, .int 0, .int 0, .int 0, .int 0, .int 0, .int 0, .ref (mb 33), .ref (mb 34), .ref (mb 35), .ref (mb 36), .int 0, .int 0, .int 0, .int 0, .ref (mb 37)])), ((mb 22), .inl (cI, 64, .inl fp))] := hD.sub [1, 0] (by decide) rfl
                exact W.iret (v := 0) hx hb hr (fun t ht hW => ⟨⟨0, (), rfl, rfl, by rw [ht]; exact hP9, hD9⟩, hS.F ht⟩) hS.2.2 dMO_send_83
              · refine lv_iconst (v := 1) hx hb dMO_send_34 (by decide) ?_
                refine lv_goto (tgt := 39) hx hb dMO_send_35 (by decide) ?_
                refine lv_istore (lv' := [(4, .int 1), (0, .ref mo), (1, .int p0), (2, .int p1), (3, .int p2)]) hx hb dMO_send_39 hl (by decide) rfl (fun ls hl => ?_)
                refine lv_aload_n hx hb dMO_send_41 rfl (lv_at hl 1 rfl) ?_
                refine lv_iload hx hb dMO_send_42 (lv_at hl 0 rfl) ?_
                refine lv_if_eq (tgt := 71) hx hb dMO_send_44 (by decide) (fun c9 => absurd c9 (by decide)) (fun _ => ?_)
                refine lv_aload_n hx hb dMO_send_47 rfl (lv_at hl 1 rfl) ?_
                have hu7 : ∀ w ∈ u_ws "RingGuardModel" T_MO 53, w.before ([.ref mo, .int p0, .int p1, .int p2] : List Value).toArray s = true := hB.words zU_MO
                refine va_get (D := (dC, dI)) (ci := 7) (v := .ref (mb 22)) (C := "RingGuardModel") (T := T_MO) (N := 53) hx hb hu7 zid hown hK hP 0 rfl rfl 26 (by decide) (hB.word (zm4 k4_140) rfl) (fun _ h9 => h9) rfl dMO_send_48 ?_
                refine lv_iload_n hx hb dMO_send_51 rfl (lv_at hl 2 rfl) ?_
                refine va_iald hx hb hK hP 1 0 rfl rfl (i := p0) (zin c_1 (Int32.not_le.mp c_7)) dMO_send_52 ?_
                refine lv_topi (fun k8 ek8 => ?_)
                refine lv_iconst (v := (-1)) hx hb dMO_send_53 (by decide) ?_
                refine lv_icmp_eq (tgt := 71) hx hb dMO_send_54 (by decide) (fun _ => ?_) (fun c9 => absurd (ek8.trans (hf _ (zlt c_1 (Int32.not_le.mp c_7)))) c9)
                refine lv_iconst (v := 0) hx hb dMO_send_71 (by decide) ?_
                refine lv_aload_n hx hb dMO_send_72 rfl (lv_at hl 1 rfl) ?_
                refine va_get (D := (dC, dI)) (ci := 7) (v := .int 0) (C := "RingGuardModel") (T := T_MO) (N := 53) hx hb hu7 zid hown hK hP 0 rfl rfl 1 (by decide) (hB.word (zm4 k4_115) rfl) (fun _ h9 => h9) rfl dMO_send_73 ?_
                have hPc : va_P (dC, dI) zCl [(mo, .inr (7, [.int 0, .int 0, .int 0, .int 0, .ref (mb 0), .ref (mb 1), .ref (mb 2), .ref (mb 3), .ref (mb 4), .ref (mb 5), .ref (mb 6), .ref (mb 7), .ref (mb 8), .ref (mb 9), .ref (mb 10), .ref (mb 11), .ref (mb 12), .ref (mb 13), .ref (mb 14), .ref (mb 15), .ref (mb 16), .ref (mb 17), .ref (mb 18), .ref (mb 19), .ref (mb 20), .ref (mb 21), .ref (mb 22), .ref (mb 23), .ref (mb 24), .ref (mb 25), .ref (mb 26), .ref (mb 27), .ref (mb 28), .ref (mb 29), .ref (mb 30), .ref (mb 31), .ref (mb 32), .int 0, .int 0, .int 0, .int 0, .int 0, .int 0, .int 0, .ref (mb 33), .ref (mb 34), .ref (mb 35), .ref (mb 36), .int 0, .int 0, .int 0, .int 0, .ref (mb 37)]))] s.heap := hP.sub [0] rfl
                have hDc : va_D A [(mo, .inr (7, [.int 0, .int 0, .int 0, .int 0, .ref (mb 0), .ref (mb 1), .ref (mb 2), .ref (mb 3), .ref (mb 4), .ref (mb 5), .ref (mb 6), .ref (mb 7), .ref (mb 8), .ref (mb 9), .ref (mb 10), .ref (mb 11), .ref (mb 12), .ref (mb 13), .ref (mb 14), .ref (mb 15), .ref (mb 16), .ref (mb 17), .ref (mb 18), .ref (mb 19), .ref (mb 20), .ref (mb 21), .ref (mb 22), .ref (mb 23), .ref (mb 24), .ref (mb 25), .ref (mb 26), .ref (mb 27), .ref (mb 28), .ref (mb 29), .ref (mb 30), .ref (mb 31), .ref (mb 32), .int 0, .int 0, .int 0, .int 0, .int 0, .int 0, .int 0, .ref (mb 33), .ref (mb 34), .ref (mb 35), .ref (mb 36), .int 0, .int 0, .int 0, .int 0, .ref (mb 37)]))] := hD.sub [0] (by decide) rfl
                refine zcalli (wr := [((mb 22), .inl (cI, 64, .inl fp))]) (va_runV (As := [.int 0, .int 0]) (rest := []) ⟨hx, hb, hml, hown, zno⟩ (zm_goes0 l dC dI cI cZ cJ a0 s0 mo mb s.heap.size 0) (zcw 2 (hB.word (zm5 k5_56) rfl) (hB.word (zm1 k1_9) rfl) (hB.word (zm5 k5_53) rfl) (hB.word (zm5 k5_55) rfl) (k2_selects_private (by decide) (hB.word (zm4 k4_109) rfl) (hB.word (zm5 k5_54) rfl) (hB.word (zm5 k5_55) rfl)) rfl rfl (by decide +kernel) ⟨Nat.le_of_ble_eq_true rfl, Nat.le_of_ble_eq_true rfl⟩) ⟨zP_blind, va_recv hK hP (ci := 7) (q0 := 0) rfl rfl, zP_pre hPc hK hDc hAD (zB_on hB hA0 hS)⟩ rfl rfl hl.1 rfl (lv_room (Nat.le_of_ble_eq_true rfl)) dMO_send_76 ⟨Nat.le_of_ble_eq_true rfl, Nat.le_of_ble_eq_true rfl⟩) hP hD hS hA [0] [1] rfl rfl (by decide) (by decide) (fun r9 H1 locs hr9 hP hD hS => ?_)
                generalize H1 = H at hP hS ⊢
                have hP : va_P (dC, dI) zCl [((mb 22), .inl (cI, 64, .inl fp)), (mo, .inr (7, [.int 1, .int 0, .int 0, .int 0, .ref (mb 0), .ref (mb 1), .ref (mb 2), .ref (mb 3), .ref (mb 4), .ref (mb 5), .ref (mb 6), .ref (mb 7), .ref (mb 8), .ref (mb 9), .ref (mb 10), .ref (mb 11), .ref (mb 12), .ref (mb 13), .ref (mb 14), .ref (mb 15), .ref (mb 16), .ref (mb 17), .ref (mb 18), .ref (mb 19), .ref (mb 20), .ref (mb 21), .ref (mb 22), .ref (mb 23), .ref (mb 24), .ref (mb 25), .ref (mb 26), .ref (mb 27), .ref (mb 28), .ref (mb 29), .ref (mb 30), .ref (mb 31), .ref (mb 32), .int 0, .int 0, .int 0, .int 0, .int 0, .int 0, .int 0, .ref (mb 33), .ref (mb 34), .ref (mb 35), .ref (mb 36), .int 0, .int 0, .int 0, .int 0, .ref (mb 37)]))] H := hP
                have hD : va_D A [((mb 22), .inl (cI, 64, .inl fp)), (mo, .inr (7, [.int 1, .int 0, .int 0, .int 0, .ref (mb 0), .ref (mb 1), .ref (mb 2), .ref (mb 3), .ref (mb 4), .ref (mb 5), .ref (mb 6), .ref (mb 7), .ref (mb 8), .ref (mb 9), .ref (mb 10), .ref (mb 11), .ref (mb 12), .ref (mb 13), .ref (mb 14), .ref (mb 15), .ref (mb 16), .ref (mb 17), .ref (mb 18), .ref (mb 19), .ref (mb 20), .ref (mb 21), .ref (mb 22), .ref (mb 23), .ref (mb 24), .ref (mb 25), .ref (mb 26), .ref (mb 27), .ref (mb 28), .ref (mb 29), .ref (mb 30), .ref (mb 31), .ref (mb 32), .int 0, .int 0, .int 0, .int 0, .int 0, .int 0, .int 0, .ref (mb 33), .ref (mb 34), .ref (mb 35), .ref (mb 36), .int 0, .int 0, .int 0, .int 0, .ref (mb 37)]))] := hD
                subst hr9
                refine lv_if_ne (tgt := 84) hx hb dMO_send_79 (by decide) (fun c9 => absurd (by decide) c9) (fun _ => ?_)
                refine lv_iconst (v := 0) hx hb dMO_send_82 (by decide) ?_
                refine W.widen (k := 0) (n := 0) (Nat.le_of_ble_eq_true rfl) (Nat.le_of_ble_eq_true rfl) ?_
                have hP9 : va_P (dC, dI) zCl [(mo, .inr (7, [.int 1, .int 0, .int 0, .int 0, .ref (mb 0), .ref (mb 1), .ref (mb 2), .ref (mb 3), .ref (mb 4), .ref (mb 5), .ref (mb 6), .ref (mb 7), .ref (mb 8), .ref (mb 9), .ref (mb 10), .ref (mb 11), .ref (mb 12), .ref (mb 13), .ref (mb 14), .ref (mb 15), .ref (mb 16), .ref (mb 17), .ref (mb 18), .ref (mb 19), .ref (mb 20), .ref (mb 21), .ref (mb 22), .ref (mb 23), .ref (mb 24), .ref (mb 25), .ref (mb 26), .ref (mb 27), .ref (mb 28), .ref (mb 29), .ref (mb 30), .ref (mb 31), .ref (mb 32), .int 0, .int 0, .int 0, .int 0, .int 0, .int 0, .int 0, .ref (mb 33), .ref (mb 34), .ref (mb 35), .ref (mb 36), .int 0, .int 0, .int 0, .int 0, .ref (mb 37)])), ((mb 22), .inl (cI, 64, .inl fp))] H := hP.sub [1, 0] rfl
                have hD9 : va_D A [(mo, .inr (7, [.int 1, .int 0, .int 0, .int 0, .ref (mb 0), .ref (mb 1), .ref (mb 2), .ref (mb 3), .ref (mb 4), .ref (mb 5), .ref (mb 6), .ref (mb 7), .ref (mb 8), .ref (mb 9), .ref (mb 10), .ref (mb 11), .ref (mb 12), .ref (mb 13), .ref (mb 14), .ref (mb 15), .ref (mb 16), .ref (mb 17), .ref (mb 18), .ref (mb 19), .ref (mb 20), .ref (mb 21), .ref (mb 22), .ref (mb 23), .ref (mb 24), .ref (mb 25), .ref (mb 26), .ref (mb 27), .ref (mb 28), .ref (mb 29), .ref (mb 30), .ref (mb 31), .ref (mb 32), .int 0, .int 0, .int 0, .int 0, .int 0, .int 0, .int 0, .ref (mb 33), .ref (mb 34), .ref (mb 35), .ref (mb 36), .int 0, .int 0, .int 0, .int 0, .ref (mb 37)])), ((mb 22), .inl (cI, 64, .inl fp))] := hD.sub [1, 0] (by decide) rfl
                exact W.iret (v := 0) hx hb hr (fun t ht hW => ⟨⟨0, (), rfl, rfl, by rw [ht]; exact hP9, hD9⟩, hS.F ht⟩) hS.2.2 dMO_send_83
set_option maxHeartbeats 4000000 in
set_option maxRecDepth 100000 in
theorem zm_visits (l : Launch) (dC : Nat → ClassId) (dI : Nat → Nat → Nat) (cI cZ cJ : ClassId) (a0 : Array Value) (s0 : State) (mo : Nat) (mb : Nat → Nat) (sz : Nat) : Met l yMO_visits [Cond.code yMO_visits bMO_visits 1 (some .int)] ({ frames := 0, cells := 0, slots := 0, locals := 0 } : Room) (zP zCl dC dI (zTY cI cZ cJ) a0 s0 [.ref mo] sz [(mo, .inr (7, [.int 0, .int 0, .int 0, .int 0, .ref (mb 0), .ref (mb 1), .ref (mb 2), .ref (mb 3), .ref (mb 4), .ref (mb 5), .ref (mb 6), .ref (mb 7), .ref (mb 8), .ref (mb 9), .ref (mb 10), .ref (mb 11), .ref (mb 12), .ref (mb 13), .ref (mb 14), .ref (mb 15), .ref (mb 16), .ref (mb 17), .ref (mb 18), .ref (mb 19), .ref (mb 20), .ref (mb 21), .ref (mb 22), .ref (mb 23), .ref (mb 24), .ref (mb 25), .ref (mb 26), .ref (mb 27), .ref (mb 28), .ref (mb 29), .ref (mb 30), .ref (mb 31), .ref (mb 32), .int 0, .int 0, .int 0, .int 0, .int 0, .int 0, .int 0, .ref (mb 33), .ref (mb 34), .ref (mb 35), .ref (mb 36), .int 0, .int 0, .int 0, .int 0, .ref (mb 37)]))]) (zQi zCl dC dI (fun r => r = 0) [(mo, .inr (7, [.int 0, .int 0, .int 0, .int 0, .ref (mb 0), .ref (mb 1), .ref (mb 2), .ref (mb 3), .ref (mb 4), .ref (mb 5), .ref (mb 6), .ref (mb 7), .ref (mb 8), .ref (mb 9), .ref (mb 10), .ref (mb 11), .ref (mb 12), .ref (mb 13), .ref (mb 14), .ref (mb 15), .ref (mb 16), .ref (mb 17), .ref (mb 18), .ref (mb 19), .ref (mb 20), .ref (mb 21), .ref (mb 22), .ref (mb 23), .ref (mb 24), .ref (mb 25), .ref (mb 26), .ref (mb 27), .ref (mb 28), .ref (mb 29), .ref (mb 30), .ref (mb 31), .ref (mb 32), .int 0, .int 0, .int 0, .int 0, .int 0, .int 0, .int 0, .ref (mb 33), .ref (mb 34), .ref (mb 35), .ref (mb 36), .int 0, .int 0, .int 0, .int 0, .ref (mb 37)]))] (va_A [(mo, .inr (7, [.int 0, .int 0, .int 0, .int 0, .ref (mb 0), .ref (mb 1), .ref (mb 2), .ref (mb 3), .ref (mb 4), .ref (mb 5), .ref (mb 6), .ref (mb 7), .ref (mb 8), .ref (mb 9), .ref (mb 10), .ref (mb 11), .ref (mb 12), .ref (mb 13), .ref (mb 14), .ref (mb 15), .ref (mb 16), .ref (mb 17), .ref (mb 18), .ref (mb 19), .ref (mb 20), .ref (mb 21), .ref (mb 22), .ref (mb 23), .ref (mb 24), .ref (mb 25), .ref (mb 26), .ref (mb 27), .ref (mb 28), .ref (mb 29), .ref (mb 30), .ref (mb 31), .ref (mb 32), .int 0, .int 0, .int 0, .int 0, .int 0, .int 0, .int 0, .ref (mb 33), .ref (mb 34), .ref (mb 35), .ref (mb 36), .int 0, .int 0, .int 0, .int 0, .ref (mb 37)]))] sz)) 0 0 (va_A [(mo, .inr (7, [.int 0, .int 0, .int 0, .int 0, .ref (mb 0), .ref (mb 1), .ref (mb 2), .ref (mb 3), .ref (mb 4), .ref (mb 5), .ref (mb 6), .ref (mb 7), .ref (mb 8), .ref (mb 9), .ref (mb 10), .ref (mb 11), .ref (mb 12), .ref (mb 13), .ref (mb 14), .ref (mb 15), .ref (mb 16), .ref (mb 17), .ref (mb 18), .ref (mb 19), .ref (mb 20), .ref (mb 21), .ref (mb 22), .ref (mb 23), .ref (mb 24), .ref (mb 25), .ref (mb 26), .ref (mb 27), .ref (mb 28), .ref (mb 29), .ref (mb 30), .ref (mb 31), .ref (mb 32), .int 0, .int 0, .int 0, .int 0, .int 0, .int 0, .int 0, .ref (mb 33), .ref (mb 34), .ref (mb 35), .ref (mb 36), .int 0, .int 0, .int 0, .int 0, .ref (mb 37)]))] sz) := by
  refine Met.ofW (cc := bMO_visits) (maxL := 1) (ret := (some .int)) (by decide) rfl ?_
  intro p e s m args below meth c s₁ B hml hv
  obtain ⟨rfl, hsz, hP, hK, hD0, hB⟩ := hv
  have hx := B.exec
  have hb := B.bytes
  have hr := B.returns
  have hown : s.vm.findClass "RingGuardModel" = some m.cls := findClass_of_methodNamed B.named
  have hlocks := B.notSynchronized
  subst hsz
  have hD := hD0.self (sz := s.heap.size)
  have hA0 := zA0 hD0 hB
  generalize hAe : va_A [(mo, .inr (7, [.int 0, .int 0, .int 0, .int 0, .ref (mb 0), .ref (mb 1), .ref (mb 2), .ref (mb 3), .ref (mb 4), .ref (mb 5), .ref (mb 6), .ref (mb 7), .ref (mb 8), .ref (mb 9), .ref (mb 10), .ref (mb 11), .ref (mb 12), .ref (mb 13), .ref (mb 14), .ref (mb 15), .ref (mb 16), .ref (mb 17), .ref (mb 18), .ref (mb 19), .ref (mb 20), .ref (mb 21), .ref (mb 22), .ref (mb 23), .ref (mb 24), .ref (mb 25), .ref (mb 26), .ref (mb 27), .ref (mb 28), .ref (mb 29), .ref (mb 30), .ref (mb 31), .ref (mb 32), .int 0, .int 0, .int 0, .int 0, .int 0, .int 0, .int 0, .ref (mb 33), .ref (mb 34), .ref (mb 35), .ref (mb 36), .int 0, .int 0, .int 0, .int 0, .ref (mb 37)]))] s.heap.size = A at hD hA0 ⊢
  have hAD := hA0
  have hA : ∀ q : Nat, s.heap.size ≤ q → A q := fun q h => by rw [← hAe]; exact Or.inr h
  have hS : va_S A s.heap s.heap [] := va_S.rf
  have hP : va_P (dC, dI) zCl [(mo, .inr (7, [.int 0, .int 0, .int 0, .int 0, .ref (mb 0), .ref (mb 1), .ref (mb 2), .ref (mb 3), .ref (mb 4), .ref (mb 5), .ref (mb 6), .ref (mb 7), .ref (mb 8), .ref (mb 9), .ref (mb 10), .ref (mb 11), .ref (mb 12), .ref (mb 13), .ref (mb 14), .ref (mb 15), .ref (mb 16), .ref (mb 17), .ref (mb 18), .ref (mb 19), .ref (mb 20), .ref (mb 21), .ref (mb 22), .ref (mb 23), .ref (mb 24), .ref (mb 25), .ref (mb 26), .ref (mb 27), .ref (mb 28), .ref (mb 29), .ref (mb 30), .ref (mb 31), .ref (mb 32), .int 0, .int 0, .int 0, .int 0, .int 0, .int 0, .int 0, .ref (mb 33), .ref (mb 34), .ref (mb 35), .ref (mb 36), .int 0, .int 0, .int 0, .int 0, .ref (mb 37)]))] s.heap := hP
  have hl := lv_entry ([.ref mo]) (n := 1) (Nat.le_of_ble_eq_true rfl)
  rw [lg_entry_eq]
  generalize (lg_sl ([.ref mo]) ++ List.replicate (1 - (lg_sl ([.ref mo])).length) Slot.unset).toArray = ls at hl ⊢
  have hl : lv_has ls 1 [(0, .ref mo)] := hl
  refine lv_aload_n hx hb dMO_visits_0 rfl (lv_at hl 0 rfl) ?_
  refine lv_iconst (v := 0) hx hb dMO_visits_1 (by decide) ?_
  have hu7 : ∀ w ∈ u_ws "RingGuardModel" T_MO 53, w.before ([.ref mo] : List Value).toArray s = true := hB.words zU_MO
  refine va_put (D := (dC, dI)) (ci := 7) (v := .int 0) (ty := .int) (C := "RingGuardModel") (T := T_MO) (N := 53) hx hb hu7 zid ty_MO ok_MO nm_MO hown hK hP hD hS 0 rfl rfl 0 (by decide) (hB.word (zm4 k4_114) rfl) (fun _ h9 => h9) rfl (by decide +kernel) rfl rfl (Nat.le_of_ble_eq_true rfl) dMO_visits_2 (fun H locs hP hD hS => ?_)
  have hP : va_P (dC, dI) zCl [(mo, .inr (7, [.int 0, .int 0, .int 0, .int 0, .ref (mb 0), .ref (mb 1), .ref (mb 2), .ref (mb 3), .ref (mb 4), .ref (mb 5), .ref (mb 6), .ref (mb 7), .ref (mb 8), .ref (mb 9), .ref (mb 10), .ref (mb 11), .ref (mb 12), .ref (mb 13), .ref (mb 14), .ref (mb 15), .ref (mb 16), .ref (mb 17), .ref (mb 18), .ref (mb 19), .ref (mb 20), .ref (mb 21), .ref (mb 22), .ref (mb 23), .ref (mb 24), .ref (mb 25), .ref (mb 26), .ref (mb 27), .ref (mb 28), .ref (mb 29), .ref (mb 30), .ref (mb 31), .ref (mb 32), .int 0, .int 0, .int 0, .int 0, .int 0, .int 0, .int 0, .ref (mb 33), .ref (mb 34), .ref (mb 35), .ref (mb 36), .int 0, .int 0, .int 0, .int 0, .ref (mb 37)]))] H := hP
  have hD : va_D A [(mo, .inr (7, [.int 0, .int 0, .int 0, .int 0, .ref (mb 0), .ref (mb 1), .ref (mb 2), .ref (mb 3), .ref (mb 4), .ref (mb 5), .ref (mb 6), .ref (mb 7), .ref (mb 8), .ref (mb 9), .ref (mb 10), .ref (mb 11), .ref (mb 12), .ref (mb 13), .ref (mb 14), .ref (mb 15), .ref (mb 16), .ref (mb 17), .ref (mb 18), .ref (mb 19), .ref (mb 20), .ref (mb 21), .ref (mb 22), .ref (mb 23), .ref (mb 24), .ref (mb 25), .ref (mb 26), .ref (mb 27), .ref (mb 28), .ref (mb 29), .ref (mb 30), .ref (mb 31), .ref (mb 32), .int 0, .int 0, .int 0, .int 0, .int 0, .int 0, .int 0, .ref (mb 33), .ref (mb 34), .ref (mb 35), .ref (mb 36), .int 0, .int 0, .int 0, .int 0, .ref (mb 37)]))] := hD
  refine lv_aload_n hx hb dMO_visits_5 rfl (lv_at hl 0 rfl) ?_
  refine va_get (D := (dC, dI)) (ci := 7) (v := .int 0) (C := "RingGuardModel") (T := T_MO) (N := 53) hx hb hu7 zid hown hK hP 0 rfl rfl 39 (by decide) (hB.word (zm4 k4_153) rfl) (fun _ h9 => h9) rfl dMO_visits_6 ?_
  refine W.widen (k := 0) (n := 0) (Nat.le_of_ble_eq_true rfl) (Nat.le_of_ble_eq_true rfl) ?_
  have hP9 : va_P (dC, dI) zCl [(mo, .inr (7, [.int 0, .int 0, .int 0, .int 0, .ref (mb 0), .ref (mb 1), .ref (mb 2), .ref (mb 3), .ref (mb 4), .ref (mb 5), .ref (mb 6), .ref (mb 7), .ref (mb 8), .ref (mb 9), .ref (mb 10), .ref (mb 11), .ref (mb 12), .ref (mb 13), .ref (mb 14), .ref (mb 15), .ref (mb 16), .ref (mb 17), .ref (mb 18), .ref (mb 19), .ref (mb 20), .ref (mb 21), .ref (mb 22), .ref (mb 23), .ref (mb 24), .ref (mb 25), .ref (mb 26), .ref (mb 27), .ref (mb 28), .ref (mb 29), .ref (mb 30), .ref (mb 31), .ref (mb 32), .int 0, .int 0, .int 0, .int 0, .int 0, .int 0, .int 0, .ref (mb 33), .ref (mb 34), .ref (mb 35), .ref (mb 36), .int 0, .int 0, .int 0, .int 0, .ref (mb 37)]))] H := hP.sub [0] rfl
  have hD9 : va_D A [(mo, .inr (7, [.int 0, .int 0, .int 0, .int 0, .ref (mb 0), .ref (mb 1), .ref (mb 2), .ref (mb 3), .ref (mb 4), .ref (mb 5), .ref (mb 6), .ref (mb 7), .ref (mb 8), .ref (mb 9), .ref (mb 10), .ref (mb 11), .ref (mb 12), .ref (mb 13), .ref (mb 14), .ref (mb 15), .ref (mb 16), .ref (mb 17), .ref (mb 18), .ref (mb 19), .ref (mb 20), .ref (mb 21), .ref (mb 22), .ref (mb 23), .ref (mb 24), .ref (mb 25), .ref (mb 26), .ref (mb 27), .ref (mb 28), .ref (mb 29), .ref (mb 30), .ref (mb 31), .ref (mb 32), .int 0, .int 0, .int 0, .int 0, .int 0, .int 0, .int 0, .ref (mb 33), .ref (mb 34), .ref (mb 35), .ref (mb 36), .int 0, .int 0, .int 0, .int 0, .ref (mb 37)]))] := hD.sub [0] (by decide) rfl
  exact W.iret (v := 0) hx hb hr (fun t ht hW => ⟨⟨0, (), rfl, rfl, by rw [ht]; exact hP9, hD9⟩, hS.F ht⟩) hS.2.2 dMO_visits_9
set_option maxHeartbeats 4000000 in
set_option maxRecDepth 100000 in
theorem zm_lost (l : Launch) (dC : Nat → ClassId) (dI : Nat → Nat → Nat) (cI cZ cJ : ClassId) (a0 : Array Value) (s0 : State) (mo : Nat) (mb : Nat → Nat) (sz : Nat) : Met l yMO_lost [Cond.code yMO_lost bMO_lost 1 (some .int)] ({ frames := 0, cells := 0, slots := 0, locals := 0 } : Room) (zP zCl dC dI (zTY cI cZ cJ) a0 s0 [.ref mo] sz [(mo, .inr (7, [.int 0, .int 0, .int 0, .int 0, .ref (mb 0), .ref (mb 1), .ref (mb 2), .ref (mb 3), .ref (mb 4), .ref (mb 5), .ref (mb 6), .ref (mb 7), .ref (mb 8), .ref (mb 9), .ref (mb 10), .ref (mb 11), .ref (mb 12), .ref (mb 13), .ref (mb 14), .ref (mb 15), .ref (mb 16), .ref (mb 17), .ref (mb 18), .ref (mb 19), .ref (mb 20), .ref (mb 21), .ref (mb 22), .ref (mb 23), .ref (mb 24), .ref (mb 25), .ref (mb 26), .ref (mb 27), .ref (mb 28), .ref (mb 29), .ref (mb 30), .ref (mb 31), .ref (mb 32), .int 0, .int 0, .int 0, .int 0, .int 0, .int 0, .int 0, .ref (mb 33), .ref (mb 34), .ref (mb 35), .ref (mb 36), .int 0, .int 0, .int 0, .int 0, .ref (mb 37)]))]) (zQi zCl dC dI (fun r => r = 0) [(mo, .inr (7, [.int 0, .int 0, .int 0, .int 0, .ref (mb 0), .ref (mb 1), .ref (mb 2), .ref (mb 3), .ref (mb 4), .ref (mb 5), .ref (mb 6), .ref (mb 7), .ref (mb 8), .ref (mb 9), .ref (mb 10), .ref (mb 11), .ref (mb 12), .ref (mb 13), .ref (mb 14), .ref (mb 15), .ref (mb 16), .ref (mb 17), .ref (mb 18), .ref (mb 19), .ref (mb 20), .ref (mb 21), .ref (mb 22), .ref (mb 23), .ref (mb 24), .ref (mb 25), .ref (mb 26), .ref (mb 27), .ref (mb 28), .ref (mb 29), .ref (mb 30), .ref (mb 31), .ref (mb 32), .int 0, .int 0, .int 0, .int 0, .int 0, .int 0, .int 0, .ref (mb 33), .ref (mb 34), .ref (mb 35), .ref (mb 36), .int 0, .int 0, .int 0, .int 0, .ref (mb 37)]))] (va_A [(mo, .inr (7, [.int 0, .int 0, .int 0, .int 0, .ref (mb 0), .ref (mb 1), .ref (mb 2), .ref (mb 3), .ref (mb 4), .ref (mb 5), .ref (mb 6), .ref (mb 7), .ref (mb 8), .ref (mb 9), .ref (mb 10), .ref (mb 11), .ref (mb 12), .ref (mb 13), .ref (mb 14), .ref (mb 15), .ref (mb 16), .ref (mb 17), .ref (mb 18), .ref (mb 19), .ref (mb 20), .ref (mb 21), .ref (mb 22), .ref (mb 23), .ref (mb 24), .ref (mb 25), .ref (mb 26), .ref (mb 27), .ref (mb 28), .ref (mb 29), .ref (mb 30), .ref (mb 31), .ref (mb 32), .int 0, .int 0, .int 0, .int 0, .int 0, .int 0, .int 0, .ref (mb 33), .ref (mb 34), .ref (mb 35), .ref (mb 36), .int 0, .int 0, .int 0, .int 0, .ref (mb 37)]))] sz)) 0 0 (va_A [(mo, .inr (7, [.int 0, .int 0, .int 0, .int 0, .ref (mb 0), .ref (mb 1), .ref (mb 2), .ref (mb 3), .ref (mb 4), .ref (mb 5), .ref (mb 6), .ref (mb 7), .ref (mb 8), .ref (mb 9), .ref (mb 10), .ref (mb 11), .ref (mb 12), .ref (mb 13), .ref (mb 14), .ref (mb 15), .ref (mb 16), .ref (mb 17), .ref (mb 18), .ref (mb 19), .ref (mb 20), .ref (mb 21), .ref (mb 22), .ref (mb 23), .ref (mb 24), .ref (mb 25), .ref (mb 26), .ref (mb 27), .ref (mb 28), .ref (mb 29), .ref (mb 30), .ref (mb 31), .ref (mb 32), .int 0, .int 0, .int 0, .int 0, .int 0, .int 0, .int 0, .ref (mb 33), .ref (mb 34), .ref (mb 35), .ref (mb 36), .int 0, .int 0, .int 0, .int 0, .ref (mb 37)]))] sz) := by
  refine Met.ofW (cc := bMO_lost) (maxL := 1) (ret := (some .int)) (by decide) rfl ?_
  intro p e s m args below meth c s₁ B hml hv
  obtain ⟨rfl, hsz, hP, hK, hD0, hB⟩ := hv
  have hx := B.exec
  have hb := B.bytes
  have hr := B.returns
  have hown : s.vm.findClass "RingGuardModel" = some m.cls := findClass_of_methodNamed B.named
  have hlocks := B.notSynchronized
  subst hsz
  have hD := hD0.self (sz := s.heap.size)
  have hA0 := zA0 hD0 hB
  generalize hAe : va_A [(mo, .inr (7, [.int 0, .int 0, .int 0, .int 0, .ref (mb 0), .ref (mb 1), .ref (mb 2), .ref (mb 3), .ref (mb 4), .ref (mb 5), .ref (mb 6), .ref (mb 7), .ref (mb 8), .ref (mb 9), .ref (mb 10), .ref (mb 11), .ref (mb 12), .ref (mb 13), .ref (mb 14), .ref (mb 15), .ref (mb 16), .ref (mb 17), .ref (mb 18), .ref (mb 19), .ref (mb 20), .ref (mb 21), .ref (mb 22), .ref (mb 23), .ref (mb 24), .ref (mb 25), .ref (mb 26), .ref (mb 27), .ref (mb 28), .ref (mb 29), .ref (mb 30), .ref (mb 31), .ref (mb 32), .int 0, .int 0, .int 0, .int 0, .int 0, .int 0, .int 0, .ref (mb 33), .ref (mb 34), .ref (mb 35), .ref (mb 36), .int 0, .int 0, .int 0, .int 0, .ref (mb 37)]))] s.heap.size = A at hD hA0 ⊢
  have hAD := hA0
  have hA : ∀ q : Nat, s.heap.size ≤ q → A q := fun q h => by rw [← hAe]; exact Or.inr h
  have hS : va_S A s.heap s.heap [] := va_S.rf
  have hP : va_P (dC, dI) zCl [(mo, .inr (7, [.int 0, .int 0, .int 0, .int 0, .ref (mb 0), .ref (mb 1), .ref (mb 2), .ref (mb 3), .ref (mb 4), .ref (mb 5), .ref (mb 6), .ref (mb 7), .ref (mb 8), .ref (mb 9), .ref (mb 10), .ref (mb 11), .ref (mb 12), .ref (mb 13), .ref (mb 14), .ref (mb 15), .ref (mb 16), .ref (mb 17), .ref (mb 18), .ref (mb 19), .ref (mb 20), .ref (mb 21), .ref (mb 22), .ref (mb 23), .ref (mb 24), .ref (mb 25), .ref (mb 26), .ref (mb 27), .ref (mb 28), .ref (mb 29), .ref (mb 30), .ref (mb 31), .ref (mb 32), .int 0, .int 0, .int 0, .int 0, .int 0, .int 0, .int 0, .ref (mb 33), .ref (mb 34), .ref (mb 35), .ref (mb 36), .int 0, .int 0, .int 0, .int 0, .ref (mb 37)]))] s.heap := hP
  have hl := lv_entry ([.ref mo]) (n := 1) (Nat.le_of_ble_eq_true rfl)
  rw [lg_entry_eq]
  generalize (lg_sl ([.ref mo]) ++ List.replicate (1 - (lg_sl ([.ref mo])).length) Slot.unset).toArray = ls at hl ⊢
  have hl : lv_has ls 1 [(0, .ref mo)] := hl
  refine lv_aload_n hx hb dMO_lost_0 rfl (lv_at hl 0 rfl) ?_
  refine lv_iconst (v := 0) hx hb dMO_lost_1 (by decide) ?_
  have hu7 : ∀ w ∈ u_ws "RingGuardModel" T_MO 53, w.before ([.ref mo] : List Value).toArray s = true := hB.words zU_MO
  refine va_put (D := (dC, dI)) (ci := 7) (v := .int 0) (ty := .int) (C := "RingGuardModel") (T := T_MO) (N := 53) hx hb hu7 zid ty_MO ok_MO nm_MO hown hK hP hD hS 0 rfl rfl 0 (by decide) (hB.word (zm4 k4_114) rfl) (fun _ h9 => h9) rfl (by decide +kernel) rfl rfl (Nat.le_of_ble_eq_true rfl) dMO_lost_2 (fun H locs hP hD hS => ?_)
  have hP : va_P (dC, dI) zCl [(mo, .inr (7, [.int 0, .int 0, .int 0, .int 0, .ref (mb 0), .ref (mb 1), .ref (mb 2), .ref (mb 3), .ref (mb 4), .ref (mb 5), .ref (mb 6), .ref (mb 7), .ref (mb 8), .ref (mb 9), .ref (mb 10), .ref (mb 11), .ref (mb 12), .ref (mb 13), .ref (mb 14), .ref (mb 15), .ref (mb 16), .ref (mb 17), .ref (mb 18), .ref (mb 19), .ref (mb 20), .ref (mb 21), .ref (mb 22), .ref (mb 23), .ref (mb 24), .ref (mb 25), .ref (mb 26), .ref (mb 27), .ref (mb 28), .ref (mb 29), .ref (mb 30), .ref (mb 31), .ref (mb 32), .int 0, .int 0, .int 0, .int 0, .int 0, .int 0, .int 0, .ref (mb 33), .ref (mb 34), .ref (mb 35), .ref (mb 36), .int 0, .int 0, .int 0, .int 0, .ref (mb 37)]))] H := hP
  have hD : va_D A [(mo, .inr (7, [.int 0, .int 0, .int 0, .int 0, .ref (mb 0), .ref (mb 1), .ref (mb 2), .ref (mb 3), .ref (mb 4), .ref (mb 5), .ref (mb 6), .ref (mb 7), .ref (mb 8), .ref (mb 9), .ref (mb 10), .ref (mb 11), .ref (mb 12), .ref (mb 13), .ref (mb 14), .ref (mb 15), .ref (mb 16), .ref (mb 17), .ref (mb 18), .ref (mb 19), .ref (mb 20), .ref (mb 21), .ref (mb 22), .ref (mb 23), .ref (mb 24), .ref (mb 25), .ref (mb 26), .ref (mb 27), .ref (mb 28), .ref (mb 29), .ref (mb 30), .ref (mb 31), .ref (mb 32), .int 0, .int 0, .int 0, .int 0, .int 0, .int 0, .int 0, .ref (mb 33), .ref (mb 34), .ref (mb 35), .ref (mb 36), .int 0, .int 0, .int 0, .int 0, .ref (mb 37)]))] := hD
  refine lv_aload_n hx hb dMO_lost_5 rfl (lv_at hl 0 rfl) ?_
  refine va_get (D := (dC, dI)) (ci := 7) (v := .int 0) (C := "RingGuardModel") (T := T_MO) (N := 53) hx hb hu7 zid hown hK hP 0 rfl rfl 38 (by decide) (hB.word (zm4 k4_152) rfl) (fun _ h9 => h9) rfl dMO_lost_6 ?_
  refine W.widen (k := 0) (n := 0) (Nat.le_of_ble_eq_true rfl) (Nat.le_of_ble_eq_true rfl) ?_
  have hP9 : va_P (dC, dI) zCl [(mo, .inr (7, [.int 0, .int 0, .int 0, .int 0, .ref (mb 0), .ref (mb 1), .ref (mb 2), .ref (mb 3), .ref (mb 4), .ref (mb 5), .ref (mb 6), .ref (mb 7), .ref (mb 8), .ref (mb 9), .ref (mb 10), .ref (mb 11), .ref (mb 12), .ref (mb 13), .ref (mb 14), .ref (mb 15), .ref (mb 16), .ref (mb 17), .ref (mb 18), .ref (mb 19), .ref (mb 20), .ref (mb 21), .ref (mb 22), .ref (mb 23), .ref (mb 24), .ref (mb 25), .ref (mb 26), .ref (mb 27), .ref (mb 28), .ref (mb 29), .ref (mb 30), .ref (mb 31), .ref (mb 32), .int 0, .int 0, .int 0, .int 0, .int 0, .int 0, .int 0, .ref (mb 33), .ref (mb 34), .ref (mb 35), .ref (mb 36), .int 0, .int 0, .int 0, .int 0, .ref (mb 37)]))] H := hP.sub [0] rfl
  have hD9 : va_D A [(mo, .inr (7, [.int 0, .int 0, .int 0, .int 0, .ref (mb 0), .ref (mb 1), .ref (mb 2), .ref (mb 3), .ref (mb 4), .ref (mb 5), .ref (mb 6), .ref (mb 7), .ref (mb 8), .ref (mb 9), .ref (mb 10), .ref (mb 11), .ref (mb 12), .ref (mb 13), .ref (mb 14), .ref (mb 15), .ref (mb 16), .ref (mb 17), .ref (mb 18), .ref (mb 19), .ref (mb 20), .ref (mb 21), .ref (mb 22), .ref (mb 23), .ref (mb 24), .ref (mb 25), .ref (mb 26), .ref (mb 27), .ref (mb 28), .ref (mb 29), .ref (mb 30), .ref (mb 31), .ref (mb 32), .int 0, .int 0, .int 0, .int 0, .int 0, .int 0, .int 0, .ref (mb 33), .ref (mb 34), .ref (mb 35), .ref (mb 36), .int 0, .int 0, .int 0, .int 0, .ref (mb 37)]))] := hD.sub [0] (by decide) rfl
  exact W.iret (v := 0) hx hb hr (fun t ht hW => ⟨⟨0, (), rfl, rfl, by rw [ht]; exact hP9, hD9⟩, hS.F ht⟩) hS.2.2 dMO_lost_9
set_option maxHeartbeats 4000000 in
set_option maxRecDepth 100000 in
theorem zm_circles (l : Launch) (dC : Nat → ClassId) (dI : Nat → Nat → Nat) (cI cZ cJ : ClassId) (a0 : Array Value) (s0 : State) (mo : Nat) (mb : Nat → Nat) (sz : Nat) : Met l yMO_circles [Cond.code yMO_circles bMO_circles 1 (some .int)] ({ frames := 0, cells := 0, slots := 0, locals := 0 } : Room) (zP zCl dC dI (zTY cI cZ cJ) a0 s0 [.ref mo] sz [(mo, .inr (7, [.int 0, .int 0, .int 0, .int 0, .ref (mb 0), .ref (mb 1), .ref (mb 2), .ref (mb 3), .ref (mb 4), .ref (mb 5), .ref (mb 6), .ref (mb 7), .ref (mb 8), .ref (mb 9), .ref (mb 10), .ref (mb 11), .ref (mb 12), .ref (mb 13), .ref (mb 14), .ref (mb 15), .ref (mb 16), .ref (mb 17), .ref (mb 18), .ref (mb 19), .ref (mb 20), .ref (mb 21), .ref (mb 22), .ref (mb 23), .ref (mb 24), .ref (mb 25), .ref (mb 26), .ref (mb 27), .ref (mb 28), .ref (mb 29), .ref (mb 30), .ref (mb 31), .ref (mb 32), .int 0, .int 0, .int 0, .int 0, .int 0, .int 0, .int 0, .ref (mb 33), .ref (mb 34), .ref (mb 35), .ref (mb 36), .int 0, .int 0, .int 0, .int 0, .ref (mb 37)]))]) (zQi zCl dC dI (fun r => r = 0) [(mo, .inr (7, [.int 0, .int 0, .int 0, .int 0, .ref (mb 0), .ref (mb 1), .ref (mb 2), .ref (mb 3), .ref (mb 4), .ref (mb 5), .ref (mb 6), .ref (mb 7), .ref (mb 8), .ref (mb 9), .ref (mb 10), .ref (mb 11), .ref (mb 12), .ref (mb 13), .ref (mb 14), .ref (mb 15), .ref (mb 16), .ref (mb 17), .ref (mb 18), .ref (mb 19), .ref (mb 20), .ref (mb 21), .ref (mb 22), .ref (mb 23), .ref (mb 24), .ref (mb 25), .ref (mb 26), .ref (mb 27), .ref (mb 28), .ref (mb 29), .ref (mb 30), .ref (mb 31), .ref (mb 32), .int 0, .int 0, .int 0, .int 0, .int 0, .int 0, .int 0, .ref (mb 33), .ref (mb 34), .ref (mb 35), .ref (mb 36), .int 0, .int 0, .int 0, .int 0, .ref (mb 37)]))] (va_A [(mo, .inr (7, [.int 0, .int 0, .int 0, .int 0, .ref (mb 0), .ref (mb 1), .ref (mb 2), .ref (mb 3), .ref (mb 4), .ref (mb 5), .ref (mb 6), .ref (mb 7), .ref (mb 8), .ref (mb 9), .ref (mb 10), .ref (mb 11), .ref (mb 12), .ref (mb 13), .ref (mb 14), .ref (mb 15), .ref (mb 16), .ref (mb 17), .ref (mb 18), .ref (mb 19), .ref (mb 20), .ref (mb 21), .ref (mb 22), .ref (mb 23), .ref (mb 24), .ref (mb 25), .ref (mb 26), .ref (mb 27), .ref (mb 28), .ref (mb 29), .ref (mb 30), .ref (mb 31), .ref (mb 32), .int 0, .int 0, .int 0, .int 0, .int 0, .int 0, .int 0, .ref (mb 33), .ref (mb 34), .ref (mb 35), .ref (mb 36), .int 0, .int 0, .int 0, .int 0, .ref (mb 37)]))] sz)) 0 0 (va_A [(mo, .inr (7, [.int 0, .int 0, .int 0, .int 0, .ref (mb 0), .ref (mb 1), .ref (mb 2), .ref (mb 3), .ref (mb 4), .ref (mb 5), .ref (mb 6), .ref (mb 7), .ref (mb 8), .ref (mb 9), .ref (mb 10), .ref (mb 11), .ref (mb 12), .ref (mb 13), .ref (mb 14), .ref (mb 15), .ref (mb 16), .ref (mb 17), .ref (mb 18), .ref (mb 19), .ref (mb 20), .ref (mb 21), .ref (mb 22), .ref (mb 23), .ref (mb 24), .ref (mb 25), .ref (mb 26), .ref (mb 27), .ref (mb 28), .ref (mb 29), .ref (mb 30), .ref (mb 31), .ref (mb 32), .int 0, .int 0, .int 0, .int 0, .int 0, .int 0, .int 0, .ref (mb 33), .ref (mb 34), .ref (mb 35), .ref (mb 36), .int 0, .int 0, .int 0, .int 0, .ref (mb 37)]))] sz) := by
  refine Met.ofW (cc := bMO_circles) (maxL := 1) (ret := (some .int)) (by decide) rfl ?_
  intro p e s m args below meth c s₁ B hml hv
  obtain ⟨rfl, hsz, hP, hK, hD0, hB⟩ := hv
  have hx := B.exec
  have hb := B.bytes
  have hr := B.returns
  have hown : s.vm.findClass "RingGuardModel" = some m.cls := findClass_of_methodNamed B.named
  have hlocks := B.notSynchronized
  subst hsz
  have hD := hD0.self (sz := s.heap.size)
  have hA0 := zA0 hD0 hB
  generalize hAe : va_A [(mo, .inr (7, [.int 0, .int 0, .int 0, .int 0, .ref (mb 0), .ref (mb 1), .ref (mb 2), .ref (mb 3), .ref (mb 4), .ref (mb 5), .ref (mb 6), .ref (mb 7), .ref (mb 8), .ref (mb 9), .ref (mb 10), .ref (mb 11), .ref (mb 12), .ref (mb 13), .ref (mb 14), .ref (mb 15), .ref (mb 16), .ref (mb 17), .ref (mb 18), .ref (mb 19), .ref (mb 20), .ref (mb 21), .ref (mb 22), .ref (mb 23), .ref (mb 24), .ref (mb 25), .ref (mb 26), .ref (mb 27), .ref (mb 28), .ref (mb 29), .ref (mb 30), .ref (mb 31), .ref (mb 32), .int 0, .int 0, .int 0, .int 0, .int 0, .int 0, .int 0, .ref (mb 33), .ref (mb 34), .ref (mb 35), .ref (mb 36), .int 0, .int 0, .int 0, .int 0, .ref (mb 37)]))] s.heap.size = A at hD hA0 ⊢
  have hAD := hA0
  have hA : ∀ q : Nat, s.heap.size ≤ q → A q := fun q h => by rw [← hAe]; exact Or.inr h
  have hS : va_S A s.heap s.heap [] := va_S.rf
  have hP : va_P (dC, dI) zCl [(mo, .inr (7, [.int 0, .int 0, .int 0, .int 0, .ref (mb 0), .ref (mb 1), .ref (mb 2), .ref (mb 3), .ref (mb 4), .ref (mb 5), .ref (mb 6), .ref (mb 7), .ref (mb 8), .ref (mb 9), .ref (mb 10), .ref (mb 11), .ref (mb 12), .ref (mb 13), .ref (mb 14), .ref (mb 15), .ref (mb 16), .ref (mb 17), .ref (mb 18), .ref (mb 19), .ref (mb 20), .ref (mb 21), .ref (mb 22), .ref (mb 23), .ref (mb 24), .ref (mb 25), .ref (mb 26), .ref (mb 27), .ref (mb 28), .ref (mb 29), .ref (mb 30), .ref (mb 31), .ref (mb 32), .int 0, .int 0, .int 0, .int 0, .int 0, .int 0, .int 0, .ref (mb 33), .ref (mb 34), .ref (mb 35), .ref (mb 36), .int 0, .int 0, .int 0, .int 0, .ref (mb 37)]))] s.heap := hP
  have hl := lv_entry ([.ref mo]) (n := 1) (Nat.le_of_ble_eq_true rfl)
  rw [lg_entry_eq]
  generalize (lg_sl ([.ref mo]) ++ List.replicate (1 - (lg_sl ([.ref mo])).length) Slot.unset).toArray = ls at hl ⊢
  have hl : lv_has ls 1 [(0, .ref mo)] := hl
  refine lv_aload_n hx hb dMO_circles_0 rfl (lv_at hl 0 rfl) ?_
  refine lv_iconst (v := 0) hx hb dMO_circles_1 (by decide) ?_
  have hu7 : ∀ w ∈ u_ws "RingGuardModel" T_MO 53, w.before ([.ref mo] : List Value).toArray s = true := hB.words zU_MO
  refine va_put (D := (dC, dI)) (ci := 7) (v := .int 0) (ty := .int) (C := "RingGuardModel") (T := T_MO) (N := 53) hx hb hu7 zid ty_MO ok_MO nm_MO hown hK hP hD hS 0 rfl rfl 0 (by decide) (hB.word (zm4 k4_114) rfl) (fun _ h9 => h9) rfl (by decide +kernel) rfl rfl (Nat.le_of_ble_eq_true rfl) dMO_circles_2 (fun H locs hP hD hS => ?_)
  have hP : va_P (dC, dI) zCl [(mo, .inr (7, [.int 0, .int 0, .int 0, .int 0, .ref (mb 0), .ref (mb 1), .ref (mb 2), .ref (mb 3), .ref (mb 4), .ref (mb 5), .ref (mb 6), .ref (mb 7), .ref (mb 8), .ref (mb 9), .ref (mb 10), .ref (mb 11), .ref (mb 12), .ref (mb 13), .ref (mb 14), .ref (mb 15), .ref (mb 16), .ref (mb 17), .ref (mb 18), .ref (mb 19), .ref (mb 20), .ref (mb 21), .ref (mb 22), .ref (mb 23), .ref (mb 24), .ref (mb 25), .ref (mb 26), .ref (mb 27), .ref (mb 28), .ref (mb 29), .ref (mb 30), .ref (mb 31), .ref (mb 32), .int 0, .int 0, .int 0, .int 0, .int 0, .int 0, .int 0, .ref (mb 33), .ref (mb 34), .ref (mb 35), .ref (mb 36), .int 0, .int 0, .int 0, .int 0, .ref (mb 37)]))] H := hP
  have hD : va_D A [(mo, .inr (7, [.int 0, .int 0, .int 0, .int 0, .ref (mb 0), .ref (mb 1), .ref (mb 2), .ref (mb 3), .ref (mb 4), .ref (mb 5), .ref (mb 6), .ref (mb 7), .ref (mb 8), .ref (mb 9), .ref (mb 10), .ref (mb 11), .ref (mb 12), .ref (mb 13), .ref (mb 14), .ref (mb 15), .ref (mb 16), .ref (mb 17), .ref (mb 18), .ref (mb 19), .ref (mb 20), .ref (mb 21), .ref (mb 22), .ref (mb 23), .ref (mb 24), .ref (mb 25), .ref (mb 26), .ref (mb 27), .ref (mb 28), .ref (mb 29), .ref (mb 30), .ref (mb 31), .ref (mb 32), .int 0, .int 0, .int 0, .int 0, .int 0, .int 0, .int 0, .ref (mb 33), .ref (mb 34), .ref (mb 35), .ref (mb 36), .int 0, .int 0, .int 0, .int 0, .ref (mb 37)]))] := hD
  refine lv_aload_n hx hb dMO_circles_5 rfl (lv_at hl 0 rfl) ?_
  refine va_get (D := (dC, dI)) (ci := 7) (v := .int 0) (C := "RingGuardModel") (T := T_MO) (N := 53) hx hb hu7 zid hown hK hP 0 rfl rfl 42 (by decide) (hB.word (zm4 k4_156) rfl) (fun _ h9 => h9) rfl dMO_circles_6 ?_
  refine W.widen (k := 0) (n := 0) (Nat.le_of_ble_eq_true rfl) (Nat.le_of_ble_eq_true rfl) ?_
  have hP9 : va_P (dC, dI) zCl [(mo, .inr (7, [.int 0, .int 0, .int 0, .int 0, .ref (mb 0), .ref (mb 1), .ref (mb 2), .ref (mb 3), .ref (mb 4), .ref (mb 5), .ref (mb 6), .ref (mb 7), .ref (mb 8), .ref (mb 9), .ref (mb 10), .ref (mb 11), .ref (mb 12), .ref (mb 13), .ref (mb 14), .ref (mb 15), .ref (mb 16), .ref (mb 17), .ref (mb 18), .ref (mb 19), .ref (mb 20), .ref (mb 21), .ref (mb 22), .ref (mb 23), .ref (mb 24), .ref (mb 25), .ref (mb 26), .ref (mb 27), .ref (mb 28), .ref (mb 29), .ref (mb 30), .ref (mb 31), .ref (mb 32), .int 0, .int 0, .int 0, .int 0, .int 0, .int 0, .int 0, .ref (mb 33), .ref (mb 34), .ref (mb 35), .ref (mb 36), .int 0, .int 0, .int 0, .int 0, .ref (mb 37)]))] H := hP.sub [0] rfl
  have hD9 : va_D A [(mo, .inr (7, [.int 0, .int 0, .int 0, .int 0, .ref (mb 0), .ref (mb 1), .ref (mb 2), .ref (mb 3), .ref (mb 4), .ref (mb 5), .ref (mb 6), .ref (mb 7), .ref (mb 8), .ref (mb 9), .ref (mb 10), .ref (mb 11), .ref (mb 12), .ref (mb 13), .ref (mb 14), .ref (mb 15), .ref (mb 16), .ref (mb 17), .ref (mb 18), .ref (mb 19), .ref (mb 20), .ref (mb 21), .ref (mb 22), .ref (mb 23), .ref (mb 24), .ref (mb 25), .ref (mb 26), .ref (mb 27), .ref (mb 28), .ref (mb 29), .ref (mb 30), .ref (mb 31), .ref (mb 32), .int 0, .int 0, .int 0, .int 0, .int 0, .int 0, .int 0, .ref (mb 33), .ref (mb 34), .ref (mb 35), .ref (mb 36), .int 0, .int 0, .int 0, .int 0, .ref (mb 37)]))] := hD.sub [0] (by decide) rfl
  exact W.iret (v := 0) hx hb hr (fun t ht hW => ⟨⟨0, (), rfl, rfl, by rw [ht]; exact hP9, hD9⟩, hS.F ht⟩) hS.2.2 dMO_circles_9
set_option maxHeartbeats 4000000 in
set_option maxRecDepth 100000 in
theorem zm_apart (l : Launch) (dC : Nat → ClassId) (dI : Nat → Nat → Nat) (cI cZ cJ : ClassId) (a0 : Array Value) (s0 : State) (mo : Nat) (mb : Nat → Nat) (sz : Nat) : Met l yMO_apart [Cond.code yMO_apart bMO_apart 1 (some .int)] ({ frames := 0, cells := 0, slots := 0, locals := 0 } : Room) (zP zCl dC dI (zTY cI cZ cJ) a0 s0 [.ref mo] sz [(mo, .inr (7, [.int 0, .int 0, .int 0, .int 0, .ref (mb 0), .ref (mb 1), .ref (mb 2), .ref (mb 3), .ref (mb 4), .ref (mb 5), .ref (mb 6), .ref (mb 7), .ref (mb 8), .ref (mb 9), .ref (mb 10), .ref (mb 11), .ref (mb 12), .ref (mb 13), .ref (mb 14), .ref (mb 15), .ref (mb 16), .ref (mb 17), .ref (mb 18), .ref (mb 19), .ref (mb 20), .ref (mb 21), .ref (mb 22), .ref (mb 23), .ref (mb 24), .ref (mb 25), .ref (mb 26), .ref (mb 27), .ref (mb 28), .ref (mb 29), .ref (mb 30), .ref (mb 31), .ref (mb 32), .int 0, .int 0, .int 0, .int 0, .int 0, .int 0, .int 0, .ref (mb 33), .ref (mb 34), .ref (mb 35), .ref (mb 36), .int 0, .int 0, .int 0, .int 0, .ref (mb 37)]))]) (zQi zCl dC dI (fun r => r = 0) [(mo, .inr (7, [.int 0, .int 0, .int 0, .int 0, .ref (mb 0), .ref (mb 1), .ref (mb 2), .ref (mb 3), .ref (mb 4), .ref (mb 5), .ref (mb 6), .ref (mb 7), .ref (mb 8), .ref (mb 9), .ref (mb 10), .ref (mb 11), .ref (mb 12), .ref (mb 13), .ref (mb 14), .ref (mb 15), .ref (mb 16), .ref (mb 17), .ref (mb 18), .ref (mb 19), .ref (mb 20), .ref (mb 21), .ref (mb 22), .ref (mb 23), .ref (mb 24), .ref (mb 25), .ref (mb 26), .ref (mb 27), .ref (mb 28), .ref (mb 29), .ref (mb 30), .ref (mb 31), .ref (mb 32), .int 0, .int 0, .int 0, .int 0, .int 0, .int 0, .int 0, .ref (mb 33), .ref (mb 34), .ref (mb 35), .ref (mb 36), .int 0, .int 0, .int 0, .int 0, .ref (mb 37)]))] (va_A [(mo, .inr (7, [.int 0, .int 0, .int 0, .int 0, .ref (mb 0), .ref (mb 1), .ref (mb 2), .ref (mb 3), .ref (mb 4), .ref (mb 5), .ref (mb 6), .ref (mb 7), .ref (mb 8), .ref (mb 9), .ref (mb 10), .ref (mb 11), .ref (mb 12), .ref (mb 13), .ref (mb 14), .ref (mb 15), .ref (mb 16), .ref (mb 17), .ref (mb 18), .ref (mb 19), .ref (mb 20), .ref (mb 21), .ref (mb 22), .ref (mb 23), .ref (mb 24), .ref (mb 25), .ref (mb 26), .ref (mb 27), .ref (mb 28), .ref (mb 29), .ref (mb 30), .ref (mb 31), .ref (mb 32), .int 0, .int 0, .int 0, .int 0, .int 0, .int 0, .int 0, .ref (mb 33), .ref (mb 34), .ref (mb 35), .ref (mb 36), .int 0, .int 0, .int 0, .int 0, .ref (mb 37)]))] sz)) 0 0 (va_A [(mo, .inr (7, [.int 0, .int 0, .int 0, .int 0, .ref (mb 0), .ref (mb 1), .ref (mb 2), .ref (mb 3), .ref (mb 4), .ref (mb 5), .ref (mb 6), .ref (mb 7), .ref (mb 8), .ref (mb 9), .ref (mb 10), .ref (mb 11), .ref (mb 12), .ref (mb 13), .ref (mb 14), .ref (mb 15), .ref (mb 16), .ref (mb 17), .ref (mb 18), .ref (mb 19), .ref (mb 20), .ref (mb 21), .ref (mb 22), .ref (mb 23), .ref (mb 24), .ref (mb 25), .ref (mb 26), .ref (mb 27), .ref (mb 28), .ref (mb 29), .ref (mb 30), .ref (mb 31), .ref (mb 32), .int 0, .int 0, .int 0, .int 0, .int 0, .int 0, .int 0, .ref (mb 33), .ref (mb 34), .ref (mb 35), .ref (mb 36), .int 0, .int 0, .int 0, .int 0, .ref (mb 37)]))] sz) := by
  refine Met.ofW (cc := bMO_apart) (maxL := 1) (ret := (some .int)) (by decide) rfl ?_
  intro p e s m args below meth c s₁ B hml hv
  obtain ⟨rfl, hsz, hP, hK, hD0, hB⟩ := hv
  have hx := B.exec
  have hb := B.bytes
  have hr := B.returns
  have hown : s.vm.findClass "RingGuardModel" = some m.cls := findClass_of_methodNamed B.named
  have hlocks := B.notSynchronized
  subst hsz
  have hD := hD0.self (sz := s.heap.size)
  have hA0 := zA0 hD0 hB
  generalize hAe : va_A [(mo, .inr (7, [.int 0, .int 0, .int 0, .int 0, .ref (mb 0), .ref (mb 1), .ref (mb 2), .ref (mb 3), .ref (mb 4), .ref (mb 5), .ref (mb 6), .ref (mb 7), .ref (mb 8), .ref (mb 9), .ref (mb 10), .ref (mb 11), .ref (mb 12), .ref (mb 13), .ref (mb 14), .ref (mb 15), .ref (mb 16), .ref (mb 17), .ref (mb 18), .ref (mb 19), .ref (mb 20), .ref (mb 21), .ref (mb 22), .ref (mb 23), .ref (mb 24), .ref (mb 25), .ref (mb 26), .ref (mb 27), .ref (mb 28), .ref (mb 29), .ref (mb 30), .ref (mb 31), .ref (mb 32), .int 0, .int 0, .int 0, .int 0, .int 0, .int 0, .int 0, .ref (mb 33), .ref (mb 34), .ref (mb 35), .ref (mb 36), .int 0, .int 0, .int 0, .int 0, .ref (mb 37)]))] s.heap.size = A at hD hA0 ⊢
  have hAD := hA0
  have hA : ∀ q : Nat, s.heap.size ≤ q → A q := fun q h => by rw [← hAe]; exact Or.inr h
  have hS : va_S A s.heap s.heap [] := va_S.rf
  have hP : va_P (dC, dI) zCl [(mo, .inr (7, [.int 0, .int 0, .int 0, .int 0, .ref (mb 0), .ref (mb 1), .ref (mb 2), .ref (mb 3), .ref (mb 4), .ref (mb 5), .ref (mb 6), .ref (mb 7), .ref (mb 8), .ref (mb 9), .ref (mb 10), .ref (mb 11), .ref (mb 12), .ref (mb 13), .ref (mb 14), .ref (mb 15), .ref (mb 16), .ref (mb 17), .ref (mb 18), .ref (mb 19), .ref (mb 20), .ref (mb 21), .ref (mb 22), .ref (mb 23), .ref (mb 24), .ref (mb 25), .ref (mb 26), .ref (mb 27), .ref (mb 28), .ref (mb 29), .ref (mb 30), .ref (mb 31), .ref (mb 32), .int 0, .int 0, .int 0, .int 0, .int 0, .int 0, .int 0, .ref (mb 33), .ref (mb 34), .ref (mb 35), .ref (mb 36), .int 0, .int 0, .int 0, .int 0, .ref (mb 37)]))] s.heap := hP
  have hl := lv_entry ([.ref mo]) (n := 1) (Nat.le_of_ble_eq_true rfl)
  rw [lg_entry_eq]
  generalize (lg_sl ([.ref mo]) ++ List.replicate (1 - (lg_sl ([.ref mo])).length) Slot.unset).toArray = ls at hl ⊢
  have hl : lv_has ls 1 [(0, .ref mo)] := hl
  refine lv_aload_n hx hb dMO_apart_0 rfl (lv_at hl 0 rfl) ?_
  refine lv_iconst (v := 0) hx hb dMO_apart_1 (by decide) ?_
  have hu7 : ∀ w ∈ u_ws "RingGuardModel" T_MO 53, w.before ([.ref mo] : List Value).toArray s = true := hB.words zU_MO
  refine va_put (D := (dC, dI)) (ci := 7) (v := .int 0) (ty := .int) (C := "RingGuardModel") (T := T_MO) (N := 53) hx hb hu7 zid ty_MO ok_MO nm_MO hown hK hP hD hS 0 rfl rfl 0 (by decide) (hB.word (zm4 k4_114) rfl) (fun _ h9 => h9) rfl (by decide +kernel) rfl rfl (Nat.le_of_ble_eq_true rfl) dMO_apart_2 (fun H locs hP hD hS => ?_)
  have hP : va_P (dC, dI) zCl [(mo, .inr (7, [.int 0, .int 0, .int 0, .int 0, .ref (mb 0), .ref (mb 1), .ref (mb 2), .ref (mb 3), .ref (mb 4), .ref (mb 5), .ref (mb 6), .ref (mb 7), .ref (mb 8), .ref (mb 9), .ref (mb 10), .ref (mb 11), .ref (mb 12), .ref (mb 13), .ref (mb 14), .ref (mb 15), .ref (mb 16), .ref (mb 17), .ref (mb 18), .ref (mb 19), .ref (mb 20), .ref (mb 21), .ref (mb 22), .ref (mb 23), .ref (mb 24), .ref (mb 25), .ref (mb 26), .ref (mb 27), .ref (mb 28), .ref (mb 29), .ref (mb 30), .ref (mb 31), .ref (mb 32), .int 0, .int 0, .int 0, .int 0, .int 0, .int 0, .int 0, .ref (mb 33), .ref (mb 34), .ref (mb 35), .ref (mb 36), .int 0, .int 0, .int 0, .int 0, .ref (mb 37)]))] H := hP
  have hD : va_D A [(mo, .inr (7, [.int 0, .int 0, .int 0, .int 0, .ref (mb 0), .ref (mb 1), .ref (mb 2), .ref (mb 3), .ref (mb 4), .ref (mb 5), .ref (mb 6), .ref (mb 7), .ref (mb 8), .ref (mb 9), .ref (mb 10), .ref (mb 11), .ref (mb 12), .ref (mb 13), .ref (mb 14), .ref (mb 15), .ref (mb 16), .ref (mb 17), .ref (mb 18), .ref (mb 19), .ref (mb 20), .ref (mb 21), .ref (mb 22), .ref (mb 23), .ref (mb 24), .ref (mb 25), .ref (mb 26), .ref (mb 27), .ref (mb 28), .ref (mb 29), .ref (mb 30), .ref (mb 31), .ref (mb 32), .int 0, .int 0, .int 0, .int 0, .int 0, .int 0, .int 0, .ref (mb 33), .ref (mb 34), .ref (mb 35), .ref (mb 36), .int 0, .int 0, .int 0, .int 0, .ref (mb 37)]))] := hD
  refine lv_aload_n hx hb dMO_apart_5 rfl (lv_at hl 0 rfl) ?_
  refine va_get (D := (dC, dI)) (ci := 7) (v := .int 0) (C := "RingGuardModel") (T := T_MO) (N := 53) hx hb hu7 zid hown hK hP 0 rfl rfl 43 (by decide) (hB.word (zm4 k4_157) rfl) (fun _ h9 => h9) rfl dMO_apart_6 ?_
  refine W.widen (k := 0) (n := 0) (Nat.le_of_ble_eq_true rfl) (Nat.le_of_ble_eq_true rfl) ?_
  have hP9 : va_P (dC, dI) zCl [(mo, .inr (7, [.int 0, .int 0, .int 0, .int 0, .ref (mb 0), .ref (mb 1), .ref (mb 2), .ref (mb 3), .ref (mb 4), .ref (mb 5), .ref (mb 6), .ref (mb 7), .ref (mb 8), .ref (mb 9), .ref (mb 10), .ref (mb 11), .ref (mb 12), .ref (mb 13), .ref (mb 14), .ref (mb 15), .ref (mb 16), .ref (mb 17), .ref (mb 18), .ref (mb 19), .ref (mb 20), .ref (mb 21), .ref (mb 22), .ref (mb 23), .ref (mb 24), .ref (mb 25), .ref (mb 26), .ref (mb 27), .ref (mb 28), .ref (mb 29), .ref (mb 30), .ref (mb 31), .ref (mb 32), .int 0, .int 0, .int 0, .int 0, .int 0, .int 0, .int 0, .ref (mb 33), .ref (mb 34), .ref (mb 35), .ref (mb 36), .int 0, .int 0, .int 0, .int 0, .ref (mb 37)]))] H := hP.sub [0] rfl
  have hD9 : va_D A [(mo, .inr (7, [.int 0, .int 0, .int 0, .int 0, .ref (mb 0), .ref (mb 1), .ref (mb 2), .ref (mb 3), .ref (mb 4), .ref (mb 5), .ref (mb 6), .ref (mb 7), .ref (mb 8), .ref (mb 9), .ref (mb 10), .ref (mb 11), .ref (mb 12), .ref (mb 13), .ref (mb 14), .ref (mb 15), .ref (mb 16), .ref (mb 17), .ref (mb 18), .ref (mb 19), .ref (mb 20), .ref (mb 21), .ref (mb 22), .ref (mb 23), .ref (mb 24), .ref (mb 25), .ref (mb 26), .ref (mb 27), .ref (mb 28), .ref (mb 29), .ref (mb 30), .ref (mb 31), .ref (mb 32), .int 0, .int 0, .int 0, .int 0, .int 0, .int 0, .int 0, .ref (mb 33), .ref (mb 34), .ref (mb 35), .ref (mb 36), .int 0, .int 0, .int 0, .int 0, .ref (mb 37)]))] := hD.sub [0] (by decide) rfl
  exact W.iret (v := 0) hx hb hr (fun t ht hW => ⟨⟨0, (), rfl, rfl, by rw [ht]; exact hP9, hD9⟩, hS.F ht⟩) hS.2.2 dMO_apart_9
end
section
set_option maxHeartbeats 4000000 in
set_option maxRecDepth 100000 in
theorem zp_countOnLinks (l : Launch) (dC : Nat → ClassId) (dI : Nat → Nat → Nat) (cI cZ cJ : ClassId) (a0 : Array Value) (s0 : State) (x : Nat) (b : Nat → Nat) (sz : Nat) : Met l yWI_countOnLinks [Cond.code yWI_countOnLinks bWI_countOnLinks 3 (some .int)] ({ frames := 0, cells := 0, slots := 0, locals := 0 } : Room) (zP zCl dC dI (zTY cI cZ cJ) a0 s0 [.ref (b 1)] sz [((b 1), .inr (2, [.ref (b 24), .ref (b 25), .ref (b 26), .ref (b 27), .ref (b 28), .int 0])), ((b 27), .inl (cI, 120, .inl (fun _ => 0)))]) (zQp (fun r => r = 0) sz) 0 0 (zN sz) := by
  refine Met.ofW (cc := bWI_countOnLinks) (maxL := 3) (ret := (some .int)) (by decide) rfl ?_
  intro p e s m args below meth c s₁ B hml hv
  obtain ⟨rfl, hsz, hP, hK, hD0, hB⟩ := hv
  have hx := B.exec
  have hb := B.bytes
  have hr := B.returns
  have hown : s.vm.findClass "RingGuard$Wires" = some m.cls := findClass_of_methodNamed B.named
  have hlocks := B.notSynchronized
  subst hsz
  have hD := hD0
  have hA0 : ∀ q, zN s.heap.size q → s0.heap.size ≤ q := zA1 hB
  have hAD : ∀ q, zN s0.heap.size q → s0.heap.size ≤ q := fun _ h => h
  have hA : ∀ q : Nat, s.heap.size ≤ q → zN s.heap.size q := fun _ h => h
  have hS : va_S (zN s.heap.size) s.heap s.heap [] := va_S.rf
  have hP : va_P (dC, dI) zCl [((b 1), .inr (2, [.ref (b 24), .ref (b 25), .ref (b 26), .ref (b 27), .ref (b 28), .int 0])), ((b 27), .inl (cI, 120, .inl (fun _ => 0)))] s.heap := hP
  have hl := lv_entry ([.ref (b 1)]) (n := 3) (Nat.le_of_ble_eq_true rfl)
  rw [lg_entry_eq]
  generalize (lg_sl ([.ref (b 1)]) ++ List.replicate (3 - (lg_sl ([.ref (b 1)])).length) Slot.unset).toArray = ls at hl ⊢
  have hl : lv_has ls 3 [(0, .ref (b 1))] := hl
  refine lv_iconst (v := 0) hx hb dWI_countOnLinks_0 (by decide) ?_
  refine lv_istore_n (lv' := [(1, .int 0), (0, .ref (b 1))]) hx hb dWI_countOnLinks_1 rfl hl (by decide) rfl (fun ls hl => ?_)
  refine lv_iconst (v := 0) hx hb dWI_countOnLinks_2 (by decide) ?_
  refine lv_istore_n (lv' := [(2, .int 0), (1, .int 0), (0, .ref (b 1))]) hx hb dWI_countOnLinks_3 rfl hl (by decide) rfl (fun ls hl => ?_)
  refine zfor (N := 120) (fun k => ∀ (H : Heap) (locs : List Loc) (ls : Array Slot), va_P (dC, dI) zCl [((b 1), .inr (2, [.ref (b 24), .ref (b 25), .ref (b 26), .ref (b 27), .ref (b 28), .int 0])), ((b 27), .inl (cI, 120, .inl (fun _ => 0)))] H → va_D (zN s0.heap.size) [((b 1), .inr (2, [.ref (b 24), .ref (b 25), .ref (b 26), .ref (b 27), .ref (b 28), .int 0])), ((b 27), .inl (cI, 120, .inl (fun _ => 0)))] → va_S (zN s.heap.size) s.heap H locs → lv_has ls 3 [(0, .ref (b 1)), (1, .int 0), (2, .int (nI k))] → W p l e _ s m _ below meth c H locs _ _ _ (F0 m 4 ls [])) ?_ ?_ s.heap [] ls hP hD hS (lv_sub hl [2, 1, 0] rfl)
  · intro k hk ih H locs ls   hP hD hS hl
    refine lv_iload_n hx hb dWI_countOnLinks_4 rfl (lv_at hl 2 rfl) ?_
    refine lv_bipush (v := 120) hx hb dWI_countOnLinks_5 (by decide) ?_
    refine lv_icmp_ge (tgt := 25) hx hb dWI_countOnLinks_7 (by decide) (fun c9 => absurd c9 (nI_ge (b := 120) hk (by decide))) (fun _ => ?_)
    refine lv_iload_n hx hb dWI_countOnLinks_10 rfl (lv_at hl 1 rfl) ?_
    refine lv_aload_n hx hb dWI_countOnLinks_11 rfl (lv_at hl 0 rfl) ?_
    have hu2 : ∀ w ∈ u_ws "RingGuard$Wires" T_WI 6, w.before ([.ref (b 1)] : List Value).toArray s = true := hB.words zU_WI
    refine va_get (D := (dC, dI)) (ci := 2) (v := .ref (b 27)) (C := "RingGuard$Wires") (T := T_WI) (N := 6) hx hb hu2 zid hown hK hP 0 rfl rfl 3 (by decide) (hB.word (zm1 k1_93) rfl) (fun _ h9 => h9) rfl dWI_countOnLinks_12 ?_
    refine lv_iload_n hx hb dWI_countOnLinks_15 rfl (lv_at hl 2 rfl) ?_
    refine va_iald hx hb hK hP 1 0 rfl rfl (i := nI k) (vp_in_nI hk (by decide)) dWI_countOnLinks_16 ?_
    refine lv_topi (fun k1 ek1 => ?_)
    have ek1 : k1 = 0 := ek1
    subst ek1
    refine lv_iadd hx hb dWI_countOnLinks_17 ?_
    refine lv_topi (fun k2 ek2 => ?_)
    have ek2 : k2 = 0 := ek2.trans (by decide)
    subst ek2
    refine lv_istore_n (lv' := [(1, .int 0), (0, .ref (b 1)), (2, .int (nI k))]) hx hb dWI_countOnLinks_18 rfl hl (by decide) rfl (fun ls hl => ?_)
    refine lv_iinc (v := nI (k + 1)) (lv' := [(2, .int (nI (k + 1))), (1, .int 0), (0, .ref (b 1))]) hx hb dWI_countOnLinks_19 hl (k := 2) rfl (nI_1 k) (by decide) rfl (fun ls hl => ?_)
    refine lv_goto (tgt := 4) hx hb dWI_countOnLinks_22 (by decide) ?_
    exact ih H locs ls hP hD hS (lv_sub hl [2, 1, 0] rfl)
  · intro H locs ls   hP hD hS hl
    refine lv_iload_n hx hb dWI_countOnLinks_4 rfl (lv_at hl 2 rfl) ?_
    refine lv_bipush (v := 120) hx hb dWI_countOnLinks_5 (by decide) ?_
    refine lv_icmp_ge (tgt := 25) hx hb dWI_countOnLinks_7 (by decide) (fun _ => ?_) (fun c9 => absurd (nI_le (a := 120) (b := 120) (Nat.le_refl _) (by decide)) c9)
    refine lv_iload_n hx hb dWI_countOnLinks_25 rfl (lv_at hl 1 rfl) ?_
    refine W.widen (k := 0) (n := 0) (Nat.le_of_ble_eq_true rfl) (Nat.le_of_ble_eq_true rfl) ?_
    exact W.iret (v := 0) hx hb hr (fun t ht hW => ⟨⟨0, (), rfl, rfl, trivial⟩, hS.F ht⟩) hS.2.2 dWI_countOnLinks_26
set_option maxHeartbeats 4000000 in
set_option maxRecDepth 100000 in
theorem zp_casts (l : Launch) (dC : Nat → ClassId) (dI : Nat → Nat → Nat) (cI cZ cJ : ClassId) (a0 : Array Value) (s0 : State) (x : Nat) (b : Nat → Nat) (sz : Nat) : Met l yRG_casts [Cond.code yRG_casts bRG_casts 1 (some .int)] ({ frames := 1, cells := 0, slots := 0, locals := 22 } : Room) (zP zCl dC dI (zTY cI cZ cJ) a0 s0 [.ref x] sz [(x, .inr (0, [.ref (b 0), .ref (b 1), .ref (b 2), .ref (b 3), .ref (b 4), .ref (b 5), .int 0, .int 0, .int 0, .int 0, .int 0, .int 0, .int 0])), ((b 1), .inr (2, [.ref (b 24), .ref (b 25), .ref (b 26), .ref (b 27), .ref (b 28), .int 0])), ((b 27), .inl (cI, 120, .inl (fun _ => 0)))]) (zQp (fun r => r = 0) sz) 0 0 (zN sz) := by
  refine Met.ofW (cc := bRG_casts) (maxL := 1) (ret := (some .int)) (by decide) rfl ?_
  intro p e s m args below meth c s₁ B hml hv
  obtain ⟨rfl, hsz, hP, hK, hD0, hB⟩ := hv
  have hx := B.exec
  have hb := B.bytes
  have hr := B.returns
  have hown : s.vm.findClass "RingGuard" = some m.cls := findClass_of_methodNamed B.named
  have hlocks := B.notSynchronized
  subst hsz
  have hD := hD0
  have hA0 : ∀ q, zN s.heap.size q → s0.heap.size ≤ q := zA1 hB
  have hAD : ∀ q, zN s0.heap.size q → s0.heap.size ≤ q := fun _ h => h
  have hA : ∀ q : Nat, s.heap.size ≤ q → zN s.heap.size q := fun _ h => h
  have hS : va_S (zN s.heap.size) s.heap s.heap [] := va_S.rf
  have hP : va_P (dC, dI) zCl [(x, .inr (0, [.ref (b 0), .ref (b 1), .ref (b 2), .ref (b 3), .ref (b 4), .ref (b 5), .int 0, .int 0, .int 0, .int 0, .int 0, .int 0, .int 0])), ((b 1), .inr (2, [.ref (b 24), .ref (b 25), .ref (b 26), .ref (b 27), .ref (b 28), .int 0])), ((b 27), .inl (cI, 120, .inl (fun _ => 0)))] s.heap := hP
  have hl := lv_entry ([.ref x]) (n := 1) (Nat.le_of_ble_eq_true rfl)
  rw [lg_entry_eq]
  generalize (lg_sl ([.ref x]) ++ List.replicate (1 - (lg_sl ([.ref x])).length) Slot.unset).toArray = ls at hl ⊢
  have hl : lv_has ls 1 [(0, .ref x)] := hl
  refine lv_aload_n hx hb dRG_casts_0 rfl (lv_at hl 0 rfl) ?_
  have hu0 : ∀ w ∈ u_ws "RingGuard" T_RG 13, w.before ([.ref x] : List Value).toArray s = true := hB.words zU_RG
  refine va_get (D := (dC, dI)) (ci := 0) (v := .ref (b 1)) (C := "RingGuard") (T := T_RG) (N := 13) hx hb hu0 zid hown hK hP 0 rfl rfl 1 (by decide) (hB.word (zm1 k1_236) rfl) (fun _ h9 => h9) rfl dRG_casts_1 ?_
  have hPc : va_P (dC, dI) zCl [((b 1), .inr (2, [.ref (b 24), .ref (b 25), .ref (b 26), .ref (b 27), .ref (b 28), .int 0])), ((b 27), .inl (cI, 120, .inl (fun _ => 0)))] s.heap := hP.sub [1, 2] rfl
  have hDc : va_D (zN s0.heap.size) [((b 1), .inr (2, [.ref (b 24), .ref (b 25), .ref (b 26), .ref (b 27), .ref (b 28), .int 0])), ((b 27), .inl (cI, 120, .inl (fun _ => 0)))] := hD.sub [1, 2] (by decide) rfl
  refine zcallp (va_runV (As := []) (rest := []) ⟨hx, hb, hml, hown, zno⟩ (zp_countOnLinks l dC dI cI cZ cJ a0 s0 x b s.heap.size) (zcw 0 (hB.word (zm2 k2_46) rfl) (hB.word (zm1 k1_4) rfl) (hB.word (zm2 k2_43) rfl) (hB.word (zm2 k2_44) rfl) (hB.word (zm2 k2_45) rfl) rfl rfl (by decide +kernel) ⟨Nat.le_of_ble_eq_true rfl, Nat.le_of_ble_eq_true rfl⟩) ⟨zP_blind, va_recv hK hP (ci := 2) (q0 := 1) rfl rfl, zP_pre hPc hK hDc hAD (zB_on hB hA0 hS)⟩ rfl rfl hl.1 rfl (lv_room (Nat.le_of_ble_eq_true rfl)) dRG_casts_4 ⟨Nat.le_of_ble_eq_true rfl, Nat.le_of_ble_eq_true rfl⟩) hS hA (fun r1 H1 locs hr1 hz1 hk1 hS => ?_)
  have hP := zKeep hP hk1
  generalize H1 = H at hP hS ⊢
  have hP : va_P (dC, dI) zCl [(x, .inr (0, [.ref (b 0), .ref (b 1), .ref (b 2), .ref (b 3), .ref (b 4), .ref (b 5), .int 0, .int 0, .int 0, .int 0, .int 0, .int 0, .int 0])), ((b 1), .inr (2, [.ref (b 24), .ref (b 25), .ref (b 26), .ref (b 27), .ref (b 28), .int 0])), ((b 27), .inl (cI, 120, .inl (fun _ => 0)))] H := hP
  subst hr1
  refine W.widen (k := 0) (n := 0) (Nat.le_of_ble_eq_true rfl) (Nat.le_of_ble_eq_true rfl) ?_
  exact W.iret (v := 0) hx hb hr (fun t ht hW => ⟨⟨0, (), rfl, rfl, trivial⟩, hS.F ht⟩) hS.2.2 dRG_casts_7
set_option maxHeartbeats 4000000 in
set_option maxRecDepth 100000 in
theorem zm_casts (l : Launch) (dC : Nat → ClassId) (dI : Nat → Nat → Nat) (cI cZ cJ : ClassId) (a0 : Array Value) (s0 : State) (mo : Nat) (mb : Nat → Nat) (sz : Nat) : Met l yMO_casts [Cond.code yMO_casts bMO_casts 3 (some .int)] ({ frames := 0, cells := 0, slots := 0, locals := 0 } : Room) (zP zCl dC dI (zTY cI cZ cJ) a0 s0 [.ref mo] sz [(mo, .inr (7, [.int 0, .int 0, .int 0, .int 0, .ref (mb 0), .ref (mb 1), .ref (mb 2), .ref (mb 3), .ref (mb 4), .ref (mb 5), .ref (mb 6), .ref (mb 7), .ref (mb 8), .ref (mb 9), .ref (mb 10), .ref (mb 11), .ref (mb 12), .ref (mb 13), .ref (mb 14), .ref (mb 15), .ref (mb 16), .ref (mb 17), .ref (mb 18), .ref (mb 19), .ref (mb 20), .ref (mb 21), .ref (mb 22), .ref (mb 23), .ref (mb 24), .ref (mb 25), .ref (mb 26), .ref (mb 27), .ref (mb 28), .ref (mb 29), .ref (mb 30), .ref (mb 31), .ref (mb 32), .int 0, .int 0, .int 0, .int 0, .int 0, .int 0, .int 0, .ref (mb 33), .ref (mb 34), .ref (mb 35), .ref (mb 36), .int 0, .int 0, .int 0, .int 0, .ref (mb 37)])), ((mb 23), .inl (cI, 120, .inl (fun _ => 0)))]) (zQi zCl dC dI (fun r => r = 0) [(mo, .inr (7, [.int 0, .int 0, .int 0, .int 0, .ref (mb 0), .ref (mb 1), .ref (mb 2), .ref (mb 3), .ref (mb 4), .ref (mb 5), .ref (mb 6), .ref (mb 7), .ref (mb 8), .ref (mb 9), .ref (mb 10), .ref (mb 11), .ref (mb 12), .ref (mb 13), .ref (mb 14), .ref (mb 15), .ref (mb 16), .ref (mb 17), .ref (mb 18), .ref (mb 19), .ref (mb 20), .ref (mb 21), .ref (mb 22), .ref (mb 23), .ref (mb 24), .ref (mb 25), .ref (mb 26), .ref (mb 27), .ref (mb 28), .ref (mb 29), .ref (mb 30), .ref (mb 31), .ref (mb 32), .int 0, .int 0, .int 0, .int 0, .int 0, .int 0, .int 0, .ref (mb 33), .ref (mb 34), .ref (mb 35), .ref (mb 36), .int 0, .int 0, .int 0, .int 0, .ref (mb 37)])), ((mb 23), .inl (cI, 120, .inl (fun _ => 0)))] (va_A [(mo, .inr (7, [.int 0, .int 0, .int 0, .int 0, .ref (mb 0), .ref (mb 1), .ref (mb 2), .ref (mb 3), .ref (mb 4), .ref (mb 5), .ref (mb 6), .ref (mb 7), .ref (mb 8), .ref (mb 9), .ref (mb 10), .ref (mb 11), .ref (mb 12), .ref (mb 13), .ref (mb 14), .ref (mb 15), .ref (mb 16), .ref (mb 17), .ref (mb 18), .ref (mb 19), .ref (mb 20), .ref (mb 21), .ref (mb 22), .ref (mb 23), .ref (mb 24), .ref (mb 25), .ref (mb 26), .ref (mb 27), .ref (mb 28), .ref (mb 29), .ref (mb 30), .ref (mb 31), .ref (mb 32), .int 0, .int 0, .int 0, .int 0, .int 0, .int 0, .int 0, .ref (mb 33), .ref (mb 34), .ref (mb 35), .ref (mb 36), .int 0, .int 0, .int 0, .int 0, .ref (mb 37)])), ((mb 23), .inl (cI, 120, .inl (fun _ => 0)))] sz)) 0 0 (va_A [(mo, .inr (7, [.int 0, .int 0, .int 0, .int 0, .ref (mb 0), .ref (mb 1), .ref (mb 2), .ref (mb 3), .ref (mb 4), .ref (mb 5), .ref (mb 6), .ref (mb 7), .ref (mb 8), .ref (mb 9), .ref (mb 10), .ref (mb 11), .ref (mb 12), .ref (mb 13), .ref (mb 14), .ref (mb 15), .ref (mb 16), .ref (mb 17), .ref (mb 18), .ref (mb 19), .ref (mb 20), .ref (mb 21), .ref (mb 22), .ref (mb 23), .ref (mb 24), .ref (mb 25), .ref (mb 26), .ref (mb 27), .ref (mb 28), .ref (mb 29), .ref (mb 30), .ref (mb 31), .ref (mb 32), .int 0, .int 0, .int 0, .int 0, .int 0, .int 0, .int 0, .ref (mb 33), .ref (mb 34), .ref (mb 35), .ref (mb 36), .int 0, .int 0, .int 0, .int 0, .ref (mb 37)])), ((mb 23), .inl (cI, 120, .inl (fun _ => 0)))] sz) := by
  refine Met.ofW (cc := bMO_casts) (maxL := 3) (ret := (some .int)) (by decide) rfl ?_
  intro p e s m args below meth c s₁ B hml hv
  obtain ⟨rfl, hsz, hP, hK, hD0, hB⟩ := hv
  have hx := B.exec
  have hb := B.bytes
  have hr := B.returns
  have hown : s.vm.findClass "RingGuardModel" = some m.cls := findClass_of_methodNamed B.named
  have hlocks := B.notSynchronized
  subst hsz
  have hD := hD0.self (sz := s.heap.size)
  have hA0 := zA0 hD0 hB
  generalize hAe : va_A [(mo, .inr (7, [.int 0, .int 0, .int 0, .int 0, .ref (mb 0), .ref (mb 1), .ref (mb 2), .ref (mb 3), .ref (mb 4), .ref (mb 5), .ref (mb 6), .ref (mb 7), .ref (mb 8), .ref (mb 9), .ref (mb 10), .ref (mb 11), .ref (mb 12), .ref (mb 13), .ref (mb 14), .ref (mb 15), .ref (mb 16), .ref (mb 17), .ref (mb 18), .ref (mb 19), .ref (mb 20), .ref (mb 21), .ref (mb 22), .ref (mb 23), .ref (mb 24), .ref (mb 25), .ref (mb 26), .ref (mb 27), .ref (mb 28), .ref (mb 29), .ref (mb 30), .ref (mb 31), .ref (mb 32), .int 0, .int 0, .int 0, .int 0, .int 0, .int 0, .int 0, .ref (mb 33), .ref (mb 34), .ref (mb 35), .ref (mb 36), .int 0, .int 0, .int 0, .int 0, .ref (mb 37)])), ((mb 23), .inl (cI, 120, .inl (fun _ => 0)))] s.heap.size = A at hD hA0 ⊢
  have hAD := hA0
  have hA : ∀ q : Nat, s.heap.size ≤ q → A q := fun q h => by rw [← hAe]; exact Or.inr h
  have hS : va_S A s.heap s.heap [] := va_S.rf
  have hP : va_P (dC, dI) zCl [(mo, .inr (7, [.int 0, .int 0, .int 0, .int 0, .ref (mb 0), .ref (mb 1), .ref (mb 2), .ref (mb 3), .ref (mb 4), .ref (mb 5), .ref (mb 6), .ref (mb 7), .ref (mb 8), .ref (mb 9), .ref (mb 10), .ref (mb 11), .ref (mb 12), .ref (mb 13), .ref (mb 14), .ref (mb 15), .ref (mb 16), .ref (mb 17), .ref (mb 18), .ref (mb 19), .ref (mb 20), .ref (mb 21), .ref (mb 22), .ref (mb 23), .ref (mb 24), .ref (mb 25), .ref (mb 26), .ref (mb 27), .ref (mb 28), .ref (mb 29), .ref (mb 30), .ref (mb 31), .ref (mb 32), .int 0, .int 0, .int 0, .int 0, .int 0, .int 0, .int 0, .ref (mb 33), .ref (mb 34), .ref (mb 35), .ref (mb 36), .int 0, .int 0, .int 0, .int 0, .ref (mb 37)])), ((mb 23), .inl (cI, 120, .inl (fun _ => 0)))] s.heap := hP
  have hl := lv_entry ([.ref mo]) (n := 3) (Nat.le_of_ble_eq_true rfl)
  rw [lg_entry_eq]
  generalize (lg_sl ([.ref mo]) ++ List.replicate (3 - (lg_sl ([.ref mo])).length) Slot.unset).toArray = ls at hl ⊢
  have hl : lv_has ls 3 [(0, .ref mo)] := hl
  refine lv_aload_n hx hb dMO_casts_0 rfl (lv_at hl 0 rfl) ?_
  refine lv_iconst (v := 0) hx hb dMO_casts_1 (by decide) ?_
  have hu7 : ∀ w ∈ u_ws "RingGuardModel" T_MO 53, w.before ([.ref mo] : List Value).toArray s = true := hB.words zU_MO
  refine va_put (D := (dC, dI)) (ci := 7) (v := .int 0) (ty := .int) (C := "RingGuardModel") (T := T_MO) (N := 53) hx hb hu7 zid ty_MO ok_MO nm_MO hown hK hP hD hS 0 rfl rfl 0 (by decide) (hB.word (zm4 k4_114) rfl) (fun _ h9 => h9) rfl (by decide +kernel) rfl rfl (Nat.le_of_ble_eq_true rfl) dMO_casts_2 (fun H locs hP hD hS => ?_)
  have hP : va_P (dC, dI) zCl [(mo, .inr (7, [.int 0, .int 0, .int 0, .int 0, .ref (mb 0), .ref (mb 1), .ref (mb 2), .ref (mb 3), .ref (mb 4), .ref (mb 5), .ref (mb 6), .ref (mb 7), .ref (mb 8), .ref (mb 9), .ref (mb 10), .ref (mb 11), .ref (mb 12), .ref (mb 13), .ref (mb 14), .ref (mb 15), .ref (mb 16), .ref (mb 17), .ref (mb 18), .ref (mb 19), .ref (mb 20), .ref (mb 21), .ref (mb 22), .ref (mb 23), .ref (mb 24), .ref (mb 25), .ref (mb 26), .ref (mb 27), .ref (mb 28), .ref (mb 29), .ref (mb 30), .ref (mb 31), .ref (mb 32), .int 0, .int 0, .int 0, .int 0, .int 0, .int 0, .int 0, .ref (mb 33), .ref (mb 34), .ref (mb 35), .ref (mb 36), .int 0, .int 0, .int 0, .int 0, .ref (mb 37)])), ((mb 23), .inl (cI, 120, .inl (fun _ => 0)))] H := hP
  have hD : va_D A [(mo, .inr (7, [.int 0, .int 0, .int 0, .int 0, .ref (mb 0), .ref (mb 1), .ref (mb 2), .ref (mb 3), .ref (mb 4), .ref (mb 5), .ref (mb 6), .ref (mb 7), .ref (mb 8), .ref (mb 9), .ref (mb 10), .ref (mb 11), .ref (mb 12), .ref (mb 13), .ref (mb 14), .ref (mb 15), .ref (mb 16), .ref (mb 17), .ref (mb 18), .ref (mb 19), .ref (mb 20), .ref (mb 21), .ref (mb 22), .ref (mb 23), .ref (mb 24), .ref (mb 25), .ref (mb 26), .ref (mb 27), .ref (mb 28), .ref (mb 29), .ref (mb 30), .ref (mb 31), .ref (mb 32), .int 0, .int 0, .int 0, .int 0, .int 0, .int 0, .int 0, .ref (mb 33), .ref (mb 34), .ref (mb 35), .ref (mb 36), .int 0, .int 0, .int 0, .int 0, .ref (mb 37)])), ((mb 23), .inl (cI, 120, .inl (fun _ => 0)))] := hD
  refine lv_iconst (v := 0) hx hb dMO_casts_5 (by decide) ?_
  refine lv_istore_n (lv' := [(1, .int 0), (0, .ref mo)]) hx hb dMO_casts_6 rfl hl (by decide) rfl (fun ls hl => ?_)
  refine lv_iconst (v := 0) hx hb dMO_casts_7 (by decide) ?_
  refine lv_istore_n (lv' := [(2, .int 0), (1, .int 0), (0, .ref mo)]) hx hb dMO_casts_8 rfl hl (by decide) rfl (fun ls hl => ?_)
  refine zfor (N := 120) (fun k => ∀ (H : Heap) (locs : List Loc) (ls : Array Slot), va_P (dC, dI) zCl [(mo, .inr (7, [.int 0, .int 0, .int 0, .int 0, .ref (mb 0), .ref (mb 1), .ref (mb 2), .ref (mb 3), .ref (mb 4), .ref (mb 5), .ref (mb 6), .ref (mb 7), .ref (mb 8), .ref (mb 9), .ref (mb 10), .ref (mb 11), .ref (mb 12), .ref (mb 13), .ref (mb 14), .ref (mb 15), .ref (mb 16), .ref (mb 17), .ref (mb 18), .ref (mb 19), .ref (mb 20), .ref (mb 21), .ref (mb 22), .ref (mb 23), .ref (mb 24), .ref (mb 25), .ref (mb 26), .ref (mb 27), .ref (mb 28), .ref (mb 29), .ref (mb 30), .ref (mb 31), .ref (mb 32), .int 0, .int 0, .int 0, .int 0, .int 0, .int 0, .int 0, .ref (mb 33), .ref (mb 34), .ref (mb 35), .ref (mb 36), .int 0, .int 0, .int 0, .int 0, .ref (mb 37)])), ((mb 23), .inl (cI, 120, .inl (fun _ => 0)))] H → va_D A [(mo, .inr (7, [.int 0, .int 0, .int 0, .int 0, .ref (mb 0), .ref (mb 1), .ref (mb 2), .ref (mb 3), .ref (mb 4), .ref (mb 5), .ref (mb 6), .ref (mb 7), .ref (mb 8), .ref (mb 9), .ref (mb 10), .ref (mb 11), .ref (mb 12), .ref (mb 13), .ref (mb 14), .ref (mb 15), .ref (mb 16), .ref (mb 17), .ref (mb 18), .ref (mb 19), .ref (mb 20), .ref (mb 21), .ref (mb 22), .ref (mb 23), .ref (mb 24), .ref (mb 25), .ref (mb 26), .ref (mb 27), .ref (mb 28), .ref (mb 29), .ref (mb 30), .ref (mb 31), .ref (mb 32), .int 0, .int 0, .int 0, .int 0, .int 0, .int 0, .int 0, .ref (mb 33), .ref (mb 34), .ref (mb 35), .ref (mb 36), .int 0, .int 0, .int 0, .int 0, .ref (mb 37)])), ((mb 23), .inl (cI, 120, .inl (fun _ => 0)))] → va_S A s.heap H locs → lv_has ls 3 [(0, .ref mo), (1, .int 0), (2, .int (nI k))] → W p l e _ s m _ below meth c H locs _ _ _ (F0 m 9 ls [])) ?_ ?_ H locs ls hP hD hS (lv_sub hl [2, 1, 0] rfl)
  · intro k hk ih H locs ls   hP hD hS hl
    refine lv_iload_n hx hb dMO_casts_9 rfl (lv_at hl 2 rfl) ?_
    refine lv_bipush (v := 120) hx hb dMO_casts_10 (by decide) ?_
    refine lv_icmp_ge (tgt := 30) hx hb dMO_casts_12 (by decide) (fun c9 => absurd c9 (nI_ge (b := 120) hk (by decide))) (fun _ => ?_)
    refine lv_iload_n hx hb dMO_casts_15 rfl (lv_at hl 1 rfl) ?_
    refine lv_aload_n hx hb dMO_casts_16 rfl (lv_at hl 0 rfl) ?_
    refine va_get (D := (dC, dI)) (ci := 7) (v := .ref (mb 23)) (C := "RingGuardModel") (T := T_MO) (N := 53) hx hb hu7 zid hown hK hP 0 rfl rfl 27 (by decide) (hB.word (zm4 k4_141) rfl) (fun _ h9 => h9) rfl dMO_casts_17 ?_
    refine lv_iload_n hx hb dMO_casts_20 rfl (lv_at hl 2 rfl) ?_
    refine va_iald hx hb hK hP 1 0 rfl rfl (i := nI k) (vp_in_nI hk (by decide)) dMO_casts_21 ?_
    refine lv_topi (fun k1 ek1 => ?_)
    have ek1 : k1 = 0 := ek1
    subst ek1
    refine lv_iadd hx hb dMO_casts_22 ?_
    refine lv_topi (fun k2 ek2 => ?_)
    have ek2 : k2 = 0 := ek2.trans (by decide)
    subst ek2
    refine lv_istore_n (lv' := [(1, .int 0), (0, .ref mo), (2, .int (nI k))]) hx hb dMO_casts_23 rfl hl (by decide) rfl (fun ls hl => ?_)
    refine lv_iinc (v := nI (k + 1)) (lv' := [(2, .int (nI (k + 1))), (1, .int 0), (0, .ref mo)]) hx hb dMO_casts_24 hl (k := 2) rfl (nI_1 k) (by decide) rfl (fun ls hl => ?_)
    refine lv_goto (tgt := 9) hx hb dMO_casts_27 (by decide) ?_
    exact ih H locs ls hP hD hS (lv_sub hl [2, 1, 0] rfl)
  · intro H locs ls   hP hD hS hl
    refine lv_iload_n hx hb dMO_casts_9 rfl (lv_at hl 2 rfl) ?_
    refine lv_bipush (v := 120) hx hb dMO_casts_10 (by decide) ?_
    refine lv_icmp_ge (tgt := 30) hx hb dMO_casts_12 (by decide) (fun _ => ?_) (fun c9 => absurd (nI_le (a := 120) (b := 120) (Nat.le_refl _) (by decide)) c9)
    refine lv_iload_n hx hb dMO_casts_30 rfl (lv_at hl 1 rfl) ?_
    refine W.widen (k := 0) (n := 0) (Nat.le_of_ble_eq_true rfl) (Nat.le_of_ble_eq_true rfl) ?_
    have hP9 : va_P (dC, dI) zCl [(mo, .inr (7, [.int 0, .int 0, .int 0, .int 0, .ref (mb 0), .ref (mb 1), .ref (mb 2), .ref (mb 3), .ref (mb 4), .ref (mb 5), .ref (mb 6), .ref (mb 7), .ref (mb 8), .ref (mb 9), .ref (mb 10), .ref (mb 11), .ref (mb 12), .ref (mb 13), .ref (mb 14), .ref (mb 15), .ref (mb 16), .ref (mb 17), .ref (mb 18), .ref (mb 19), .ref (mb 20), .ref (mb 21), .ref (mb 22), .ref (mb 23), .ref (mb 24), .ref (mb 25), .ref (mb 26), .ref (mb 27), .ref (mb 28), .ref (mb 29), .ref (mb 30), .ref (mb 31), .ref (mb 32), .int 0, .int 0, .int 0, .int 0, .int 0, .int 0, .int 0, .ref (mb 33), .ref (mb 34), .ref (mb 35), .ref (mb 36), .int 0, .int 0, .int 0, .int 0, .ref (mb 37)])), ((mb 23), .inl (cI, 120, .inl (fun _ => 0)))] H := hP.sub [0, 1] rfl
    have hD9 : va_D A [(mo, .inr (7, [.int 0, .int 0, .int 0, .int 0, .ref (mb 0), .ref (mb 1), .ref (mb 2), .ref (mb 3), .ref (mb 4), .ref (mb 5), .ref (mb 6), .ref (mb 7), .ref (mb 8), .ref (mb 9), .ref (mb 10), .ref (mb 11), .ref (mb 12), .ref (mb 13), .ref (mb 14), .ref (mb 15), .ref (mb 16), .ref (mb 17), .ref (mb 18), .ref (mb 19), .ref (mb 20), .ref (mb 21), .ref (mb 22), .ref (mb 23), .ref (mb 24), .ref (mb 25), .ref (mb 26), .ref (mb 27), .ref (mb 28), .ref (mb 29), .ref (mb 30), .ref (mb 31), .ref (mb 32), .int 0, .int 0, .int 0, .int 0, .int 0, .int 0, .int 0, .ref (mb 33), .ref (mb 34), .ref (mb 35), .ref (mb 36), .int 0, .int 0, .int 0, .int 0, .ref (mb 37)])), ((mb 23), .inl (cI, 120, .inl (fun _ => 0)))] := hD.sub [0, 1] (by decide) rfl
    exact W.iret (v := 0) hx hb hr (fun t ht hW => ⟨⟨0, (), rfl, rfl, by rw [ht]; exact hP9, hD9⟩, hS.F ht⟩) hS.2.2 dMO_casts_31
end
section
set_option maxHeartbeats 4000000 in
set_option maxRecDepth 100000 in
theorem zw_fill (l : Launch) (dC : Nat → ClassId) (dI : Nat → Nat → Nat) (cI cZ cJ : ClassId) (a0 : Array Value) (s0 : State) (h n sz : Nat) (f0 : Nat → Int32) (v : Int32) (hn : n < 2 ^ 31) : Met l yAR_fill [Cond.code yAR_fill bAR_fill 4 none] ({ frames := 0, cells := 0, slots := 0, locals := 0 } : Room) (zP zCl dC dI (zTY cI cZ cJ) a0 s0 [.ref h, .int v] sz [(h, .inl (cI, n, .inl f0))]) (zQw zCl dC dI (fun wo => ∃ f2 : Nat → Int32, (∀ j, j < n → f2 j = v) ∧ wo = [(h, .inl (cI, n, .inl f2))]) (va_A [(h, .inl (cI, n, .inl f0))] sz)) 0 0 (va_A [(h, .inl (cI, n, .inl f0))] sz) := by
  refine Met.ofW (cc := bAR_fill) (maxL := 4) (ret := none) (by decide) rfl ?_
  intro p e s m args below meth c s₁ B hml hv
  obtain ⟨rfl, hsz, hP, hK, hD0, hB⟩ := hv
  have hx := B.exec
  have hb := B.bytes
  have hr := B.returns
  have hown : s.vm.findClass "java/util/Arrays" = some m.cls := findClass_of_methodNamed B.named
  have hlocks := B.notSynchronized
  subst hsz
  have hD := hD0.self (sz := s.heap.size)
  have hA0 := zA0 hD0 hB
  generalize hAe : va_A [(h, .inl (cI, n, .inl f0))] s.heap.size = A at hD hA0 ⊢
  have hAD := hA0
  have hA : ∀ q : Nat, s.heap.size ≤ q → A q := fun q h => by rw [← hAe]; exact Or.inr h
  have hS : va_S A s.heap s.heap [] := va_S.rf
  have hP : va_P (dC, dI) zCl [(h, .inl (cI, n, .inl f0))] s.heap := hP
  have hl := lv_entry ([.ref h, .int v]) (n := 4) (Nat.le_of_ble_eq_true rfl)
  rw [lg_entry_eq]
  generalize (lg_sl ([.ref h, .int v]) ++ List.replicate (4 - (lg_sl ([.ref h, .int v])).length) Slot.unset).toArray = ls at hl ⊢
  have hl : lv_has ls 4 [(0, .ref h), (1, .int v)] := hl
  refine lv_iconst (v := 0) hx hb dAR_fill_0 (by decide) ?_
  refine lv_istore_n (lv' := [(2, .int 0), (0, .ref h), (1, .int v)]) hx hb dAR_fill_1 rfl hl (by decide) rfl (fun ls hl => ?_)
  refine lv_aload_n hx hb dAR_fill_2 rfl (lv_at hl 1 rfl) ?_
  refine va_alen hx hb hK hP 0 0 rfl rfl (v := nI n) rfl dAR_fill_3 ?_
  refine lv_istore_n (lv' := [(3, .int (nI n)), (2, .int 0), (0, .ref h), (1, .int v)]) hx hb dAR_fill_4 rfl hl (by decide) rfl (fun ls hl => ?_)
  refine zfor (N := n) (fun k => ∀ (H : Heap) (locs : List Loc) (ls : Array Slot) (f : Nat → Int32), (∀ j, j < k → f j = v) → va_P (dC, dI) zCl [(h, .inl (cI, n, .inl f))] H → va_D A [(h, .inl (cI, n, .inl f))] → va_S A s.heap H locs → lv_has ls 4 [(0, .ref h), (1, .int v), (2, .int (nI k)), (3, .int (nI n))] → W p l e _ s m _ below meth c H locs _ _ _ (F0 m 5 ls [])) ?_ ?_ s.heap [] ls f0 (fun j h => absurd h (Nat.not_lt_zero _)) hP hD hS (lv_sub hl [2, 3, 1, 0] rfl)
  · intro k hk ih H locs ls f hf hP hD hS hl
    refine lv_iload_n hx hb dAR_fill_5 rfl (lv_at hl 2 rfl) ?_
    refine lv_iload_n hx hb dAR_fill_6 rfl (lv_at hl 3 rfl) ?_
    refine lv_icmp_ge (tgt := 20) hx hb dAR_fill_7 (by decide) (fun c9 => absurd c9 (nI_ge (b := n) hk hn)) (fun _ => ?_)
    refine lv_aload_n hx hb dAR_fill_10 rfl (lv_at hl 0 rfl) ?_
    refine lv_iload_n hx hb dAR_fill_11 rfl (lv_at hl 2 rfl) ?_
    refine lv_iload_n hx hb dAR_fill_12 rfl (lv_at hl 1 rfl) ?_
    refine va_iast hx hb hK hP hD hS 0 0 rfl rfl (i := nI k) (vp_in_nI hk hn) dAR_fill_13 (fun H locs hP hD hS => ?_)
    have hP : va_P (dC, dI) zCl [(h, .inl (cI, n, .inl (upd f (nI k : Int32).toNatClampNeg v)))] H := hP
    have hD : va_D A [(h, .inl (cI, n, .inl (upd f (nI k : Int32).toNatClampNeg v)))] := hD
    refine lv_iinc (v := nI (k + 1)) (lv' := [(2, .int (nI (k + 1))), (0, .ref h), (1, .int v), (3, .int (nI n))]) hx hb dAR_fill_14 hl (k := 2) rfl (nI_1 k) (by decide) rfl (fun ls hl => ?_)
    refine lv_goto (tgt := 5) hx hb dAR_fill_17 (by decide) ?_
    exact ih H locs ls (upd f (nI k : Int32).toNatClampNeg v) (zupd (Nat.lt_trans hk hn) hf) hP hD hS (lv_sub hl [1, 2, 0, 3] rfl)
  · intro H locs ls f hf hP hD hS hl
    refine lv_iload_n hx hb dAR_fill_5 rfl (lv_at hl 2 rfl) ?_
    refine lv_iload_n hx hb dAR_fill_6 rfl (lv_at hl 3 rfl) ?_
    refine lv_icmp_ge (tgt := 20) hx hb dAR_fill_7 (by decide) (fun _ => ?_) (fun c9 => absurd (nI_le (a := n) (b := n) (Nat.le_refl _) hn) c9)
    refine W.widen (k := 0) (n := 0) (Nat.le_of_ble_eq_true rfl) (Nat.le_of_ble_eq_true rfl) ?_
    have hP9 : va_P (dC, dI) zCl [(h, .inl (cI, n, .inl f))] H := hP.sub [0] rfl
    have hD9 : va_D A [(h, .inl (cI, n, .inl f))] := hD.sub [0] (by decide) rfl
    exact W.vret hx hb hr (fun t ht hW => ⟨⟨[(h, .inl (cI, n, .inl f))], rfl, ⟨f, hf, rfl⟩, by rw [ht]; exact hP9, hD9⟩, hS.F ht⟩) hS.2.2 dAR_fill_20
end
section
set_option maxHeartbeats 4000000 in
set_option maxRecDepth 100000 in
theorem zc_Groups (l : Launch) (dC : Nat → ClassId) (dI : Nat → Nat → Nat) (cI cZ cJ : ClassId) (a0 : Array Value) (s0 : State) (h sz : Nat) : Met l yGR_init [Cond.code yGR_init bGR_init 1 none] ({ frames := 1, cells := 1, slots := 48, locals := 12 } : Room) (zP zCl dC dI (zTY cI cZ cJ) a0 s0 [.ref h] sz [(h, .inr (6, [.null, .int 0, .int 0]))]) (zQv zCl dC dI [] (va_A [(h, .inr (6, [.null, .int 0, .int 0]))] sz)) 1 48 (va_A [(h, .inr (6, [.null, .int 0, .int 0]))] sz) := by
  refine Met.ofW (cc := bGR_init) (maxL := 1) (ret := none) (by decide) rfl ?_
  intro p e s m args below meth c s₁ B hml hv
  obtain ⟨rfl, hsz, hP, hK, hD0, hB⟩ := hv
  have hx := B.exec
  have hb := B.bytes
  have hr := B.returns
  have hown : s.vm.findClass "RingGuard$Groups" = some m.cls := findClass_of_methodNamed B.named
  have hlocks := B.notSynchronized
  have hin : meth.name = "<init>" := (name_of_methodNamed B.named B.method).1
  subst hsz
  have hD := hD0.self (sz := s.heap.size)
  have hA0 := zA0 hD0 hB
  generalize hAe : va_A [(h, .inr (6, [.null, .int 0, .int 0]))] s.heap.size = A at hD hA0 ⊢
  have hAD := hA0
  have hA : ∀ q : Nat, s.heap.size ≤ q → A q := fun q h => by rw [← hAe]; exact Or.inr h
  have hS : va_S A s.heap s.heap [] := va_S.rf
  have hP : va_P (dC, dI) zCl [(h, .inr (6, [.null, .int 0, .int 0]))] s.heap := hP
  have hl := lv_entry ([.ref h]) (n := 1) (Nat.le_of_ble_eq_true rfl)
  rw [lg_entry_eq]
  generalize (lg_sl ([.ref h]) ++ List.replicate (1 - (lg_sl ([.ref h])).length) Slot.unset).toArray = ls at hl ⊢
  have hl : lv_has ls 1 [(0, .ref h)] := hl
  refine lv_aload_n hx hb dGR_init_0 rfl (lv_at hl 0 rfl) ?_
  refine W.objInit hx hb hown (hB.word (zm1 k1_221) rfl) (hB.word (zm1 k1_23) rfl) (hB.word (zm1 k1_24) rfl) rfl (by rw [hml]; exact hl.1) rfl dGR_init_1 (Nat.le_of_ble_eq_true rfl) (Nat.le_of_ble_eq_true rfl) ?_
  refine W.eq (g2 := F0 m 4 ls []) rfl ?_
  refine lv_aload_n hx hb dGR_init_4 rfl (lv_at hl 0 rfl) ?_
  refine lv_bipush (v := 48) hx hb dGR_init_5 (by decide) ?_
  refine znew (a0 := (48, .inl (fun _ => 0))) hx hb (zac_int hB) rfl (fun _ h9 => by cases h9) hK 0 rfl hP hD hS hA (fun _ => rfl) (by decide) (by decide) (by decide) (Nat.le_of_ble_eq_true rfl) (Nat.le_of_ble_eq_true rfl) dGR_init_7 (fun q7 H hP hD hS => ?_)
  have hP : va_P (dC, dI) zCl [(h, .inr (6, [.null, .int 0, .int 0])), (q7, .inl (cI, 48, .inl (fun _ => 0)))] H := hP
  have hD : va_D A [(h, .inr (6, [.null, .int 0, .int 0])), (q7, .inl (cI, 48, .inl (fun _ => 0)))] := hD
  have hu6 : ∀ w ∈ u_ws "RingGuard$Groups" T_GR 3, w.before ([.ref h] : List Value).toArray s = true := hB.words zU_GR
  refine va_putF (D := (dC, dI)) (ci := 6) (v := .ref q7) (ty := .array .int) (C := "RingGuard$Groups") (T := T_GR) (N := 3) hx hb hu6 zid ty_GR ok_GR nm_GR hown hK hP hD hS 0 rfl rfl 0 (by decide) (hB.word (zm1 k1_222) rfl) (fun _ h9 => h9) rfl hin rfl (by decide +kernel) rfl rfl (Nat.le_of_ble_eq_true rfl) dGR_init_9 (fun H locs hP hD hS => ?_)
  have hP : va_P (dC, dI) zCl [(h, .inr (6, [.ref q7, .int 0, .int 0])), (q7, .inl (cI, 48, .inl (fun _ => 0)))] H := hP
  have hD : va_D A [(h, .inr (6, [.ref q7, .int 0, .int 0])), (q7, .inl (cI, 48, .inl (fun _ => 0)))] := hD
  have hP : va_P (dC, dI) zCl [(h, .inr (6, [.ref q7, .int 0, .int 0]))] H := hP.sub [0] rfl
  have hD : va_D A [(h, .inr (6, [.ref q7, .int 0, .int 0]))] := hD.sub [0] (by decide) rfl
  refine W.widen (k := 1) (n := 48) (Nat.le_of_ble_eq_true rfl) (Nat.le_of_ble_eq_true rfl) ?_
  have hP9 : va_P (dC, dI) zCl [] H := hP.sub [] rfl
  have hD9 : va_D A [] := hD.sub [] (by decide) rfl
  exact W.vret hx hb hr (fun t ht hW => ⟨⟨(), rfl, trivial, by rw [ht]; exact hP9, hD9⟩, hS.F ht⟩) hS.2.2 dGR_init_12
set_option maxHeartbeats 4000000 in
set_option maxRecDepth 100000 in
theorem zc_Plan (l : Launch) (dC : Nat → ClassId) (dI : Nat → Nat → Nat) (cI cZ cJ : ClassId) (a0 : Array Value) (s0 : State) (h sz : Nat) : Met l yPL_init [Cond.code yPL_init bPL_init 1 none] ({ frames := 1, cells := 9, slots := 900, locals := 23 } : Room) (zP zCl dC dI (zTY cI cZ cJ) a0 s0 [.ref h] sz [(h, .inr (1, [.int 0, .int 0, .null, .null, .null, .null, .null, .null, .null, .null, .null]))]) (zQw zCl dC dI (fun wo => ∃ c : Nat → Nat, wo = [(h, .inr (1, [.int 0, .int 0, .ref (c 0), .ref (c 1), .ref (c 2), .ref (c 3), .ref (c 4), .ref (c 5), .ref (c 6), .ref (c 7), .ref (c 8)]))]) (va_A [(h, .inr (1, [.int 0, .int 0, .null, .null, .null, .null, .null, .null, .null, .null, .null]))] sz)) 9 900 (va_A [(h, .inr (1, [.int 0, .int 0, .null, .null, .null, .null, .null, .null, .null, .null, .null]))] sz) := by
  refine Met.ofW (cc := bPL_init) (maxL := 1) (ret := none) (by decide) rfl ?_
  intro p e s m args below meth c s₁ B hml hv
  obtain ⟨rfl, hsz, hP, hK, hD0, hB⟩ := hv
  have hx := B.exec
  have hb := B.bytes
  have hr := B.returns
  have hown : s.vm.findClass "RingGuard$Plan" = some m.cls := findClass_of_methodNamed B.named
  have hlocks := B.notSynchronized
  have hin : meth.name = "<init>" := (name_of_methodNamed B.named B.method).1
  subst hsz
  have hD := hD0.self (sz := s.heap.size)
  have hA0 := zA0 hD0 hB
  generalize hAe : va_A [(h, .inr (1, [.int 0, .int 0, .null, .null, .null, .null, .null, .null, .null, .null, .null]))] s.heap.size = A at hD hA0 ⊢
  have hAD := hA0
  have hA : ∀ q : Nat, s.heap.size ≤ q → A q := fun q h => by rw [← hAe]; exact Or.inr h
  have hS : va_S A s.heap s.heap [] := va_S.rf
  have hP : va_P (dC, dI) zCl [(h, .inr (1, [.int 0, .int 0, .null, .null, .null, .null, .null, .null, .null, .null, .null]))] s.heap := hP
  have hl := lv_entry ([.ref h]) (n := 1) (Nat.le_of_ble_eq_true rfl)
  rw [lg_entry_eq]
  generalize (lg_sl ([.ref h]) ++ List.replicate (1 - (lg_sl ([.ref h])).length) Slot.unset).toArray = ls at hl ⊢
  have hl : lv_has ls 1 [(0, .ref h)] := hl
  refine lv_aload_n hx hb dPL_init_0 rfl (lv_at hl 0 rfl) ?_
  refine W.objInit hx hb hown (hB.word (zm1 k1_30) rfl) (hB.word (zm1 k1_23) rfl) (hB.word (zm1 k1_24) rfl) rfl (by rw [hml]; exact hl.1) rfl dPL_init_1 (Nat.le_of_ble_eq_true rfl) (Nat.le_of_ble_eq_true rfl) ?_
  refine W.eq (g2 := F0 m 4 ls []) rfl ?_
  refine lv_aload_n hx hb dPL_init_4 rfl (lv_at hl 0 rfl) ?_
  refine lv_bipush (v := 60) hx hb dPL_init_5 (by decide) ?_
  refine znew (a0 := (60, .inl (fun _ => 0))) hx hb (zac_int hB) rfl (fun _ h9 => by cases h9) hK 0 rfl hP hD hS hA (fun _ => rfl) (by decide) (by decide) (by decide) (Nat.le_of_ble_eq_true rfl) (Nat.le_of_ble_eq_true rfl) dPL_init_7 (fun q7 H hP hD hS => ?_)
  have hP : va_P (dC, dI) zCl [(h, .inr (1, [.int 0, .int 0, .null, .null, .null, .null, .null, .null, .null, .null, .null])), (q7, .inl (cI, 60, .inl (fun _ => 0)))] H := hP
  have hD : va_D A [(h, .inr (1, [.int 0, .int 0, .null, .null, .null, .null, .null, .null, .null, .null, .null])), (q7, .inl (cI, 60, .inl (fun _ => 0)))] := hD
  have hu1 : ∀ w ∈ u_ws "RingGuard$Plan" T_PL 11, w.before ([.ref h] : List Value).toArray s = true := hB.words zU_PL
  refine va_putF (D := (dC, dI)) (ci := 1) (v := .ref q7) (ty := .array .int) (C := "RingGuard$Plan") (T := T_PL) (N := 11) hx hb hu1 zid ty_PL ok_PL nm_PL hown hK hP hD hS 0 rfl rfl 2 (by decide) (hB.word (zm1 k1_41) rfl) (fun _ h9 => h9) rfl hin rfl (by decide +kernel) rfl rfl (Nat.le_of_ble_eq_true rfl) dPL_init_9 (fun H locs hP hD hS => ?_)
  have hP : va_P (dC, dI) zCl [(h, .inr (1, [.int 0, .int 0, .ref q7, .null, .null, .null, .null, .null, .null, .null, .null])), (q7, .inl (cI, 60, .inl (fun _ => 0)))] H := hP
  have hD : va_D A [(h, .inr (1, [.int 0, .int 0, .ref q7, .null, .null, .null, .null, .null, .null, .null, .null])), (q7, .inl (cI, 60, .inl (fun _ => 0)))] := hD
  have hP : va_P (dC, dI) zCl [(h, .inr (1, [.int 0, .int 0, .ref q7, .null, .null, .null, .null, .null, .null, .null, .null]))] H := hP.sub [0] rfl
  have hD : va_D A [(h, .inr (1, [.int 0, .int 0, .ref q7, .null, .null, .null, .null, .null, .null, .null, .null]))] := hD.sub [0] (by decide) rfl
  refine lv_aload_n hx hb dPL_init_12 rfl (lv_at hl 0 rfl) ?_
  refine lv_bipush (v := 60) hx hb dPL_init_13 (by decide) ?_
  refine znew (a0 := (60, .inl (fun _ => 0))) hx hb (zac_int hB) rfl (fun _ h9 => by cases h9) hK 0 rfl hP hD hS hA (fun _ => rfl) (by decide) (by decide) (by decide) (Nat.le_of_ble_eq_true rfl) (Nat.le_of_ble_eq_true rfl) dPL_init_15 (fun q15 H hP hD hS => ?_)
  have hP : va_P (dC, dI) zCl [(h, .inr (1, [.int 0, .int 0, .ref q7, .null, .null, .null, .null, .null, .null, .null, .null])), (q15, .inl (cI, 60, .inl (fun _ => 0)))] H := hP
  have hD : va_D A [(h, .inr (1, [.int 0, .int 0, .ref q7, .null, .null, .null, .null, .null, .null, .null, .null])), (q15, .inl (cI, 60, .inl (fun _ => 0)))] := hD
  refine va_putF (D := (dC, dI)) (ci := 1) (v := .ref q15) (ty := .array .int) (C := "RingGuard$Plan") (T := T_PL) (N := 11) hx hb hu1 zid ty_PL ok_PL nm_PL hown hK hP hD hS 0 rfl rfl 3 (by decide) (hB.word (zm1 k1_43) rfl) (fun _ h9 => h9) rfl hin rfl (by decide +kernel) rfl rfl (Nat.le_of_ble_eq_true rfl) dPL_init_17 (fun H locs hP hD hS => ?_)
  have hP : va_P (dC, dI) zCl [(h, .inr (1, [.int 0, .int 0, .ref q7, .ref q15, .null, .null, .null, .null, .null, .null, .null])), (q15, .inl (cI, 60, .inl (fun _ => 0)))] H := hP
  have hD : va_D A [(h, .inr (1, [.int 0, .int 0, .ref q7, .ref q15, .null, .null, .null, .null, .null, .null, .null])), (q15, .inl (cI, 60, .inl (fun _ => 0)))] := hD
  have hP : va_P (dC, dI) zCl [(h, .inr (1, [.int 0, .int 0, .ref q7, .ref q15, .null, .null, .null, .null, .null, .null, .null]))] H := hP.sub [0] rfl
  have hD : va_D A [(h, .inr (1, [.int 0, .int 0, .ref q7, .ref q15, .null, .null, .null, .null, .null, .null, .null]))] := hD.sub [0] (by decide) rfl
  refine lv_aload_n hx hb dPL_init_20 rfl (lv_at hl 0 rfl) ?_
  refine lv_bipush (v := 60) hx hb dPL_init_21 (by decide) ?_
  refine znew (a0 := (60, .inl (fun _ => 0))) hx hb (zac_int hB) rfl (fun _ h9 => by cases h9) hK 0 rfl hP hD hS hA (fun _ => rfl) (by decide) (by decide) (by decide) (Nat.le_of_ble_eq_true rfl) (Nat.le_of_ble_eq_true rfl) dPL_init_23 (fun q23 H hP hD hS => ?_)
  have hP : va_P (dC, dI) zCl [(h, .inr (1, [.int 0, .int 0, .ref q7, .ref q15, .null, .null, .null, .null, .null, .null, .null])), (q23, .inl (cI, 60, .inl (fun _ => 0)))] H := hP
  have hD : va_D A [(h, .inr (1, [.int 0, .int 0, .ref q7, .ref q15, .null, .null, .null, .null, .null, .null, .null])), (q23, .inl (cI, 60, .inl (fun _ => 0)))] := hD
  refine va_putF (D := (dC, dI)) (ci := 1) (v := .ref q23) (ty := .array .int) (C := "RingGuard$Plan") (T := T_PL) (N := 11) hx hb hu1 zid ty_PL ok_PL nm_PL hown hK hP hD hS 0 rfl rfl 4 (by decide) (hB.word (zm1 k1_45) rfl) (fun _ h9 => h9) rfl hin rfl (by decide +kernel) rfl rfl (Nat.le_of_ble_eq_true rfl) dPL_init_25 (fun H locs hP hD hS => ?_)
  have hP : va_P (dC, dI) zCl [(h, .inr (1, [.int 0, .int 0, .ref q7, .ref q15, .ref q23, .null, .null, .null, .null, .null, .null])), (q23, .inl (cI, 60, .inl (fun _ => 0)))] H := hP
  have hD : va_D A [(h, .inr (1, [.int 0, .int 0, .ref q7, .ref q15, .ref q23, .null, .null, .null, .null, .null, .null])), (q23, .inl (cI, 60, .inl (fun _ => 0)))] := hD
  have hP : va_P (dC, dI) zCl [(h, .inr (1, [.int 0, .int 0, .ref q7, .ref q15, .ref q23, .null, .null, .null, .null, .null, .null]))] H := hP.sub [0] rfl
  have hD : va_D A [(h, .inr (1, [.int 0, .int 0, .ref q7, .ref q15, .ref q23, .null, .null, .null, .null, .null, .null]))] := hD.sub [0] (by decide) rfl
  refine lv_aload_n hx hb dPL_init_28 rfl (lv_at hl 0 rfl) ?_
  refine lv_bipush (v := 6) hx hb dPL_init_29 (by decide) ?_
  refine znew (a0 := (6, .inl (fun _ => 0))) hx hb (zac_int hB) rfl (fun _ h9 => by cases h9) hK 0 rfl hP hD hS hA (fun _ => rfl) (by decide) (by decide) (by decide) (Nat.le_of_ble_eq_true rfl) (Nat.le_of_ble_eq_true rfl) dPL_init_31 (fun q31 H hP hD hS => ?_)
  have hP : va_P (dC, dI) zCl [(h, .inr (1, [.int 0, .int 0, .ref q7, .ref q15, .ref q23, .null, .null, .null, .null, .null, .null])), (q31, .inl (cI, 6, .inl (fun _ => 0)))] H := hP
  have hD : va_D A [(h, .inr (1, [.int 0, .int 0, .ref q7, .ref q15, .ref q23, .null, .null, .null, .null, .null, .null])), (q31, .inl (cI, 6, .inl (fun _ => 0)))] := hD
  refine va_putF (D := (dC, dI)) (ci := 1) (v := .ref q31) (ty := .array .int) (C := "RingGuard$Plan") (T := T_PL) (N := 11) hx hb hu1 zid ty_PL ok_PL nm_PL hown hK hP hD hS 0 rfl rfl 5 (by decide) (hB.word (zm1 k1_47) rfl) (fun _ h9 => h9) rfl hin rfl (by decide +kernel) rfl rfl (Nat.le_of_ble_eq_true rfl) dPL_init_33 (fun H locs hP hD hS => ?_)
  have hP : va_P (dC, dI) zCl [(h, .inr (1, [.int 0, .int 0, .ref q7, .ref q15, .ref q23, .ref q31, .null, .null, .null, .null, .null])), (q31, .inl (cI, 6, .inl (fun _ => 0)))] H := hP
  have hD : va_D A [(h, .inr (1, [.int 0, .int 0, .ref q7, .ref q15, .ref q23, .ref q31, .null, .null, .null, .null, .null])), (q31, .inl (cI, 6, .inl (fun _ => 0)))] := hD
  refine lv_aload_n hx hb dPL_init_36 rfl (lv_at hl 0 rfl) ?_
  refine lv_bipush (v := 6) hx hb dPL_init_37 (by decide) ?_
  refine znew (a0 := (6, .inl (fun _ => 0))) hx hb (zac_int hB) rfl (fun _ h9 => by cases h9) hK 0 rfl hP hD hS hA (fun _ => rfl) (by decide) (by decide) (by decide) (Nat.le_of_ble_eq_true rfl) (Nat.le_of_ble_eq_true rfl) dPL_init_39 (fun q39 H hP hD hS => ?_)
  have hP : va_P (dC, dI) zCl [(h, .inr (1, [.int 0, .int 0, .ref q7, .ref q15, .ref q23, .ref q31, .null, .null, .null, .null, .null])), (q31, .inl (cI, 6, .inl (fun _ => 0))), (q39, .inl (cI, 6, .inl (fun _ => 0)))] H := hP
  have hD : va_D A [(h, .inr (1, [.int 0, .int 0, .ref q7, .ref q15, .ref q23, .ref q31, .null, .null, .null, .null, .null])), (q31, .inl (cI, 6, .inl (fun _ => 0))), (q39, .inl (cI, 6, .inl (fun _ => 0)))] := hD
  refine va_putF (D := (dC, dI)) (ci := 1) (v := .ref q39) (ty := .array .int) (C := "RingGuard$Plan") (T := T_PL) (N := 11) hx hb hu1 zid ty_PL ok_PL nm_PL hown hK hP hD hS 0 rfl rfl 6 (by decide) (hB.word (zm1 k1_49) rfl) (fun _ h9 => h9) rfl hin rfl (by decide +kernel) rfl rfl (Nat.le_of_ble_eq_true rfl) dPL_init_41 (fun H locs hP hD hS => ?_)
  have hP : va_P (dC, dI) zCl [(h, .inr (1, [.int 0, .int 0, .ref q7, .ref q15, .ref q23, .ref q31, .ref q39, .null, .null, .null, .null])), (q31, .inl (cI, 6, .inl (fun _ => 0))), (q39, .inl (cI, 6, .inl (fun _ => 0)))] H := hP
  have hD : va_D A [(h, .inr (1, [.int 0, .int 0, .ref q7, .ref q15, .ref q23, .ref q31, .ref q39, .null, .null, .null, .null])), (q31, .inl (cI, 6, .inl (fun _ => 0))), (q39, .inl (cI, 6, .inl (fun _ => 0)))] := hD
  refine lv_aload_n hx hb dPL_init_44 rfl (lv_at hl 0 rfl) ?_
  refine lv_bipush (v := 120) hx hb dPL_init_45 (by decide) ?_
  refine znew (a0 := (120, .inl (fun _ => 0))) hx hb (zac_int hB) rfl (fun _ h9 => by cases h9) hK 0 rfl hP hD hS hA (fun _ => rfl) (by decide) (by decide) (by decide) (Nat.le_of_ble_eq_true rfl) (Nat.le_of_ble_eq_true rfl) dPL_init_47 (fun q47 H hP hD hS => ?_)
  have hP : va_P (dC, dI) zCl [(h, .inr (1, [.int 0, .int 0, .ref q7, .ref q15, .ref q23, .ref q31, .ref q39, .null, .null, .null, .null])), (q31, .inl (cI, 6, .inl (fun _ => 0))), (q39, .inl (cI, 6, .inl (fun _ => 0))), (q47, .inl (cI, 120, .inl (fun _ => 0)))] H := hP
  have hD : va_D A [(h, .inr (1, [.int 0, .int 0, .ref q7, .ref q15, .ref q23, .ref q31, .ref q39, .null, .null, .null, .null])), (q31, .inl (cI, 6, .inl (fun _ => 0))), (q39, .inl (cI, 6, .inl (fun _ => 0))), (q47, .inl (cI, 120, .inl (fun _ => 0)))] := hD
  refine va_putF (D := (dC, dI)) (ci := 1) (v := .ref q47) (ty := .array .int) (C := "RingGuard$Plan") (T := T_PL) (N := 11) hx hb hu1 zid ty_PL ok_PL nm_PL hown hK hP hD hS 0 rfl rfl 7 (by decide) (hB.word (zm1 k1_51) rfl) (fun _ h9 => h9) rfl hin rfl (by decide +kernel) rfl rfl (Nat.le_of_ble_eq_true rfl) dPL_init_49 (fun H locs hP hD hS => ?_)
  have hP : va_P (dC, dI) zCl [(h, .inr (1, [.int 0, .int 0, .ref q7, .ref q15, .ref q23, .ref q31, .ref q39, .ref q47, .null, .null, .null])), (q31, .inl (cI, 6, .inl (fun _ => 0))), (q39, .inl (cI, 6, .inl (fun _ => 0))), (q47, .inl (cI, 120, .inl (fun _ => 0)))] H := hP
  have hD : va_D A [(h, .inr (1, [.int 0, .int 0, .ref q7, .ref q15, .ref q23, .ref q31, .ref q39, .ref q47, .null, .null, .null])), (q31, .inl (cI, 6, .inl (fun _ => 0))), (q39, .inl (cI, 6, .inl (fun _ => 0))), (q47, .inl (cI, 120, .inl (fun _ => 0)))] := hD
  have hP : va_P (dC, dI) zCl [(h, .inr (1, [.int 0, .int 0, .ref q7, .ref q15, .ref q23, .ref q31, .ref q39, .ref q47, .null, .null, .null])), (q31, .inl (cI, 6, .inl (fun _ => 0))), (q39, .inl (cI, 6, .inl (fun _ => 0)))] H := hP.sub [0, 1, 2] rfl
  have hD : va_D A [(h, .inr (1, [.int 0, .int 0, .ref q7, .ref q15, .ref q23, .ref q31, .ref q39, .ref q47, .null, .null, .null])), (q31, .inl (cI, 6, .inl (fun _ => 0))), (q39, .inl (cI, 6, .inl (fun _ => 0)))] := hD.sub [0, 1, 2] (by decide) rfl
  refine lv_aload_n hx hb dPL_init_52 rfl (lv_at hl 0 rfl) ?_
  refine lv_bipush (v := 6) hx hb dPL_init_53 (by decide) ?_
  refine znew (a0 := (6, .inl (fun _ => 0))) hx hb (zac_int hB) rfl (fun _ h9 => by cases h9) hK 0 rfl hP hD hS hA (fun _ => rfl) (by decide) (by decide) (by decide) (Nat.le_of_ble_eq_true rfl) (Nat.le_of_ble_eq_true rfl) dPL_init_55 (fun q55 H hP hD hS => ?_)
  have hP : va_P (dC, dI) zCl [(h, .inr (1, [.int 0, .int 0, .ref q7, .ref q15, .ref q23, .ref q31, .ref q39, .ref q47, .null, .null, .null])), (q31, .inl (cI, 6, .inl (fun _ => 0))), (q39, .inl (cI, 6, .inl (fun _ => 0))), (q55, .inl (cI, 6, .inl (fun _ => 0)))] H := hP
  have hD : va_D A [(h, .inr (1, [.int 0, .int 0, .ref q7, .ref q15, .ref q23, .ref q31, .ref q39, .ref q47, .null, .null, .null])), (q31, .inl (cI, 6, .inl (fun _ => 0))), (q39, .inl (cI, 6, .inl (fun _ => 0))), (q55, .inl (cI, 6, .inl (fun _ => 0)))] := hD
  refine va_putF (D := (dC, dI)) (ci := 1) (v := .ref q55) (ty := .array .int) (C := "RingGuard$Plan") (T := T_PL) (N := 11) hx hb hu1 zid ty_PL ok_PL nm_PL hown hK hP hD hS 0 rfl rfl 8 (by decide) (hB.word (zm1 k1_54) rfl) (fun _ h9 => h9) rfl hin rfl (by decide +kernel) rfl rfl (Nat.le_of_ble_eq_true rfl) dPL_init_57 (fun H locs hP hD hS => ?_)
  have hP : va_P (dC, dI) zCl [(h, .inr (1, [.int 0, .int 0, .ref q7, .ref q15, .ref q23, .ref q31, .ref q39, .ref q47, .ref q55, .null, .null])), (q31, .inl (cI, 6, .inl (fun _ => 0))), (q39, .inl (cI, 6, .inl (fun _ => 0))), (q55, .inl (cI, 6, .inl (fun _ => 0)))] H := hP
  have hD : va_D A [(h, .inr (1, [.int 0, .int 0, .ref q7, .ref q15, .ref q23, .ref q31, .ref q39, .ref q47, .ref q55, .null, .null])), (q31, .inl (cI, 6, .inl (fun _ => 0))), (q39, .inl (cI, 6, .inl (fun _ => 0))), (q55, .inl (cI, 6, .inl (fun _ => 0)))] := hD
  refine lv_aload_n hx hb dPL_init_60 rfl (lv_at hl 0 rfl) ?_
  refine lv_sipush (v := 576) hx hb dPL_init_61 (by decide) ?_
  refine znew (a0 := (576, .inl (fun _ => 0))) hx hb (zac_int hB) rfl (fun _ h9 => by cases h9) hK 0 rfl hP hD hS hA (fun _ => rfl) (by decide) (by decide) (by decide) (Nat.le_of_ble_eq_true rfl) (Nat.le_of_ble_eq_true rfl) dPL_init_64 (fun q64 H hP hD hS => ?_)
  have hP : va_P (dC, dI) zCl [(h, .inr (1, [.int 0, .int 0, .ref q7, .ref q15, .ref q23, .ref q31, .ref q39, .ref q47, .ref q55, .null, .null])), (q31, .inl (cI, 6, .inl (fun _ => 0))), (q39, .inl (cI, 6, .inl (fun _ => 0))), (q55, .inl (cI, 6, .inl (fun _ => 0))), (q64, .inl (cI, 576, .inl (fun _ => 0)))] H := hP
  have hD : va_D A [(h, .inr (1, [.int 0, .int 0, .ref q7, .ref q15, .ref q23, .ref q31, .ref q39, .ref q47, .ref q55, .null, .null])), (q31, .inl (cI, 6, .inl (fun _ => 0))), (q39, .inl (cI, 6, .inl (fun _ => 0))), (q55, .inl (cI, 6, .inl (fun _ => 0))), (q64, .inl (cI, 576, .inl (fun _ => 0)))] := hD
  refine va_putF (D := (dC, dI)) (ci := 1) (v := .ref q64) (ty := .array .int) (C := "RingGuard$Plan") (T := T_PL) (N := 11) hx hb hu1 zid ty_PL ok_PL nm_PL hown hK hP hD hS 0 rfl rfl 9 (by decide) (hB.word (zm1 k1_56) rfl) (fun _ h9 => h9) rfl hin rfl (by decide +kernel) rfl rfl (Nat.le_of_ble_eq_true rfl) dPL_init_66 (fun H locs hP hD hS => ?_)
  have hP : va_P (dC, dI) zCl [(h, .inr (1, [.int 0, .int 0, .ref q7, .ref q15, .ref q23, .ref q31, .ref q39, .ref q47, .ref q55, .ref q64, .null])), (q31, .inl (cI, 6, .inl (fun _ => 0))), (q39, .inl (cI, 6, .inl (fun _ => 0))), (q55, .inl (cI, 6, .inl (fun _ => 0))), (q64, .inl (cI, 576, .inl (fun _ => 0)))] H := hP
  have hD : va_D A [(h, .inr (1, [.int 0, .int 0, .ref q7, .ref q15, .ref q23, .ref q31, .ref q39, .ref q47, .ref q55, .ref q64, .null])), (q31, .inl (cI, 6, .inl (fun _ => 0))), (q39, .inl (cI, 6, .inl (fun _ => 0))), (q55, .inl (cI, 6, .inl (fun _ => 0))), (q64, .inl (cI, 576, .inl (fun _ => 0)))] := hD
  refine lv_aload_n hx hb dPL_init_69 rfl (lv_at hl 0 rfl) ?_
  refine lv_bipush (v := 6) hx hb dPL_init_70 (by decide) ?_
  refine znew (a0 := (6, .inl (fun _ => 0))) hx hb (zac_boolean hB) rfl (fun _ h9 => by cases h9) hK 1 rfl hP hD hS hA (fun _ => rfl) (by decide) (by decide) (by decide) (Nat.le_of_ble_eq_true rfl) (Nat.le_of_ble_eq_true rfl) dPL_init_72 (fun q72 H hP hD hS => ?_)
  have hP : va_P (dC, dI) zCl [(h, .inr (1, [.int 0, .int 0, .ref q7, .ref q15, .ref q23, .ref q31, .ref q39, .ref q47, .ref q55, .ref q64, .null])), (q31, .inl (cI, 6, .inl (fun _ => 0))), (q39, .inl (cI, 6, .inl (fun _ => 0))), (q55, .inl (cI, 6, .inl (fun _ => 0))), (q64, .inl (cI, 576, .inl (fun _ => 0))), (q72, .inl (cZ, 6, .inl (fun _ => 0)))] H := hP
  have hD : va_D A [(h, .inr (1, [.int 0, .int 0, .ref q7, .ref q15, .ref q23, .ref q31, .ref q39, .ref q47, .ref q55, .ref q64, .null])), (q31, .inl (cI, 6, .inl (fun _ => 0))), (q39, .inl (cI, 6, .inl (fun _ => 0))), (q55, .inl (cI, 6, .inl (fun _ => 0))), (q64, .inl (cI, 576, .inl (fun _ => 0))), (q72, .inl (cZ, 6, .inl (fun _ => 0)))] := hD
  refine va_putF (D := (dC, dI)) (ci := 1) (v := .ref q72) (ty := .array .boolean) (C := "RingGuard$Plan") (T := T_PL) (N := 11) hx hb hu1 zid ty_PL ok_PL nm_PL hown hK hP hD hS 0 rfl rfl 10 (by decide) (hB.word (zm1 k1_58) rfl) (fun _ h9 => h9) rfl hin rfl (by decide +kernel) rfl rfl (Nat.le_of_ble_eq_true rfl) dPL_init_74 (fun H locs hP hD hS => ?_)
  have hP : va_P (dC, dI) zCl [(h, .inr (1, [.int 0, .int 0, .ref q7, .ref q15, .ref q23, .ref q31, .ref q39, .ref q47, .ref q55, .ref q64, .ref q72])), (q31, .inl (cI, 6, .inl (fun _ => 0))), (q39, .inl (cI, 6, .inl (fun _ => 0))), (q55, .inl (cI, 6, .inl (fun _ => 0))), (q64, .inl (cI, 576, .inl (fun _ => 0))), (q72, .inl (cZ, 6, .inl (fun _ => 0)))] H := hP
  have hD : va_D A [(h, .inr (1, [.int 0, .int 0, .ref q7, .ref q15, .ref q23, .ref q31, .ref q39, .ref q47, .ref q55, .ref q64, .ref q72])), (q31, .inl (cI, 6, .inl (fun _ => 0))), (q39, .inl (cI, 6, .inl (fun _ => 0))), (q55, .inl (cI, 6, .inl (fun _ => 0))), (q64, .inl (cI, 576, .inl (fun _ => 0))), (q72, .inl (cZ, 6, .inl (fun _ => 0)))] := hD
  have hP : va_P (dC, dI) zCl [(h, .inr (1, [.int 0, .int 0, .ref q7, .ref q15, .ref q23, .ref q31, .ref q39, .ref q47, .ref q55, .ref q64, .ref q72])), (q31, .inl (cI, 6, .inl (fun _ => 0))), (q39, .inl (cI, 6, .inl (fun _ => 0))), (q55, .inl (cI, 6, .inl (fun _ => 0))), (q64, .inl (cI, 576, .inl (fun _ => 0)))] H := hP.sub [0, 1, 2, 3, 4] rfl
  have hD : va_D A [(h, .inr (1, [.int 0, .int 0, .ref q7, .ref q15, .ref q23, .ref q31, .ref q39, .ref q47, .ref q55, .ref q64, .ref q72])), (q31, .inl (cI, 6, .inl (fun _ => 0))), (q39, .inl (cI, 6, .inl (fun _ => 0))), (q55, .inl (cI, 6, .inl (fun _ => 0))), (q64, .inl (cI, 576, .inl (fun _ => 0)))] := hD.sub [0, 1, 2, 3, 4] (by decide) rfl
  refine lv_aload_n hx hb dPL_init_77 rfl (lv_at hl 0 rfl) ?_
  refine va_get (D := (dC, dI)) (ci := 1) (v := .ref q31) (C := "RingGuard$Plan") (T := T_PL) (N := 11) hx hb hu1 zid hown hK hP 0 rfl rfl 5 (by decide) (hB.word (zm1 k1_47) rfl) (fun _ h9 => h9) rfl dPL_init_78 ?_
  refine lv_iconst (v := (-1)) hx hb dPL_init_81 (by decide) ?_
  have hPc : va_P (dC, dI) zCl [(q31, .inl (cI, 6, .inl (fun _ => 0)))] H := hP.sub [1] rfl
  have hDc : va_D A [(q31, .inl (cI, 6, .inl (fun _ => 0)))] := hD.sub [1] (by decide) rfl
  refine zcallw (wr := [(h, .inr (1, [.int 0, .int 0, .ref q7, .ref q15, .ref q23, .ref q31, .ref q39, .ref q47, .ref q55, .ref q64, .ref q72])), (q39, .inl (cI, 6, .inl (fun _ => 0))), (q55, .inl (cI, 6, .inl (fun _ => 0))), (q64, .inl (cI, 576, .inl (fun _ => 0)))]) (va_runS (As := [.ref q31, .int (-1)]) (rest := []) ⟨hx, hb, hml, hown, zno⟩ (zw_fill l dC dI cI cZ cJ a0 s0 q31 6 H.size (fun _ => 0) (-1) (by decide)) ⟨zcb 2 (hB.word (zm1 k1_33) rfl) (hB.word (zm1 k1_3) rfl) (hB.word (zm1 k1_31) rfl) rfl rfl (by decide +kernel) ⟨Nat.le_of_ble_eq_true rfl, Nat.le_of_ble_eq_true rfl⟩, hB.word (zm1 k1_32) rfl⟩ ⟨zP_blind, zP_pre hPc hK hDc hAD (zB_on hB hA0 hS)⟩ rfl rfl hl.1 rfl (lv_room (Nat.le_of_ble_eq_true rfl)) dPL_init_82 ⟨Nat.le_of_ble_eq_true rfl, Nat.le_of_ble_eq_true rfl⟩) hP hD hS hA [1] [0, 2, 3, 4] rfl rfl (by decide) (by decide) (fun wo H1 locs hwo hP hD hS => ?_)
  obtain ⟨f1, hf1, rfl⟩ := hwo
  generalize H1 = H at hP hS ⊢
  have hP : va_P (dC, dI) zCl [(h, .inr (1, [.int 0, .int 0, .ref q7, .ref q15, .ref q23, .ref q31, .ref q39, .ref q47, .ref q55, .ref q64, .ref q72])), (q39, .inl (cI, 6, .inl (fun _ => 0))), (q55, .inl (cI, 6, .inl (fun _ => 0))), (q64, .inl (cI, 576, .inl (fun _ => 0))), (q31, .inl (cI, 6, .inl f1))] H := hP
  have hD : va_D A [(h, .inr (1, [.int 0, .int 0, .ref q7, .ref q15, .ref q23, .ref q31, .ref q39, .ref q47, .ref q55, .ref q64, .ref q72])), (q39, .inl (cI, 6, .inl (fun _ => 0))), (q55, .inl (cI, 6, .inl (fun _ => 0))), (q64, .inl (cI, 576, .inl (fun _ => 0))), (q31, .inl (cI, 6, .inl f1))] := hD
  refine lv_aload_n hx hb dPL_init_85 rfl (lv_at hl 0 rfl) ?_
  refine va_get (D := (dC, dI)) (ci := 1) (v := .ref q39) (C := "RingGuard$Plan") (T := T_PL) (N := 11) hx hb hu1 zid hown hK hP 0 rfl rfl 6 (by decide) (hB.word (zm1 k1_49) rfl) (fun _ h9 => h9) rfl dPL_init_86 ?_
  refine lv_iconst (v := (-1)) hx hb dPL_init_89 (by decide) ?_
  have hPc : va_P (dC, dI) zCl [(q39, .inl (cI, 6, .inl (fun _ => 0)))] H := hP.sub [1] rfl
  have hDc : va_D A [(q39, .inl (cI, 6, .inl (fun _ => 0)))] := hD.sub [1] (by decide) rfl
  refine zcallw (wr := [(h, .inr (1, [.int 0, .int 0, .ref q7, .ref q15, .ref q23, .ref q31, .ref q39, .ref q47, .ref q55, .ref q64, .ref q72])), (q55, .inl (cI, 6, .inl (fun _ => 0))), (q64, .inl (cI, 576, .inl (fun _ => 0))), (q31, .inl (cI, 6, .inl f1))]) (va_runS (As := [.ref q39, .int (-1)]) (rest := []) ⟨hx, hb, hml, hown, zno⟩ (zw_fill l dC dI cI cZ cJ a0 s0 q39 6 H.size (fun _ => 0) (-1) (by decide)) ⟨zcb 2 (hB.word (zm1 k1_33) rfl) (hB.word (zm1 k1_3) rfl) (hB.word (zm1 k1_31) rfl) rfl rfl (by decide +kernel) ⟨Nat.le_of_ble_eq_true rfl, Nat.le_of_ble_eq_true rfl⟩, hB.word (zm1 k1_32) rfl⟩ ⟨zP_blind, zP_pre hPc hK hDc hAD (zB_on hB hA0 hS)⟩ rfl rfl hl.1 rfl (lv_room (Nat.le_of_ble_eq_true rfl)) dPL_init_90 ⟨Nat.le_of_ble_eq_true rfl, Nat.le_of_ble_eq_true rfl⟩) hP hD hS hA [1] [0, 2, 3, 4] rfl rfl (by decide) (by decide) (fun wo H1 locs hwo hP hD hS => ?_)
  obtain ⟨f2, hf2, rfl⟩ := hwo
  generalize H1 = H at hP hS ⊢
  have hP : va_P (dC, dI) zCl [(h, .inr (1, [.int 0, .int 0, .ref q7, .ref q15, .ref q23, .ref q31, .ref q39, .ref q47, .ref q55, .ref q64, .ref q72])), (q55, .inl (cI, 6, .inl (fun _ => 0))), (q64, .inl (cI, 576, .inl (fun _ => 0))), (q31, .inl (cI, 6, .inl f1)), (q39, .inl (cI, 6, .inl f2))] H := hP
  have hD : va_D A [(h, .inr (1, [.int 0, .int 0, .ref q7, .ref q15, .ref q23, .ref q31, .ref q39, .ref q47, .ref q55, .ref q64, .ref q72])), (q55, .inl (cI, 6, .inl (fun _ => 0))), (q64, .inl (cI, 576, .inl (fun _ => 0))), (q31, .inl (cI, 6, .inl f1)), (q39, .inl (cI, 6, .inl f2))] := hD
  refine lv_aload_n hx hb dPL_init_93 rfl (lv_at hl 0 rfl) ?_
  refine va_get (D := (dC, dI)) (ci := 1) (v := .ref q55) (C := "RingGuard$Plan") (T := T_PL) (N := 11) hx hb hu1 zid hown hK hP 0 rfl rfl 8 (by decide) (hB.word (zm1 k1_54) rfl) (fun _ h9 => h9) rfl dPL_init_94 ?_
  refine lv_iconst (v := (-1)) hx hb dPL_init_97 (by decide) ?_
  have hPc : va_P (dC, dI) zCl [(q55, .inl (cI, 6, .inl (fun _ => 0)))] H := hP.sub [1] rfl
  have hDc : va_D A [(q55, .inl (cI, 6, .inl (fun _ => 0)))] := hD.sub [1] (by decide) rfl
  refine zcallw (wr := [(h, .inr (1, [.int 0, .int 0, .ref q7, .ref q15, .ref q23, .ref q31, .ref q39, .ref q47, .ref q55, .ref q64, .ref q72])), (q64, .inl (cI, 576, .inl (fun _ => 0))), (q31, .inl (cI, 6, .inl f1)), (q39, .inl (cI, 6, .inl f2))]) (va_runS (As := [.ref q55, .int (-1)]) (rest := []) ⟨hx, hb, hml, hown, zno⟩ (zw_fill l dC dI cI cZ cJ a0 s0 q55 6 H.size (fun _ => 0) (-1) (by decide)) ⟨zcb 2 (hB.word (zm1 k1_33) rfl) (hB.word (zm1 k1_3) rfl) (hB.word (zm1 k1_31) rfl) rfl rfl (by decide +kernel) ⟨Nat.le_of_ble_eq_true rfl, Nat.le_of_ble_eq_true rfl⟩, hB.word (zm1 k1_32) rfl⟩ ⟨zP_blind, zP_pre hPc hK hDc hAD (zB_on hB hA0 hS)⟩ rfl rfl hl.1 rfl (lv_room (Nat.le_of_ble_eq_true rfl)) dPL_init_98 ⟨Nat.le_of_ble_eq_true rfl, Nat.le_of_ble_eq_true rfl⟩) hP hD hS hA [1] [0, 2, 3, 4] rfl rfl (by decide) (by decide) (fun wo H1 locs hwo hP hD hS => ?_)
  obtain ⟨f3, hf3, rfl⟩ := hwo
  generalize H1 = H at hP hS ⊢
  have hP : va_P (dC, dI) zCl [(h, .inr (1, [.int 0, .int 0, .ref q7, .ref q15, .ref q23, .ref q31, .ref q39, .ref q47, .ref q55, .ref q64, .ref q72])), (q64, .inl (cI, 576, .inl (fun _ => 0))), (q31, .inl (cI, 6, .inl f1)), (q39, .inl (cI, 6, .inl f2)), (q55, .inl (cI, 6, .inl f3))] H := hP
  have hD : va_D A [(h, .inr (1, [.int 0, .int 0, .ref q7, .ref q15, .ref q23, .ref q31, .ref q39, .ref q47, .ref q55, .ref q64, .ref q72])), (q64, .inl (cI, 576, .inl (fun _ => 0))), (q31, .inl (cI, 6, .inl f1)), (q39, .inl (cI, 6, .inl f2)), (q55, .inl (cI, 6, .inl f3))] := hD
  refine lv_aload_n hx hb dPL_init_101 rfl (lv_at hl 0 rfl) ?_
  refine va_get (D := (dC, dI)) (ci := 1) (v := .ref q64) (C := "RingGuard$Plan") (T := T_PL) (N := 11) hx hb hu1 zid hown hK hP 0 rfl rfl 9 (by decide) (hB.word (zm1 k1_56) rfl) (fun _ h9 => h9) rfl dPL_init_102 ?_
  refine lv_iconst (v := (-1)) hx hb dPL_init_105 (by decide) ?_
  have hPc : va_P (dC, dI) zCl [(q64, .inl (cI, 576, .inl (fun _ => 0)))] H := hP.sub [1] rfl
  have hDc : va_D A [(q64, .inl (cI, 576, .inl (fun _ => 0)))] := hD.sub [1] (by decide) rfl
  refine zcallw (wr := [(h, .inr (1, [.int 0, .int 0, .ref q7, .ref q15, .ref q23, .ref q31, .ref q39, .ref q47, .ref q55, .ref q64, .ref q72])), (q31, .inl (cI, 6, .inl f1)), (q39, .inl (cI, 6, .inl f2)), (q55, .inl (cI, 6, .inl f3))]) (va_runS (As := [.ref q64, .int (-1)]) (rest := []) ⟨hx, hb, hml, hown, zno⟩ (zw_fill l dC dI cI cZ cJ a0 s0 q64 576 H.size (fun _ => 0) (-1) (by decide)) ⟨zcb 2 (hB.word (zm1 k1_33) rfl) (hB.word (zm1 k1_3) rfl) (hB.word (zm1 k1_31) rfl) rfl rfl (by decide +kernel) ⟨Nat.le_of_ble_eq_true rfl, Nat.le_of_ble_eq_true rfl⟩, hB.word (zm1 k1_32) rfl⟩ ⟨zP_blind, zP_pre hPc hK hDc hAD (zB_on hB hA0 hS)⟩ rfl rfl hl.1 rfl (lv_room (Nat.le_of_ble_eq_true rfl)) dPL_init_106 ⟨Nat.le_of_ble_eq_true rfl, Nat.le_of_ble_eq_true rfl⟩) hP hD hS hA [1] [0, 2, 3, 4] rfl rfl (by decide) (by decide) (fun wo H1 locs hwo hP hD hS => ?_)
  obtain ⟨f4, hf4, rfl⟩ := hwo
  generalize H1 = H at hP hS ⊢
  have hP : va_P (dC, dI) zCl [(h, .inr (1, [.int 0, .int 0, .ref q7, .ref q15, .ref q23, .ref q31, .ref q39, .ref q47, .ref q55, .ref q64, .ref q72])), (q31, .inl (cI, 6, .inl f1)), (q39, .inl (cI, 6, .inl f2)), (q55, .inl (cI, 6, .inl f3)), (q64, .inl (cI, 576, .inl f4))] H := hP
  have hD : va_D A [(h, .inr (1, [.int 0, .int 0, .ref q7, .ref q15, .ref q23, .ref q31, .ref q39, .ref q47, .ref q55, .ref q64, .ref q72])), (q31, .inl (cI, 6, .inl f1)), (q39, .inl (cI, 6, .inl f2)), (q55, .inl (cI, 6, .inl f3)), (q64, .inl (cI, 576, .inl f4))] := hD
  refine W.widen (k := 9) (n := 900) (Nat.le_of_ble_eq_true rfl) (Nat.le_of_ble_eq_true rfl) ?_
  have hP9 : va_P (dC, dI) zCl [(h, .inr (1, [.int 0, .int 0, .ref q7, .ref q15, .ref q23, .ref q31, .ref q39, .ref q47, .ref q55, .ref q64, .ref q72]))] H := hP.sub [0] rfl
  have hD9 : va_D A [(h, .inr (1, [.int 0, .int 0, .ref q7, .ref q15, .ref q23, .ref q31, .ref q39, .ref q47, .ref q55, .ref q64, .ref q72]))] := hD.sub [0] (by decide) rfl
  exact W.vret hx hb hr (fun t ht hW => ⟨⟨[(h, .inr (1, [.int 0, .int 0, .ref q7, .ref q15, .ref q23, .ref q31, .ref q39, .ref q47, .ref q55, .ref q64, .ref q72]))], rfl, ⟨(fun k => match k with | 0 => q7 | 1 => q15 | 2 => q23 | 3 => q31 | 4 => q39 | 5 => q47 | 6 => q55 | 7 => q64 | 8 => q72 | _ => 0), rfl⟩, by rw [ht]; exact hP9, hD9⟩, hS.F ht⟩) hS.2.2 dPL_init_109
set_option maxHeartbeats 4000000 in
set_option maxRecDepth 100000 in
theorem zc_Wires (l : Launch) (dC : Nat → ClassId) (dI : Nat → Nat → Nat) (cI cZ cJ : ClassId) (a0 : Array Value) (s0 : State) (h sz : Nat) : Met l yWI_init [Cond.code yWI_init bWI_init 1 none] ({ frames := 1, cells := 5, slots := 15660, locals := 12 } : Room) (zP zCl dC dI (zTY cI cZ cJ) a0 s0 [.ref h] sz [(h, .inr (2, [.null, .null, .null, .null, .null, .int 0]))]) (zQw zCl dC dI (fun wo => ∃ c : Nat → Nat, wo = [(h, .inr (2, [.ref (c 0), .ref (c 1), .ref (c 2), .ref (c 3), .ref (c 4), .int 0])), ((c 3), .inl (cI, 120, .inl (fun _ => 0)))]) (va_A [(h, .inr (2, [.null, .null, .null, .null, .null, .int 0]))] sz)) 5 15660 (va_A [(h, .inr (2, [.null, .null, .null, .null, .null, .int 0]))] sz) := by
  refine Met.ofW (cc := bWI_init) (maxL := 1) (ret := none) (by decide) rfl ?_
  intro p e s m args below meth c s₁ B hml hv
  obtain ⟨rfl, hsz, hP, hK, hD0, hB⟩ := hv
  have hx := B.exec
  have hb := B.bytes
  have hr := B.returns
  have hown : s.vm.findClass "RingGuard$Wires" = some m.cls := findClass_of_methodNamed B.named
  have hlocks := B.notSynchronized
  have hin : meth.name = "<init>" := (name_of_methodNamed B.named B.method).1
  subst hsz
  have hD := hD0.self (sz := s.heap.size)
  have hA0 := zA0 hD0 hB
  generalize hAe : va_A [(h, .inr (2, [.null, .null, .null, .null, .null, .int 0]))] s.heap.size = A at hD hA0 ⊢
  have hAD := hA0
  have hA : ∀ q : Nat, s.heap.size ≤ q → A q := fun q h => by rw [← hAe]; exact Or.inr h
  have hS : va_S A s.heap s.heap [] := va_S.rf
  have hP : va_P (dC, dI) zCl [(h, .inr (2, [.null, .null, .null, .null, .null, .int 0]))] s.heap := hP
  have hl := lv_entry ([.ref h]) (n := 1) (Nat.le_of_ble_eq_true rfl)
  rw [lg_entry_eq]
  generalize (lg_sl ([.ref h]) ++ List.replicate (1 - (lg_sl ([.ref h])).length) Slot.unset).toArray = ls at hl ⊢
  have hl : lv_has ls 1 [(0, .ref h)] := hl
  refine lv_aload_n hx hb dWI_init_0 rfl (lv_at hl 0 rfl) ?_
  refine W.objInit hx hb hown (hB.word (zm1 k1_89) rfl) (hB.word (zm1 k1_23) rfl) (hB.word (zm1 k1_24) rfl) rfl (by rw [hml]; exact hl.1) rfl dWI_init_1 (Nat.le_of_ble_eq_true rfl) (Nat.le_of_ble_eq_true rfl) ?_
  refine W.eq (g2 := F0 m 4 ls []) rfl ?_
  refine lv_aload_n hx hb dWI_init_4 rfl (lv_at hl 0 rfl) ?_
  refine lv_sipush (v := 7680) hx hb dWI_init_5 (by decide) ?_
  refine znew (a0 := (7680, .inl (fun _ => 0))) hx hb (zac_int hB) rfl (fun _ h9 => by cases h9) hK 0 rfl hP hD hS hA (fun _ => rfl) (by decide) (by decide) (by decide) (Nat.le_of_ble_eq_true rfl) (Nat.le_of_ble_eq_true rfl) dWI_init_8 (fun q8 H hP hD hS => ?_)
  have hP : va_P (dC, dI) zCl [(h, .inr (2, [.null, .null, .null, .null, .null, .int 0])), (q8, .inl (cI, 7680, .inl (fun _ => 0)))] H := hP
  have hD : va_D A [(h, .inr (2, [.null, .null, .null, .null, .null, .int 0])), (q8, .inl (cI, 7680, .inl (fun _ => 0)))] := hD
  have hu2 : ∀ w ∈ u_ws "RingGuard$Wires" T_WI 6, w.before ([.ref h] : List Value).toArray s = true := hB.words zU_WI
  refine va_put (D := (dC, dI)) (ci := 2) (v := .ref q8) (ty := .array .int) (C := "RingGuard$Wires") (T := T_WI) (N := 6) hx hb hu2 zid ty_WI ok_WI nm_WI hown hK hP hD hS 0 rfl rfl 0 (by decide) (hB.word (zm1 k1_90) rfl) (fun _ h9 => h9) rfl (by decide +kernel) rfl rfl (Nat.le_of_ble_eq_true rfl) dWI_init_10 (fun H locs hP hD hS => ?_)
  have hP : va_P (dC, dI) zCl [(h, .inr (2, [.ref q8, .null, .null, .null, .null, .int 0])), (q8, .inl (cI, 7680, .inl (fun _ => 0)))] H := hP
  have hD : va_D A [(h, .inr (2, [.ref q8, .null, .null, .null, .null, .int 0])), (q8, .inl (cI, 7680, .inl (fun _ => 0)))] := hD
  have hP : va_P (dC, dI) zCl [(h, .inr (2, [.ref q8, .null, .null, .null, .null, .int 0]))] H := hP.sub [0] rfl
  have hD : va_D A [(h, .inr (2, [.ref q8, .null, .null, .null, .null, .int 0]))] := hD.sub [0] (by decide) rfl
  refine lv_aload_n hx hb dWI_init_13 rfl (lv_at hl 0 rfl) ?_
  refine lv_bipush (v := 120) hx hb dWI_init_14 (by decide) ?_
  refine znew (a0 := (120, .inl (fun _ => 0))) hx hb (zac_int hB) rfl (fun _ h9 => by cases h9) hK 0 rfl hP hD hS hA (fun _ => rfl) (by decide) (by decide) (by decide) (Nat.le_of_ble_eq_true rfl) (Nat.le_of_ble_eq_true rfl) dWI_init_16 (fun q16 H hP hD hS => ?_)
  have hP : va_P (dC, dI) zCl [(h, .inr (2, [.ref q8, .null, .null, .null, .null, .int 0])), (q16, .inl (cI, 120, .inl (fun _ => 0)))] H := hP
  have hD : va_D A [(h, .inr (2, [.ref q8, .null, .null, .null, .null, .int 0])), (q16, .inl (cI, 120, .inl (fun _ => 0)))] := hD
  refine va_put (D := (dC, dI)) (ci := 2) (v := .ref q16) (ty := .array .int) (C := "RingGuard$Wires") (T := T_WI) (N := 6) hx hb hu2 zid ty_WI ok_WI nm_WI hown hK hP hD hS 0 rfl rfl 1 (by decide) (hB.word (zm1 k1_91) rfl) (fun _ h9 => h9) rfl (by decide +kernel) rfl rfl (Nat.le_of_ble_eq_true rfl) dWI_init_18 (fun H locs hP hD hS => ?_)
  have hP : va_P (dC, dI) zCl [(h, .inr (2, [.ref q8, .ref q16, .null, .null, .null, .int 0])), (q16, .inl (cI, 120, .inl (fun _ => 0)))] H := hP
  have hD : va_D A [(h, .inr (2, [.ref q8, .ref q16, .null, .null, .null, .int 0])), (q16, .inl (cI, 120, .inl (fun _ => 0)))] := hD
  have hP : va_P (dC, dI) zCl [(h, .inr (2, [.ref q8, .ref q16, .null, .null, .null, .int 0]))] H := hP.sub [0] rfl
  have hD : va_D A [(h, .inr (2, [.ref q8, .ref q16, .null, .null, .null, .int 0]))] := hD.sub [0] (by decide) rfl
  refine lv_aload_n hx hb dWI_init_21 rfl (lv_at hl 0 rfl) ?_
  refine lv_sipush (v := 7680) hx hb dWI_init_22 (by decide) ?_
  refine znew (a0 := (7680, .inl (fun _ => 0))) hx hb (zac_int hB) rfl (fun _ h9 => by cases h9) hK 0 rfl hP hD hS hA (fun _ => rfl) (by decide) (by decide) (by decide) (Nat.le_of_ble_eq_true rfl) (Nat.le_of_ble_eq_true rfl) dWI_init_25 (fun q25 H hP hD hS => ?_)
  have hP : va_P (dC, dI) zCl [(h, .inr (2, [.ref q8, .ref q16, .null, .null, .null, .int 0])), (q25, .inl (cI, 7680, .inl (fun _ => 0)))] H := hP
  have hD : va_D A [(h, .inr (2, [.ref q8, .ref q16, .null, .null, .null, .int 0])), (q25, .inl (cI, 7680, .inl (fun _ => 0)))] := hD
  refine va_put (D := (dC, dI)) (ci := 2) (v := .ref q25) (ty := .array .int) (C := "RingGuard$Wires") (T := T_WI) (N := 6) hx hb hu2 zid ty_WI ok_WI nm_WI hown hK hP hD hS 0 rfl rfl 2 (by decide) (hB.word (zm1 k1_92) rfl) (fun _ h9 => h9) rfl (by decide +kernel) rfl rfl (Nat.le_of_ble_eq_true rfl) dWI_init_27 (fun H locs hP hD hS => ?_)
  have hP : va_P (dC, dI) zCl [(h, .inr (2, [.ref q8, .ref q16, .ref q25, .null, .null, .int 0])), (q25, .inl (cI, 7680, .inl (fun _ => 0)))] H := hP
  have hD : va_D A [(h, .inr (2, [.ref q8, .ref q16, .ref q25, .null, .null, .int 0])), (q25, .inl (cI, 7680, .inl (fun _ => 0)))] := hD
  have hP : va_P (dC, dI) zCl [(h, .inr (2, [.ref q8, .ref q16, .ref q25, .null, .null, .int 0]))] H := hP.sub [0] rfl
  have hD : va_D A [(h, .inr (2, [.ref q8, .ref q16, .ref q25, .null, .null, .int 0]))] := hD.sub [0] (by decide) rfl
  refine lv_aload_n hx hb dWI_init_30 rfl (lv_at hl 0 rfl) ?_
  refine lv_bipush (v := 120) hx hb dWI_init_31 (by decide) ?_
  refine znew (a0 := (120, .inl (fun _ => 0))) hx hb (zac_int hB) rfl (fun _ h9 => by cases h9) hK 0 rfl hP hD hS hA (fun _ => rfl) (by decide) (by decide) (by decide) (Nat.le_of_ble_eq_true rfl) (Nat.le_of_ble_eq_true rfl) dWI_init_33 (fun q33 H hP hD hS => ?_)
  have hP : va_P (dC, dI) zCl [(h, .inr (2, [.ref q8, .ref q16, .ref q25, .null, .null, .int 0])), (q33, .inl (cI, 120, .inl (fun _ => 0)))] H := hP
  have hD : va_D A [(h, .inr (2, [.ref q8, .ref q16, .ref q25, .null, .null, .int 0])), (q33, .inl (cI, 120, .inl (fun _ => 0)))] := hD
  refine va_put (D := (dC, dI)) (ci := 2) (v := .ref q33) (ty := .array .int) (C := "RingGuard$Wires") (T := T_WI) (N := 6) hx hb hu2 zid ty_WI ok_WI nm_WI hown hK hP hD hS 0 rfl rfl 3 (by decide) (hB.word (zm1 k1_93) rfl) (fun _ h9 => h9) rfl (by decide +kernel) rfl rfl (Nat.le_of_ble_eq_true rfl) dWI_init_35 (fun H locs hP hD hS => ?_)
  have hP : va_P (dC, dI) zCl [(h, .inr (2, [.ref q8, .ref q16, .ref q25, .ref q33, .null, .int 0])), (q33, .inl (cI, 120, .inl (fun _ => 0)))] H := hP
  have hD : va_D A [(h, .inr (2, [.ref q8, .ref q16, .ref q25, .ref q33, .null, .int 0])), (q33, .inl (cI, 120, .inl (fun _ => 0)))] := hD
  refine lv_aload_n hx hb dWI_init_38 rfl (lv_at hl 0 rfl) ?_
  refine lv_bipush (v := 60) hx hb dWI_init_39 (by decide) ?_
  refine znew (a0 := (60, .inl (fun _ => 0))) hx hb (zac_int hB) rfl (fun _ h9 => by cases h9) hK 0 rfl hP hD hS hA (fun _ => rfl) (by decide) (by decide) (by decide) (Nat.le_of_ble_eq_true rfl) (Nat.le_of_ble_eq_true rfl) dWI_init_41 (fun q41 H hP hD hS => ?_)
  have hP : va_P (dC, dI) zCl [(h, .inr (2, [.ref q8, .ref q16, .ref q25, .ref q33, .null, .int 0])), (q33, .inl (cI, 120, .inl (fun _ => 0))), (q41, .inl (cI, 60, .inl (fun _ => 0)))] H := hP
  have hD : va_D A [(h, .inr (2, [.ref q8, .ref q16, .ref q25, .ref q33, .null, .int 0])), (q33, .inl (cI, 120, .inl (fun _ => 0))), (q41, .inl (cI, 60, .inl (fun _ => 0)))] := hD
  refine va_putF (D := (dC, dI)) (ci := 2) (v := .ref q41) (ty := .array .int) (C := "RingGuard$Wires") (T := T_WI) (N := 6) hx hb hu2 zid ty_WI ok_WI nm_WI hown hK hP hD hS 0 rfl rfl 4 (by decide) (hB.word (zm1 k1_94) rfl) (fun _ h9 => h9) rfl hin rfl (by decide +kernel) rfl rfl (Nat.le_of_ble_eq_true rfl) dWI_init_43 (fun H locs hP hD hS => ?_)
  have hP : va_P (dC, dI) zCl [(h, .inr (2, [.ref q8, .ref q16, .ref q25, .ref q33, .ref q41, .int 0])), (q33, .inl (cI, 120, .inl (fun _ => 0))), (q41, .inl (cI, 60, .inl (fun _ => 0)))] H := hP
  have hD : va_D A [(h, .inr (2, [.ref q8, .ref q16, .ref q25, .ref q33, .ref q41, .int 0])), (q33, .inl (cI, 120, .inl (fun _ => 0))), (q41, .inl (cI, 60, .inl (fun _ => 0)))] := hD
  have hP : va_P (dC, dI) zCl [(h, .inr (2, [.ref q8, .ref q16, .ref q25, .ref q33, .ref q41, .int 0])), (q33, .inl (cI, 120, .inl (fun _ => 0)))] H := hP.sub [0, 1] rfl
  have hD : va_D A [(h, .inr (2, [.ref q8, .ref q16, .ref q25, .ref q33, .ref q41, .int 0])), (q33, .inl (cI, 120, .inl (fun _ => 0)))] := hD.sub [0, 1] (by decide) rfl
  refine W.widen (k := 5) (n := 15660) (Nat.le_of_ble_eq_true rfl) (Nat.le_of_ble_eq_true rfl) ?_
  have hP9 : va_P (dC, dI) zCl [(h, .inr (2, [.ref q8, .ref q16, .ref q25, .ref q33, .ref q41, .int 0])), (q33, .inl (cI, 120, .inl (fun _ => 0)))] H := hP.sub [0, 1] rfl
  have hD9 : va_D A [(h, .inr (2, [.ref q8, .ref q16, .ref q25, .ref q33, .ref q41, .int 0])), (q33, .inl (cI, 120, .inl (fun _ => 0)))] := hD.sub [0, 1] (by decide) rfl
  exact W.vret hx hb hr (fun t ht hW => ⟨⟨[(h, .inr (2, [.ref q8, .ref q16, .ref q25, .ref q33, .ref q41, .int 0])), (q33, .inl (cI, 120, .inl (fun _ => 0)))], rfl, ⟨(fun k => match k with | 0 => q8 | 1 => q16 | 2 => q25 | 3 => q33 | 4 => q41 | _ => 0), rfl⟩, by rw [ht]; exact hP9, hD9⟩, hS.F ht⟩) hS.2.2 dWI_init_46
set_option maxHeartbeats 4000000 in
set_option maxRecDepth 100000 in
theorem zc_Protocol (l : Launch) (dC : Nat → ClassId) (dI : Nat → Nat → Nat) (cI cZ cJ : ClassId) (a0 : Array Value) (s0 : State) (h g1 g2 g3 sz : Nat) : Met l yPR_init [Cond.code yPR_init bPR_init 4 none] ({ frames := 1, cells := 9, slots := 6336, locals := 12 } : Room) (zP zCl dC dI (zTY cI cZ cJ) a0 s0 [.ref h, .ref g1, .ref g2, .ref g3] sz [(h, .inr (4, [.null, .null, .null, .null, .null, .null, .null, .null, .null, .null, .null, .null, .int 0, .int 0]))]) (zQv zCl dC dI [] (va_A [(h, .inr (4, [.null, .null, .null, .null, .null, .null, .null, .null, .null, .null, .null, .null, .int 0, .int 0]))] sz)) 9 6336 (va_A [(h, .inr (4, [.null, .null, .null, .null, .null, .null, .null, .null, .null, .null, .null, .null, .int 0, .int 0]))] sz) := by
  refine Met.ofW (cc := bPR_init) (maxL := 4) (ret := none) (by decide) rfl ?_
  intro p e s m args below meth c s₁ B hml hv
  obtain ⟨rfl, hsz, hP, hK, hD0, hB⟩ := hv
  have hx := B.exec
  have hb := B.bytes
  have hr := B.returns
  have hown : s.vm.findClass "RingGuard$Protocol" = some m.cls := findClass_of_methodNamed B.named
  have hlocks := B.notSynchronized
  have hin : meth.name = "<init>" := (name_of_methodNamed B.named B.method).1
  subst hsz
  have hD := hD0.self (sz := s.heap.size)
  have hA0 := zA0 hD0 hB
  generalize hAe : va_A [(h, .inr (4, [.null, .null, .null, .null, .null, .null, .null, .null, .null, .null, .null, .null, .int 0, .int 0]))] s.heap.size = A at hD hA0 ⊢
  have hAD := hA0
  have hA : ∀ q : Nat, s.heap.size ≤ q → A q := fun q h => by rw [← hAe]; exact Or.inr h
  have hS : va_S A s.heap s.heap [] := va_S.rf
  have hP : va_P (dC, dI) zCl [(h, .inr (4, [.null, .null, .null, .null, .null, .null, .null, .null, .null, .null, .null, .null, .int 0, .int 0]))] s.heap := hP
  have hl := lv_entry ([.ref h, .ref g1, .ref g2, .ref g3]) (n := 4) (Nat.le_of_ble_eq_true rfl)
  rw [lg_entry_eq]
  generalize (lg_sl ([.ref h, .ref g1, .ref g2, .ref g3]) ++ List.replicate (4 - (lg_sl ([.ref h, .ref g1, .ref g2, .ref g3])).length) Slot.unset).toArray = ls at hl ⊢
  have hl : lv_has ls 4 [(0, .ref h), (1, .ref g1), (2, .ref g2), (3, .ref g3)] := hl
  refine lv_aload_n hx hb dPR_init_0 rfl (lv_at hl 0 rfl) ?_
  refine W.objInit hx hb hown (hB.word (zm1 k1_129) rfl) (hB.word (zm1 k1_23) rfl) (hB.word (zm1 k1_24) rfl) rfl (by rw [hml]; exact hl.1) rfl dPR_init_1 (Nat.le_of_ble_eq_true rfl) (Nat.le_of_ble_eq_true rfl) ?_
  refine W.eq (g2 := F0 m 4 ls []) rfl ?_
  refine lv_aload_n hx hb dPR_init_4 rfl (lv_at hl 0 rfl) ?_
  refine lv_bipush (v := 120) hx hb dPR_init_5 (by decide) ?_
  refine znew (a0 := (120, .inl (fun _ => 0))) hx hb (zac_int hB) rfl (fun _ h9 => by cases h9) hK 0 rfl hP hD hS hA (fun _ => rfl) (by decide) (by decide) (by decide) (Nat.le_of_ble_eq_true rfl) (Nat.le_of_ble_eq_true rfl) dPR_init_7 (fun q7 H hP hD hS => ?_)
  have hP : va_P (dC, dI) zCl [(h, .inr (4, [.null, .null, .null, .null, .null, .null, .null, .null, .null, .null, .null, .null, .int 0, .int 0])), (q7, .inl (cI, 120, .inl (fun _ => 0)))] H := hP
  have hD : va_D A [(h, .inr (4, [.null, .null, .null, .null, .null, .null, .null, .null, .null, .null, .null, .null, .int 0, .int 0])), (q7, .inl (cI, 120, .inl (fun _ => 0)))] := hD
  have hu4 : ∀ w ∈ u_ws "RingGuard$Protocol" T_PR 14, w.before ([.ref h, .ref g1, .ref g2, .ref g3] : List Value).toArray s = true := hB.words zU_PR
  refine va_putF (D := (dC, dI)) (ci := 4) (v := .ref q7) (ty := .array .int) (C := "RingGuard$Protocol") (T := T_PR) (N := 14) hx hb hu4 zid ty_PR ok_PR nm_PR hown hK hP hD hS 0 rfl rfl 3 (by decide) (hB.word (zm1 k1_133) rfl) (fun _ h9 => h9) rfl hin rfl (by decide +kernel) rfl rfl (Nat.le_of_ble_eq_true rfl) dPR_init_9 (fun H locs hP hD hS => ?_)
  have hP : va_P (dC, dI) zCl [(h, .inr (4, [.null, .null, .null, .ref q7, .null, .null, .null, .null, .null, .null, .null, .null, .int 0, .int 0])), (q7, .inl (cI, 120, .inl (fun _ => 0)))] H := hP
  have hD : va_D A [(h, .inr (4, [.null, .null, .null, .ref q7, .null, .null, .null, .null, .null, .null, .null, .null, .int 0, .int 0])), (q7, .inl (cI, 120, .inl (fun _ => 0)))] := hD
  have hP : va_P (dC, dI) zCl [(h, .inr (4, [.null, .null, .null, .ref q7, .null, .null, .null, .null, .null, .null, .null, .null, .int 0, .int 0]))] H := hP.sub [0] rfl
  have hD : va_D A [(h, .inr (4, [.null, .null, .null, .ref q7, .null, .null, .null, .null, .null, .null, .null, .null, .int 0, .int 0]))] := hD.sub [0] (by decide) rfl
  refine lv_aload_n hx hb dPR_init_12 rfl (lv_at hl 0 rfl) ?_
  refine lv_sipush (v := 288) hx hb dPR_init_13 (by decide) ?_
  refine znew (a0 := (288, .inl (fun _ => 0))) hx hb (zac_int hB) rfl (fun _ h9 => by cases h9) hK 0 rfl hP hD hS hA (fun _ => rfl) (by decide) (by decide) (by decide) (Nat.le_of_ble_eq_true rfl) (Nat.le_of_ble_eq_true rfl) dPR_init_16 (fun q16 H hP hD hS => ?_)
  have hP : va_P (dC, dI) zCl [(h, .inr (4, [.null, .null, .null, .ref q7, .null, .null, .null, .null, .null, .null, .null, .null, .int 0, .int 0])), (q16, .inl (cI, 288, .inl (fun _ => 0)))] H := hP
  have hD : va_D A [(h, .inr (4, [.null, .null, .null, .ref q7, .null, .null, .null, .null, .null, .null, .null, .null, .int 0, .int 0])), (q16, .inl (cI, 288, .inl (fun _ => 0)))] := hD
  refine va_putF (D := (dC, dI)) (ci := 4) (v := .ref q16) (ty := .array .int) (C := "RingGuard$Protocol") (T := T_PR) (N := 14) hx hb hu4 zid ty_PR ok_PR nm_PR hown hK hP hD hS 0 rfl rfl 4 (by decide) (hB.word (zm1 k1_135) rfl) (fun _ h9 => h9) rfl hin rfl (by decide +kernel) rfl rfl (Nat.le_of_ble_eq_true rfl) dPR_init_18 (fun H locs hP hD hS => ?_)
  have hP : va_P (dC, dI) zCl [(h, .inr (4, [.null, .null, .null, .ref q7, .ref q16, .null, .null, .null, .null, .null, .null, .null, .int 0, .int 0])), (q16, .inl (cI, 288, .inl (fun _ => 0)))] H := hP
  have hD : va_D A [(h, .inr (4, [.null, .null, .null, .ref q7, .ref q16, .null, .null, .null, .null, .null, .null, .null, .int 0, .int 0])), (q16, .inl (cI, 288, .inl (fun _ => 0)))] := hD
  have hP : va_P (dC, dI) zCl [(h, .inr (4, [.null, .null, .null, .ref q7, .ref q16, .null, .null, .null, .null, .null, .null, .null, .int 0, .int 0]))] H := hP.sub [0] rfl
  have hD : va_D A [(h, .inr (4, [.null, .null, .null, .ref q7, .ref q16, .null, .null, .null, .null, .null, .null, .null, .int 0, .int 0]))] := hD.sub [0] (by decide) rfl
  refine lv_aload_n hx hb dPR_init_21 rfl (lv_at hl 0 rfl) ?_
  refine lv_sipush (v := 288) hx hb dPR_init_22 (by decide) ?_
  refine znew (a0 := (288, .inl (fun _ => 0))) hx hb (zac_int hB) rfl (fun _ h9 => by cases h9) hK 0 rfl hP hD hS hA (fun _ => rfl) (by decide) (by decide) (by decide) (Nat.le_of_ble_eq_true rfl) (Nat.le_of_ble_eq_true rfl) dPR_init_25 (fun q25 H hP hD hS => ?_)
  have hP : va_P (dC, dI) zCl [(h, .inr (4, [.null, .null, .null, .ref q7, .ref q16, .null, .null, .null, .null, .null, .null, .null, .int 0, .int 0])), (q25, .inl (cI, 288, .inl (fun _ => 0)))] H := hP
  have hD : va_D A [(h, .inr (4, [.null, .null, .null, .ref q7, .ref q16, .null, .null, .null, .null, .null, .null, .null, .int 0, .int 0])), (q25, .inl (cI, 288, .inl (fun _ => 0)))] := hD
  refine va_putF (D := (dC, dI)) (ci := 4) (v := .ref q25) (ty := .array .int) (C := "RingGuard$Protocol") (T := T_PR) (N := 14) hx hb hu4 zid ty_PR ok_PR nm_PR hown hK hP hD hS 0 rfl rfl 5 (by decide) (hB.word (zm1 k1_137) rfl) (fun _ h9 => h9) rfl hin rfl (by decide +kernel) rfl rfl (Nat.le_of_ble_eq_true rfl) dPR_init_27 (fun H locs hP hD hS => ?_)
  have hP : va_P (dC, dI) zCl [(h, .inr (4, [.null, .null, .null, .ref q7, .ref q16, .ref q25, .null, .null, .null, .null, .null, .null, .int 0, .int 0])), (q25, .inl (cI, 288, .inl (fun _ => 0)))] H := hP
  have hD : va_D A [(h, .inr (4, [.null, .null, .null, .ref q7, .ref q16, .ref q25, .null, .null, .null, .null, .null, .null, .int 0, .int 0])), (q25, .inl (cI, 288, .inl (fun _ => 0)))] := hD
  have hP : va_P (dC, dI) zCl [(h, .inr (4, [.null, .null, .null, .ref q7, .ref q16, .ref q25, .null, .null, .null, .null, .null, .null, .int 0, .int 0]))] H := hP.sub [0] rfl
  have hD : va_D A [(h, .inr (4, [.null, .null, .null, .ref q7, .ref q16, .ref q25, .null, .null, .null, .null, .null, .null, .int 0, .int 0]))] := hD.sub [0] (by decide) rfl
  refine lv_aload_n hx hb dPR_init_30 rfl (lv_at hl 0 rfl) ?_
  refine lv_bipush (v := 6) hx hb dPR_init_31 (by decide) ?_
  refine znew (a0 := (6, .inl (fun _ => 0))) hx hb (zac_int hB) rfl (fun _ h9 => by cases h9) hK 0 rfl hP hD hS hA (fun _ => rfl) (by decide) (by decide) (by decide) (Nat.le_of_ble_eq_true rfl) (Nat.le_of_ble_eq_true rfl) dPR_init_33 (fun q33 H hP hD hS => ?_)
  have hP : va_P (dC, dI) zCl [(h, .inr (4, [.null, .null, .null, .ref q7, .ref q16, .ref q25, .null, .null, .null, .null, .null, .null, .int 0, .int 0])), (q33, .inl (cI, 6, .inl (fun _ => 0)))] H := hP
  have hD : va_D A [(h, .inr (4, [.null, .null, .null, .ref q7, .ref q16, .ref q25, .null, .null, .null, .null, .null, .null, .int 0, .int 0])), (q33, .inl (cI, 6, .inl (fun _ => 0)))] := hD
  refine va_putF (D := (dC, dI)) (ci := 4) (v := .ref q33) (ty := .array .int) (C := "RingGuard$Protocol") (T := T_PR) (N := 14) hx hb hu4 zid ty_PR ok_PR nm_PR hown hK hP hD hS 0 rfl rfl 6 (by decide) (hB.word (zm1 k1_138) rfl) (fun _ h9 => h9) rfl hin rfl (by decide +kernel) rfl rfl (Nat.le_of_ble_eq_true rfl) dPR_init_35 (fun H locs hP hD hS => ?_)
  have hP : va_P (dC, dI) zCl [(h, .inr (4, [.null, .null, .null, .ref q7, .ref q16, .ref q25, .ref q33, .null, .null, .null, .null, .null, .int 0, .int 0])), (q33, .inl (cI, 6, .inl (fun _ => 0)))] H := hP
  have hD : va_D A [(h, .inr (4, [.null, .null, .null, .ref q7, .ref q16, .ref q25, .ref q33, .null, .null, .null, .null, .null, .int 0, .int 0])), (q33, .inl (cI, 6, .inl (fun _ => 0)))] := hD
  have hP : va_P (dC, dI) zCl [(h, .inr (4, [.null, .null, .null, .ref q7, .ref q16, .ref q25, .ref q33, .null, .null, .null, .null, .null, .int 0, .int 0]))] H := hP.sub [0] rfl
  have hD : va_D A [(h, .inr (4, [.null, .null, .null, .ref q7, .ref q16, .ref q25, .ref q33, .null, .null, .null, .null, .null, .int 0, .int 0]))] := hD.sub [0] (by decide) rfl
  refine lv_aload_n hx hb dPR_init_38 rfl (lv_at hl 0 rfl) ?_
  refine lv_bipush (v := 6) hx hb dPR_init_39 (by decide) ?_
  refine znew (a0 := (6, .inl (fun _ => 0))) hx hb (zac_int hB) rfl (fun _ h9 => by cases h9) hK 0 rfl hP hD hS hA (fun _ => rfl) (by decide) (by decide) (by decide) (Nat.le_of_ble_eq_true rfl) (Nat.le_of_ble_eq_true rfl) dPR_init_41 (fun q41 H hP hD hS => ?_)
  have hP : va_P (dC, dI) zCl [(h, .inr (4, [.null, .null, .null, .ref q7, .ref q16, .ref q25, .ref q33, .null, .null, .null, .null, .null, .int 0, .int 0])), (q41, .inl (cI, 6, .inl (fun _ => 0)))] H := hP
  have hD : va_D A [(h, .inr (4, [.null, .null, .null, .ref q7, .ref q16, .ref q25, .ref q33, .null, .null, .null, .null, .null, .int 0, .int 0])), (q41, .inl (cI, 6, .inl (fun _ => 0)))] := hD
  refine va_putF (D := (dC, dI)) (ci := 4) (v := .ref q41) (ty := .array .int) (C := "RingGuard$Protocol") (T := T_PR) (N := 14) hx hb hu4 zid ty_PR ok_PR nm_PR hown hK hP hD hS 0 rfl rfl 7 (by decide) (hB.word (zm1 k1_140) rfl) (fun _ h9 => h9) rfl hin rfl (by decide +kernel) rfl rfl (Nat.le_of_ble_eq_true rfl) dPR_init_43 (fun H locs hP hD hS => ?_)
  have hP : va_P (dC, dI) zCl [(h, .inr (4, [.null, .null, .null, .ref q7, .ref q16, .ref q25, .ref q33, .ref q41, .null, .null, .null, .null, .int 0, .int 0])), (q41, .inl (cI, 6, .inl (fun _ => 0)))] H := hP
  have hD : va_D A [(h, .inr (4, [.null, .null, .null, .ref q7, .ref q16, .ref q25, .ref q33, .ref q41, .null, .null, .null, .null, .int 0, .int 0])), (q41, .inl (cI, 6, .inl (fun _ => 0)))] := hD
  have hP : va_P (dC, dI) zCl [(h, .inr (4, [.null, .null, .null, .ref q7, .ref q16, .ref q25, .ref q33, .ref q41, .null, .null, .null, .null, .int 0, .int 0]))] H := hP.sub [0] rfl
  have hD : va_D A [(h, .inr (4, [.null, .null, .null, .ref q7, .ref q16, .ref q25, .ref q33, .ref q41, .null, .null, .null, .null, .int 0, .int 0]))] := hD.sub [0] (by decide) rfl
  refine lv_aload_n hx hb dPR_init_46 rfl (lv_at hl 0 rfl) ?_
  refine lv_bipush (v := 60) hx hb dPR_init_47 (by decide) ?_
  refine znew (a0 := (60, .inl (fun _ => 0))) hx hb (zac_int hB) rfl (fun _ h9 => by cases h9) hK 0 rfl hP hD hS hA (fun _ => rfl) (by decide) (by decide) (by decide) (Nat.le_of_ble_eq_true rfl) (Nat.le_of_ble_eq_true rfl) dPR_init_49 (fun q49 H hP hD hS => ?_)
  have hP : va_P (dC, dI) zCl [(h, .inr (4, [.null, .null, .null, .ref q7, .ref q16, .ref q25, .ref q33, .ref q41, .null, .null, .null, .null, .int 0, .int 0])), (q49, .inl (cI, 60, .inl (fun _ => 0)))] H := hP
  have hD : va_D A [(h, .inr (4, [.null, .null, .null, .ref q7, .ref q16, .ref q25, .ref q33, .ref q41, .null, .null, .null, .null, .int 0, .int 0])), (q49, .inl (cI, 60, .inl (fun _ => 0)))] := hD
  refine va_putF (D := (dC, dI)) (ci := 4) (v := .ref q49) (ty := .array .int) (C := "RingGuard$Protocol") (T := T_PR) (N := 14) hx hb hu4 zid ty_PR ok_PR nm_PR hown hK hP hD hS 0 rfl rfl 8 (by decide) (hB.word (zm1 k1_141) rfl) (fun _ h9 => h9) rfl hin rfl (by decide +kernel) rfl rfl (Nat.le_of_ble_eq_true rfl) dPR_init_51 (fun H locs hP hD hS => ?_)
  have hP : va_P (dC, dI) zCl [(h, .inr (4, [.null, .null, .null, .ref q7, .ref q16, .ref q25, .ref q33, .ref q41, .ref q49, .null, .null, .null, .int 0, .int 0])), (q49, .inl (cI, 60, .inl (fun _ => 0)))] H := hP
  have hD : va_D A [(h, .inr (4, [.null, .null, .null, .ref q7, .ref q16, .ref q25, .ref q33, .ref q41, .ref q49, .null, .null, .null, .int 0, .int 0])), (q49, .inl (cI, 60, .inl (fun _ => 0)))] := hD
  have hP : va_P (dC, dI) zCl [(h, .inr (4, [.null, .null, .null, .ref q7, .ref q16, .ref q25, .ref q33, .ref q41, .ref q49, .null, .null, .null, .int 0, .int 0]))] H := hP.sub [0] rfl
  have hD : va_D A [(h, .inr (4, [.null, .null, .null, .ref q7, .ref q16, .ref q25, .ref q33, .ref q41, .ref q49, .null, .null, .null, .int 0, .int 0]))] := hD.sub [0] (by decide) rfl
  refine lv_aload_n hx hb dPR_init_54 rfl (lv_at hl 0 rfl) ?_
  refine lv_bipush (v := 48) hx hb dPR_init_55 (by decide) ?_
  refine znew (a0 := (48, .inl (fun _ => 0))) hx hb (zac_int hB) rfl (fun _ h9 => by cases h9) hK 0 rfl hP hD hS hA (fun _ => rfl) (by decide) (by decide) (by decide) (Nat.le_of_ble_eq_true rfl) (Nat.le_of_ble_eq_true rfl) dPR_init_57 (fun q57 H hP hD hS => ?_)
  have hP : va_P (dC, dI) zCl [(h, .inr (4, [.null, .null, .null, .ref q7, .ref q16, .ref q25, .ref q33, .ref q41, .ref q49, .null, .null, .null, .int 0, .int 0])), (q57, .inl (cI, 48, .inl (fun _ => 0)))] H := hP
  have hD : va_D A [(h, .inr (4, [.null, .null, .null, .ref q7, .ref q16, .ref q25, .ref q33, .ref q41, .ref q49, .null, .null, .null, .int 0, .int 0])), (q57, .inl (cI, 48, .inl (fun _ => 0)))] := hD
  refine va_putF (D := (dC, dI)) (ci := 4) (v := .ref q57) (ty := .array .int) (C := "RingGuard$Protocol") (T := T_PR) (N := 14) hx hb hu4 zid ty_PR ok_PR nm_PR hown hK hP hD hS 0 rfl rfl 9 (by decide) (hB.word (zm1 k1_142) rfl) (fun _ h9 => h9) rfl hin rfl (by decide +kernel) rfl rfl (Nat.le_of_ble_eq_true rfl) dPR_init_59 (fun H locs hP hD hS => ?_)
  have hP : va_P (dC, dI) zCl [(h, .inr (4, [.null, .null, .null, .ref q7, .ref q16, .ref q25, .ref q33, .ref q41, .ref q49, .ref q57, .null, .null, .int 0, .int 0])), (q57, .inl (cI, 48, .inl (fun _ => 0)))] H := hP
  have hD : va_D A [(h, .inr (4, [.null, .null, .null, .ref q7, .ref q16, .ref q25, .ref q33, .ref q41, .ref q49, .ref q57, .null, .null, .int 0, .int 0])), (q57, .inl (cI, 48, .inl (fun _ => 0)))] := hD
  have hP : va_P (dC, dI) zCl [(h, .inr (4, [.null, .null, .null, .ref q7, .ref q16, .ref q25, .ref q33, .ref q41, .ref q49, .ref q57, .null, .null, .int 0, .int 0]))] H := hP.sub [0] rfl
  have hD : va_D A [(h, .inr (4, [.null, .null, .null, .ref q7, .ref q16, .ref q25, .ref q33, .ref q41, .ref q49, .ref q57, .null, .null, .int 0, .int 0]))] := hD.sub [0] (by decide) rfl
  refine lv_aload_n hx hb dPR_init_62 rfl (lv_at hl 0 rfl) ?_
  refine lv_sipush (v := 5472) hx hb dPR_init_63 (by decide) ?_
  refine znew (a0 := (5472, .inl (fun _ => 0))) hx hb (zac_int hB) rfl (fun _ h9 => by cases h9) hK 0 rfl hP hD hS hA (fun _ => rfl) (by decide) (by decide) (by decide) (Nat.le_of_ble_eq_true rfl) (Nat.le_of_ble_eq_true rfl) dPR_init_66 (fun q66 H hP hD hS => ?_)
  have hP : va_P (dC, dI) zCl [(h, .inr (4, [.null, .null, .null, .ref q7, .ref q16, .ref q25, .ref q33, .ref q41, .ref q49, .ref q57, .null, .null, .int 0, .int 0])), (q66, .inl (cI, 5472, .inl (fun _ => 0)))] H := hP
  have hD : va_D A [(h, .inr (4, [.null, .null, .null, .ref q7, .ref q16, .ref q25, .ref q33, .ref q41, .ref q49, .ref q57, .null, .null, .int 0, .int 0])), (q66, .inl (cI, 5472, .inl (fun _ => 0)))] := hD
  refine va_putF (D := (dC, dI)) (ci := 4) (v := .ref q66) (ty := .array .int) (C := "RingGuard$Protocol") (T := T_PR) (N := 14) hx hb hu4 zid ty_PR ok_PR nm_PR hown hK hP hD hS 0 rfl rfl 10 (by decide) (hB.word (zm1 k1_143) rfl) (fun _ h9 => h9) rfl hin rfl (by decide +kernel) rfl rfl (Nat.le_of_ble_eq_true rfl) dPR_init_68 (fun H locs hP hD hS => ?_)
  have hP : va_P (dC, dI) zCl [(h, .inr (4, [.null, .null, .null, .ref q7, .ref q16, .ref q25, .ref q33, .ref q41, .ref q49, .ref q57, .ref q66, .null, .int 0, .int 0])), (q66, .inl (cI, 5472, .inl (fun _ => 0)))] H := hP
  have hD : va_D A [(h, .inr (4, [.null, .null, .null, .ref q7, .ref q16, .ref q25, .ref q33, .ref q41, .ref q49, .ref q57, .ref q66, .null, .int 0, .int 0])), (q66, .inl (cI, 5472, .inl (fun _ => 0)))] := hD
  have hP : va_P (dC, dI) zCl [(h, .inr (4, [.null, .null, .null, .ref q7, .ref q16, .ref q25, .ref q33, .ref q41, .ref q49, .ref q57, .ref q66, .null, .int 0, .int 0]))] H := hP.sub [0] rfl
  have hD : va_D A [(h, .inr (4, [.null, .null, .null, .ref q7, .ref q16, .ref q25, .ref q33, .ref q41, .ref q49, .ref q57, .ref q66, .null, .int 0, .int 0]))] := hD.sub [0] (by decide) rfl
  refine lv_aload_n hx hb dPR_init_71 rfl (lv_at hl 0 rfl) ?_
  refine lv_bipush (v := 48) hx hb dPR_init_72 (by decide) ?_
  refine znew (a0 := (48, .inl (fun _ => 0))) hx hb (zac_int hB) rfl (fun _ h9 => by cases h9) hK 0 rfl hP hD hS hA (fun _ => rfl) (by decide) (by decide) (by decide) (Nat.le_of_ble_eq_true rfl) (Nat.le_of_ble_eq_true rfl) dPR_init_74 (fun q74 H hP hD hS => ?_)
  have hP : va_P (dC, dI) zCl [(h, .inr (4, [.null, .null, .null, .ref q7, .ref q16, .ref q25, .ref q33, .ref q41, .ref q49, .ref q57, .ref q66, .null, .int 0, .int 0])), (q74, .inl (cI, 48, .inl (fun _ => 0)))] H := hP
  have hD : va_D A [(h, .inr (4, [.null, .null, .null, .ref q7, .ref q16, .ref q25, .ref q33, .ref q41, .ref q49, .ref q57, .ref q66, .null, .int 0, .int 0])), (q74, .inl (cI, 48, .inl (fun _ => 0)))] := hD
  refine va_putF (D := (dC, dI)) (ci := 4) (v := .ref q74) (ty := .array .int) (C := "RingGuard$Protocol") (T := T_PR) (N := 14) hx hb hu4 zid ty_PR ok_PR nm_PR hown hK hP hD hS 0 rfl rfl 11 (by decide) (hB.word (zm1 k1_144) rfl) (fun _ h9 => h9) rfl hin rfl (by decide +kernel) rfl rfl (Nat.le_of_ble_eq_true rfl) dPR_init_76 (fun H locs hP hD hS => ?_)
  have hP : va_P (dC, dI) zCl [(h, .inr (4, [.null, .null, .null, .ref q7, .ref q16, .ref q25, .ref q33, .ref q41, .ref q49, .ref q57, .ref q66, .ref q74, .int 0, .int 0])), (q74, .inl (cI, 48, .inl (fun _ => 0)))] H := hP
  have hD : va_D A [(h, .inr (4, [.null, .null, .null, .ref q7, .ref q16, .ref q25, .ref q33, .ref q41, .ref q49, .ref q57, .ref q66, .ref q74, .int 0, .int 0])), (q74, .inl (cI, 48, .inl (fun _ => 0)))] := hD
  have hP : va_P (dC, dI) zCl [(h, .inr (4, [.null, .null, .null, .ref q7, .ref q16, .ref q25, .ref q33, .ref q41, .ref q49, .ref q57, .ref q66, .ref q74, .int 0, .int 0]))] H := hP.sub [0] rfl
  have hD : va_D A [(h, .inr (4, [.null, .null, .null, .ref q7, .ref q16, .ref q25, .ref q33, .ref q41, .ref q49, .ref q57, .ref q66, .ref q74, .int 0, .int 0]))] := hD.sub [0] (by decide) rfl
  refine lv_aload_n hx hb dPR_init_79 rfl (lv_at hl 0 rfl) ?_
  refine lv_iconst (v := 1) hx hb dPR_init_80 (by decide) ?_
  refine va_put (D := (dC, dI)) (ci := 4) (v := .int 1) (ty := .boolean) (C := "RingGuard$Protocol") (T := T_PR) (N := 14) hx hb hu4 zid ty_PR ok_PR nm_PR hown hK hP hD hS 0 rfl rfl 13 (by decide) (hB.word (zm1 k1_148) rfl) (fun _ h9 => h9) rfl (by decide +kernel) rfl rfl (Nat.le_of_ble_eq_true rfl) dPR_init_81 (fun H locs hP hD hS => ?_)
  have hP : va_P (dC, dI) zCl [(h, .inr (4, [.null, .null, .null, .ref q7, .ref q16, .ref q25, .ref q33, .ref q41, .ref q49, .ref q57, .ref q66, .ref q74, .int 0, .int 1]))] H := hP
  have hD : va_D A [(h, .inr (4, [.null, .null, .null, .ref q7, .ref q16, .ref q25, .ref q33, .ref q41, .ref q49, .ref q57, .ref q66, .ref q74, .int 0, .int 1]))] := hD
  refine lv_aload_n hx hb dPR_init_84 rfl (lv_at hl 0 rfl) ?_
  refine lv_aload_n hx hb dPR_init_85 rfl (lv_at hl 1 rfl) ?_
  refine va_putF (D := (dC, dI)) (ci := 4) (v := .ref g1) (ty := .object "RingGuard$Plan") (C := "RingGuard$Protocol") (T := T_PR) (N := 14) hx hb hu4 zid ty_PR ok_PR nm_PR hown hK hP hD hS 0 rfl rfl 0 (by decide) (hB.word (zm1 k1_130) rfl) (fun _ h9 => h9) rfl hin rfl (by decide +kernel) rfl rfl (Nat.le_of_ble_eq_true rfl) dPR_init_86 (fun H locs hP hD hS => ?_)
  have hP : va_P (dC, dI) zCl [(h, .inr (4, [.ref g1, .null, .null, .ref q7, .ref q16, .ref q25, .ref q33, .ref q41, .ref q49, .ref q57, .ref q66, .ref q74, .int 0, .int 1]))] H := hP
  have hD : va_D A [(h, .inr (4, [.ref g1, .null, .null, .ref q7, .ref q16, .ref q25, .ref q33, .ref q41, .ref q49, .ref q57, .ref q66, .ref q74, .int 0, .int 1]))] := hD
  refine lv_aload_n hx hb dPR_init_89 rfl (lv_at hl 0 rfl) ?_
  refine lv_aload_n hx hb dPR_init_90 rfl (lv_at hl 2 rfl) ?_
  refine va_putF (D := (dC, dI)) (ci := 4) (v := .ref g2) (ty := .object "RingGuard$Wires") (C := "RingGuard$Protocol") (T := T_PR) (N := 14) hx hb hu4 zid ty_PR ok_PR nm_PR hown hK hP hD hS 0 rfl rfl 1 (by decide) (hB.word (zm1 k1_131) rfl) (fun _ h9 => h9) rfl hin rfl (by decide +kernel) rfl rfl (Nat.le_of_ble_eq_true rfl) dPR_init_91 (fun H locs hP hD hS => ?_)
  have hP : va_P (dC, dI) zCl [(h, .inr (4, [.ref g1, .ref g2, .null, .ref q7, .ref q16, .ref q25, .ref q33, .ref q41, .ref q49, .ref q57, .ref q66, .ref q74, .int 0, .int 1]))] H := hP
  have hD : va_D A [(h, .inr (4, [.ref g1, .ref g2, .null, .ref q7, .ref q16, .ref q25, .ref q33, .ref q41, .ref q49, .ref q57, .ref q66, .ref q74, .int 0, .int 1]))] := hD
  refine lv_aload_n hx hb dPR_init_94 rfl (lv_at hl 0 rfl) ?_
  refine lv_aload_n hx hb dPR_init_95 rfl (lv_at hl 3 rfl) ?_
  refine va_putF (D := (dC, dI)) (ci := 4) (v := .ref g3) (ty := .object "RingGuard$Tables") (C := "RingGuard$Protocol") (T := T_PR) (N := 14) hx hb hu4 zid ty_PR ok_PR nm_PR hown hK hP hD hS 0 rfl rfl 2 (by decide) (hB.word (zm1 k1_132) rfl) (fun _ h9 => h9) rfl hin rfl (by decide +kernel) rfl rfl (Nat.le_of_ble_eq_true rfl) dPR_init_96 (fun H locs hP hD hS => ?_)
  have hP : va_P (dC, dI) zCl [(h, .inr (4, [.ref g1, .ref g2, .ref g3, .ref q7, .ref q16, .ref q25, .ref q33, .ref q41, .ref q49, .ref q57, .ref q66, .ref q74, .int 0, .int 1]))] H := hP
  have hD : va_D A [(h, .inr (4, [.ref g1, .ref g2, .ref g3, .ref q7, .ref q16, .ref q25, .ref q33, .ref q41, .ref q49, .ref q57, .ref q66, .ref q74, .int 0, .int 1]))] := hD
  refine W.widen (k := 9) (n := 6336) (Nat.le_of_ble_eq_true rfl) (Nat.le_of_ble_eq_true rfl) ?_
  have hP9 : va_P (dC, dI) zCl [] H := hP.sub [] rfl
  have hD9 : va_D A [] := hD.sub [] (by decide) rfl
  exact W.vret hx hb hr (fun t ht hW => ⟨⟨(), rfl, trivial, by rw [ht]; exact hP9, hD9⟩, hS.F ht⟩) hS.2.2 dPR_init_99
set_option maxHeartbeats 4000000 in
set_option maxRecDepth 100000 in
theorem zc_Frames (l : Launch) (dC : Nat → ClassId) (dI : Nat → Nat → Nat) (cI cZ cJ : ClassId) (a0 : Array Value) (s0 : State) (h g1 g2 g3 sz : Nat) : Met l yFR_init [Cond.code yFR_init bFR_init 4 none] ({ frames := 1, cells := 4, slots := 984, locals := 23 } : Room) (zP zCl dC dI (zTY cI cZ cJ) a0 s0 [.ref h, .ref g1, .ref g2, .ref g3] sz [(h, .inr (5, [.null, .null, .null, .null, .null, .null, .int 0, .null, .int 0]))]) (zQw zCl dC dI (fun wo => ∃ (c : Nat → Nat) (f : Nat → Int32), (∀ j, j < 64 → f j = -1) ∧ wo = [(h, .inr (5, [.ref g1, .ref g2, .ref g3, .ref (c 0), .ref (c 1), .ref (c 2), .int 0, .ref (c 3), .int 0])), ((c 0), .inl (cI, 64, .inl f))]) (va_A [(h, .inr (5, [.null, .null, .null, .null, .null, .null, .int 0, .null, .int 0]))] sz)) 4 984 (va_A [(h, .inr (5, [.null, .null, .null, .null, .null, .null, .int 0, .null, .int 0]))] sz) := by
  refine Met.ofW (cc := bFR_init) (maxL := 4) (ret := none) (by decide) rfl ?_
  intro p e s m args below meth c s₁ B hml hv
  obtain ⟨rfl, hsz, hP, hK, hD0, hB⟩ := hv
  have hx := B.exec
  have hb := B.bytes
  have hr := B.returns
  have hown : s.vm.findClass "RingGuard$Frames" = some m.cls := findClass_of_methodNamed B.named
  have hlocks := B.notSynchronized
  have hin : meth.name = "<init>" := (name_of_methodNamed B.named B.method).1
  subst hsz
  have hD := hD0.self (sz := s.heap.size)
  have hA0 := zA0 hD0 hB
  generalize hAe : va_A [(h, .inr (5, [.null, .null, .null, .null, .null, .null, .int 0, .null, .int 0]))] s.heap.size = A at hD hA0 ⊢
  have hAD := hA0
  have hA : ∀ q : Nat, s.heap.size ≤ q → A q := fun q h => by rw [← hAe]; exact Or.inr h
  have hS : va_S A s.heap s.heap [] := va_S.rf
  have hP : va_P (dC, dI) zCl [(h, .inr (5, [.null, .null, .null, .null, .null, .null, .int 0, .null, .int 0]))] s.heap := hP
  have hl := lv_entry ([.ref h, .ref g1, .ref g2, .ref g3]) (n := 4) (Nat.le_of_ble_eq_true rfl)
  rw [lg_entry_eq]
  generalize (lg_sl ([.ref h, .ref g1, .ref g2, .ref g3]) ++ List.replicate (4 - (lg_sl ([.ref h, .ref g1, .ref g2, .ref g3])).length) Slot.unset).toArray = ls at hl ⊢
  have hl : lv_has ls 4 [(0, .ref h), (1, .ref g1), (2, .ref g2), (3, .ref g3)] := hl
  refine lv_aload_n hx hb dFR_init_0 rfl (lv_at hl 0 rfl) ?_
  refine W.objInit hx hb hown (hB.word (zm1 k1_184) rfl) (hB.word (zm1 k1_23) rfl) (hB.word (zm1 k1_24) rfl) rfl (by rw [hml]; exact hl.1) rfl dFR_init_1 (Nat.le_of_ble_eq_true rfl) (Nat.le_of_ble_eq_true rfl) ?_
  refine W.eq (g2 := F0 m 4 ls []) rfl ?_
  refine lv_aload_n hx hb dFR_init_4 rfl (lv_at hl 0 rfl) ?_
  refine lv_bipush (v := 64) hx hb dFR_init_5 (by decide) ?_
  refine znew (a0 := (64, .inl (fun _ => 0))) hx hb (zac_int hB) rfl (fun _ h9 => by cases h9) hK 0 rfl hP hD hS hA (fun _ => rfl) (by decide) (by decide) (by decide) (Nat.le_of_ble_eq_true rfl) (Nat.le_of_ble_eq_true rfl) dFR_init_7 (fun q7 H hP hD hS => ?_)
  have hP : va_P (dC, dI) zCl [(h, .inr (5, [.null, .null, .null, .null, .null, .null, .int 0, .null, .int 0])), (q7, .inl (cI, 64, .inl (fun _ => 0)))] H := hP
  have hD : va_D A [(h, .inr (5, [.null, .null, .null, .null, .null, .null, .int 0, .null, .int 0])), (q7, .inl (cI, 64, .inl (fun _ => 0)))] := hD
  have hu5 : ∀ w ∈ u_ws "RingGuard$Frames" T_FR 9, w.before ([.ref h, .ref g1, .ref g2, .ref g3] : List Value).toArray s = true := hB.words zU_FR
  refine va_putF (D := (dC, dI)) (ci := 5) (v := .ref q7) (ty := .array .int) (C := "RingGuard$Frames") (T := T_FR) (N := 9) hx hb hu5 zid ty_FR ok_FR nm_FR hown hK hP hD hS 0 rfl rfl 3 (by decide) (hB.word (zm1 k1_189) rfl) (fun _ h9 => h9) rfl hin rfl (by decide +kernel) rfl rfl (Nat.le_of_ble_eq_true rfl) dFR_init_9 (fun H locs hP hD hS => ?_)
  have hP : va_P (dC, dI) zCl [(h, .inr (5, [.null, .null, .null, .ref q7, .null, .null, .int 0, .null, .int 0])), (q7, .inl (cI, 64, .inl (fun _ => 0)))] H := hP
  have hD : va_D A [(h, .inr (5, [.null, .null, .null, .ref q7, .null, .null, .int 0, .null, .int 0])), (q7, .inl (cI, 64, .inl (fun _ => 0)))] := hD
  refine lv_aload_n hx hb dFR_init_12 rfl (lv_at hl 0 rfl) ?_
  refine lv_sipush (v := 400) hx hb dFR_init_13 (by decide) ?_
  refine znew (a0 := (400, .inl (fun _ => 0))) hx hb (zac_int hB) rfl (fun _ h9 => by cases h9) hK 0 rfl hP hD hS hA (fun _ => rfl) (by decide) (by decide) (by decide) (Nat.le_of_ble_eq_true rfl) (Nat.le_of_ble_eq_true rfl) dFR_init_16 (fun q16 H hP hD hS => ?_)
  have hP : va_P (dC, dI) zCl [(h, .inr (5, [.null, .null, .null, .ref q7, .null, .null, .int 0, .null, .int 0])), (q7, .inl (cI, 64, .inl (fun _ => 0))), (q16, .inl (cI, 400, .inl (fun _ => 0)))] H := hP
  have hD : va_D A [(h, .inr (5, [.null, .null, .null, .ref q7, .null, .null, .int 0, .null, .int 0])), (q7, .inl (cI, 64, .inl (fun _ => 0))), (q16, .inl (cI, 400, .inl (fun _ => 0)))] := hD
  refine va_putF (D := (dC, dI)) (ci := 5) (v := .ref q16) (ty := .array .int) (C := "RingGuard$Frames") (T := T_FR) (N := 9) hx hb hu5 zid ty_FR ok_FR nm_FR hown hK hP hD hS 0 rfl rfl 4 (by decide) (hB.word (zm1 k1_191) rfl) (fun _ h9 => h9) rfl hin rfl (by decide +kernel) rfl rfl (Nat.le_of_ble_eq_true rfl) dFR_init_18 (fun H locs hP hD hS => ?_)
  have hP : va_P (dC, dI) zCl [(h, .inr (5, [.null, .null, .null, .ref q7, .ref q16, .null, .int 0, .null, .int 0])), (q7, .inl (cI, 64, .inl (fun _ => 0))), (q16, .inl (cI, 400, .inl (fun _ => 0)))] H := hP
  have hD : va_D A [(h, .inr (5, [.null, .null, .null, .ref q7, .ref q16, .null, .int 0, .null, .int 0])), (q7, .inl (cI, 64, .inl (fun _ => 0))), (q16, .inl (cI, 400, .inl (fun _ => 0)))] := hD
  have hP : va_P (dC, dI) zCl [(h, .inr (5, [.null, .null, .null, .ref q7, .ref q16, .null, .int 0, .null, .int 0])), (q7, .inl (cI, 64, .inl (fun _ => 0)))] H := hP.sub [0, 1] rfl
  have hD : va_D A [(h, .inr (5, [.null, .null, .null, .ref q7, .ref q16, .null, .int 0, .null, .int 0])), (q7, .inl (cI, 64, .inl (fun _ => 0)))] := hD.sub [0, 1] (by decide) rfl
  refine lv_aload_n hx hb dFR_init_21 rfl (lv_at hl 0 rfl) ?_
  refine lv_sipush (v := 400) hx hb dFR_init_22 (by decide) ?_
  refine znew (a0 := (400, .inl (fun _ => 0))) hx hb (zac_int hB) rfl (fun _ h9 => by cases h9) hK 0 rfl hP hD hS hA (fun _ => rfl) (by decide) (by decide) (by decide) (Nat.le_of_ble_eq_true rfl) (Nat.le_of_ble_eq_true rfl) dFR_init_25 (fun q25 H hP hD hS => ?_)
  have hP : va_P (dC, dI) zCl [(h, .inr (5, [.null, .null, .null, .ref q7, .ref q16, .null, .int 0, .null, .int 0])), (q7, .inl (cI, 64, .inl (fun _ => 0))), (q25, .inl (cI, 400, .inl (fun _ => 0)))] H := hP
  have hD : va_D A [(h, .inr (5, [.null, .null, .null, .ref q7, .ref q16, .null, .int 0, .null, .int 0])), (q7, .inl (cI, 64, .inl (fun _ => 0))), (q25, .inl (cI, 400, .inl (fun _ => 0)))] := hD
  refine va_putF (D := (dC, dI)) (ci := 5) (v := .ref q25) (ty := .array .int) (C := "RingGuard$Frames") (T := T_FR) (N := 9) hx hb hu5 zid ty_FR ok_FR nm_FR hown hK hP hD hS 0 rfl rfl 5 (by decide) (hB.word (zm1 k1_192) rfl) (fun _ h9 => h9) rfl hin rfl (by decide +kernel) rfl rfl (Nat.le_of_ble_eq_true rfl) dFR_init_27 (fun H locs hP hD hS => ?_)
  have hP : va_P (dC, dI) zCl [(h, .inr (5, [.null, .null, .null, .ref q7, .ref q16, .ref q25, .int 0, .null, .int 0])), (q7, .inl (cI, 64, .inl (fun _ => 0))), (q25, .inl (cI, 400, .inl (fun _ => 0)))] H := hP
  have hD : va_D A [(h, .inr (5, [.null, .null, .null, .ref q7, .ref q16, .ref q25, .int 0, .null, .int 0])), (q7, .inl (cI, 64, .inl (fun _ => 0))), (q25, .inl (cI, 400, .inl (fun _ => 0)))] := hD
  have hP : va_P (dC, dI) zCl [(h, .inr (5, [.null, .null, .null, .ref q7, .ref q16, .ref q25, .int 0, .null, .int 0])), (q7, .inl (cI, 64, .inl (fun _ => 0)))] H := hP.sub [0, 1] rfl
  have hD : va_D A [(h, .inr (5, [.null, .null, .null, .ref q7, .ref q16, .ref q25, .int 0, .null, .int 0])), (q7, .inl (cI, 64, .inl (fun _ => 0)))] := hD.sub [0, 1] (by decide) rfl
  refine lv_aload_n hx hb dFR_init_30 rfl (lv_at hl 0 rfl) ?_
  refine lv_bipush (v := 120) hx hb dFR_init_31 (by decide) ?_
  refine znew (a0 := (120, .inl (fun _ => 0))) hx hb (zac_int hB) rfl (fun _ h9 => by cases h9) hK 0 rfl hP hD hS hA (fun _ => rfl) (by decide) (by decide) (by decide) (Nat.le_of_ble_eq_true rfl) (Nat.le_of_ble_eq_true rfl) dFR_init_33 (fun q33 H hP hD hS => ?_)
  have hP : va_P (dC, dI) zCl [(h, .inr (5, [.null, .null, .null, .ref q7, .ref q16, .ref q25, .int 0, .null, .int 0])), (q7, .inl (cI, 64, .inl (fun _ => 0))), (q33, .inl (cI, 120, .inl (fun _ => 0)))] H := hP
  have hD : va_D A [(h, .inr (5, [.null, .null, .null, .ref q7, .ref q16, .ref q25, .int 0, .null, .int 0])), (q7, .inl (cI, 64, .inl (fun _ => 0))), (q33, .inl (cI, 120, .inl (fun _ => 0)))] := hD
  refine va_putF (D := (dC, dI)) (ci := 5) (v := .ref q33) (ty := .array .int) (C := "RingGuard$Frames") (T := T_FR) (N := 9) hx hb hu5 zid ty_FR ok_FR nm_FR hown hK hP hD hS 0 rfl rfl 7 (by decide) (hB.word (zm1 k1_194) rfl) (fun _ h9 => h9) rfl hin rfl (by decide +kernel) rfl rfl (Nat.le_of_ble_eq_true rfl) dFR_init_35 (fun H locs hP hD hS => ?_)
  have hP : va_P (dC, dI) zCl [(h, .inr (5, [.null, .null, .null, .ref q7, .ref q16, .ref q25, .int 0, .ref q33, .int 0])), (q7, .inl (cI, 64, .inl (fun _ => 0))), (q33, .inl (cI, 120, .inl (fun _ => 0)))] H := hP
  have hD : va_D A [(h, .inr (5, [.null, .null, .null, .ref q7, .ref q16, .ref q25, .int 0, .ref q33, .int 0])), (q7, .inl (cI, 64, .inl (fun _ => 0))), (q33, .inl (cI, 120, .inl (fun _ => 0)))] := hD
  have hP : va_P (dC, dI) zCl [(h, .inr (5, [.null, .null, .null, .ref q7, .ref q16, .ref q25, .int 0, .ref q33, .int 0])), (q7, .inl (cI, 64, .inl (fun _ => 0)))] H := hP.sub [0, 1] rfl
  have hD : va_D A [(h, .inr (5, [.null, .null, .null, .ref q7, .ref q16, .ref q25, .int 0, .ref q33, .int 0])), (q7, .inl (cI, 64, .inl (fun _ => 0)))] := hD.sub [0, 1] (by decide) rfl
  refine lv_aload_n hx hb dFR_init_38 rfl (lv_at hl 0 rfl) ?_
  refine lv_aload_n hx hb dFR_init_39 rfl (lv_at hl 1 rfl) ?_
  refine va_putF (D := (dC, dI)) (ci := 5) (v := .ref g1) (ty := .object "RingGuard$Plan") (C := "RingGuard$Frames") (T := T_FR) (N := 9) hx hb hu5 zid ty_FR ok_FR nm_FR hown hK hP hD hS 0 rfl rfl 0 (by decide) (hB.word (zm1 k1_186) rfl) (fun _ h9 => h9) rfl hin rfl (by decide +kernel) rfl rfl (Nat.le_of_ble_eq_true rfl) dFR_init_40 (fun H locs hP hD hS => ?_)
  have hP : va_P (dC, dI) zCl [(h, .inr (5, [.ref g1, .null, .null, .ref q7, .ref q16, .ref q25, .int 0, .ref q33, .int 0])), (q7, .inl (cI, 64, .inl (fun _ => 0)))] H := hP
  have hD : va_D A [(h, .inr (5, [.ref g1, .null, .null, .ref q7, .ref q16, .ref q25, .int 0, .ref q33, .int 0])), (q7, .inl (cI, 64, .inl (fun _ => 0)))] := hD
  refine lv_aload_n hx hb dFR_init_43 rfl (lv_at hl 0 rfl) ?_
  refine lv_aload_n hx hb dFR_init_44 rfl (lv_at hl 2 rfl) ?_
  refine va_putF (D := (dC, dI)) (ci := 5) (v := .ref g2) (ty := .object "RingGuard$Protocol") (C := "RingGuard$Frames") (T := T_FR) (N := 9) hx hb hu5 zid ty_FR ok_FR nm_FR hown hK hP hD hS 0 rfl rfl 1 (by decide) (hB.word (zm1 k1_187) rfl) (fun _ h9 => h9) rfl hin rfl (by decide +kernel) rfl rfl (Nat.le_of_ble_eq_true rfl) dFR_init_45 (fun H locs hP hD hS => ?_)
  have hP : va_P (dC, dI) zCl [(h, .inr (5, [.ref g1, .ref g2, .null, .ref q7, .ref q16, .ref q25, .int 0, .ref q33, .int 0])), (q7, .inl (cI, 64, .inl (fun _ => 0)))] H := hP
  have hD : va_D A [(h, .inr (5, [.ref g1, .ref g2, .null, .ref q7, .ref q16, .ref q25, .int 0, .ref q33, .int 0])), (q7, .inl (cI, 64, .inl (fun _ => 0)))] := hD
  refine lv_aload_n hx hb dFR_init_48 rfl (lv_at hl 0 rfl) ?_
  refine lv_aload_n hx hb dFR_init_49 rfl (lv_at hl 3 rfl) ?_
  refine va_putF (D := (dC, dI)) (ci := 5) (v := .ref g3) (ty := .object "RingGuard$Tables") (C := "RingGuard$Frames") (T := T_FR) (N := 9) hx hb hu5 zid ty_FR ok_FR nm_FR hown hK hP hD hS 0 rfl rfl 2 (by decide) (hB.word (zm1 k1_188) rfl) (fun _ h9 => h9) rfl hin rfl (by decide +kernel) rfl rfl (Nat.le_of_ble_eq_true rfl) dFR_init_50 (fun H locs hP hD hS => ?_)
  have hP : va_P (dC, dI) zCl [(h, .inr (5, [.ref g1, .ref g2, .ref g3, .ref q7, .ref q16, .ref q25, .int 0, .ref q33, .int 0])), (q7, .inl (cI, 64, .inl (fun _ => 0)))] H := hP
  have hD : va_D A [(h, .inr (5, [.ref g1, .ref g2, .ref g3, .ref q7, .ref q16, .ref q25, .int 0, .ref q33, .int 0])), (q7, .inl (cI, 64, .inl (fun _ => 0)))] := hD
  refine lv_aload_n hx hb dFR_init_53 rfl (lv_at hl 0 rfl) ?_
  refine va_get (D := (dC, dI)) (ci := 5) (v := .ref q7) (C := "RingGuard$Frames") (T := T_FR) (N := 9) hx hb hu5 zid hown hK hP 0 rfl rfl 3 (by decide) (hB.word (zm1 k1_189) rfl) (fun _ h9 => h9) rfl dFR_init_54 ?_
  refine lv_iconst (v := (-1)) hx hb dFR_init_57 (by decide) ?_
  have hPc : va_P (dC, dI) zCl [(q7, .inl (cI, 64, .inl (fun _ => 0)))] H := hP.sub [1] rfl
  have hDc : va_D A [(q7, .inl (cI, 64, .inl (fun _ => 0)))] := hD.sub [1] (by decide) rfl
  refine zcallw (wr := [(h, .inr (5, [.ref g1, .ref g2, .ref g3, .ref q7, .ref q16, .ref q25, .int 0, .ref q33, .int 0]))]) (va_runS (As := [.ref q7, .int (-1)]) (rest := []) ⟨hx, hb, hml, hown, zno⟩ (zw_fill l dC dI cI cZ cJ a0 s0 q7 64 H.size (fun _ => 0) (-1) (by decide)) ⟨zcb 2 (hB.word (zm1 k1_33) rfl) (hB.word (zm1 k1_3) rfl) (hB.word (zm1 k1_185) rfl) rfl rfl (by decide +kernel) ⟨Nat.le_of_ble_eq_true rfl, Nat.le_of_ble_eq_true rfl⟩, hB.word (zm1 k1_32) rfl⟩ ⟨zP_blind, zP_pre hPc hK hDc hAD (zB_on hB hA0 hS)⟩ rfl rfl hl.1 rfl (lv_room (Nat.le_of_ble_eq_true rfl)) dFR_init_58 ⟨Nat.le_of_ble_eq_true rfl, Nat.le_of_ble_eq_true rfl⟩) hP hD hS hA [1] [0] rfl rfl (by decide) (by decide) (fun wo H1 locs hwo hP hD hS => ?_)
  obtain ⟨f1, hf1, rfl⟩ := hwo
  generalize H1 = H at hP hS ⊢
  have hP : va_P (dC, dI) zCl [(h, .inr (5, [.ref g1, .ref g2, .ref g3, .ref q7, .ref q16, .ref q25, .int 0, .ref q33, .int 0])), (q7, .inl (cI, 64, .inl f1))] H := hP
  have hD : va_D A [(h, .inr (5, [.ref g1, .ref g2, .ref g3, .ref q7, .ref q16, .ref q25, .int 0, .ref q33, .int 0])), (q7, .inl (cI, 64, .inl f1))] := hD
  refine W.widen (k := 4) (n := 984) (Nat.le_of_ble_eq_true rfl) (Nat.le_of_ble_eq_true rfl) ?_
  have hP9 : va_P (dC, dI) zCl [(h, .inr (5, [.ref g1, .ref g2, .ref g3, .ref q7, .ref q16, .ref q25, .int 0, .ref q33, .int 0])), (q7, .inl (cI, 64, .inl f1))] H := hP.sub [0, 1] rfl
  have hD9 : va_D A [(h, .inr (5, [.ref g1, .ref g2, .ref g3, .ref q7, .ref q16, .ref q25, .int 0, .ref q33, .int 0])), (q7, .inl (cI, 64, .inl f1))] := hD.sub [0, 1] (by decide) rfl
  exact W.vret hx hb hr (fun t ht hW => ⟨⟨[(h, .inr (5, [.ref g1, .ref g2, .ref g3, .ref q7, .ref q16, .ref q25, .int 0, .ref q33, .int 0])), (q7, .inl (cI, 64, .inl f1))], rfl, ⟨(fun k => match k with | 0 => q7 | 1 => q16 | 2 => q25 | 3 => q33 | _ => 0), f1, hf1, rfl⟩, by rw [ht]; exact hP9, hD9⟩, hS.F ht⟩) hS.2.2 dFR_init_61
end
section
theorem k1_5 : tables_1_1[5]? = some (Jvm.Cond.initialized "RingGuard$Tables") := by decide +kernel
theorem k1_6 : tables_1_1[6]? = some (Jvm.Cond.initialized "RingGuard$Protocol") := by decide +kernel
theorem k1_7 : tables_1_1[7]? = some (Jvm.Cond.initialized "RingGuard$Frames") := by decide +kernel
theorem k1_8 : tables_1_1[8]? = some (Jvm.Cond.initialized "RingGuard$Groups") := by decide +kernel
theorem k1_22 : tables_1_1[22]? = some (Jvm.Cond.methodLink "RingGuard" (3 : Nat) ({ cls := "java/lang/Object", name := "<init>", desc := "()V" } : Jvm.MethodName)) := by decide +kernel
theorem k1_25 : tables_1_1[25]? = some (Jvm.Cond.classLink "RingGuard" (9 : Nat) "RingGuard$Plan") := by decide +kernel
theorem k1_26 : tables_1_1[26]? = some (Jvm.Cond.instantiable "RingGuard$Plan" (11 : Nat)) := by decide +kernel
theorem k1_27 : tables_1_1[27]? = some (Jvm.Cond.methodLink "RingGuard" (11 : Nat) ({ cls := "RingGuard$Plan", name := "<init>", desc := "()V" } : Jvm.MethodName)) := by decide +kernel
theorem k1_28 : tables_1_1[28]? = some (Jvm.Cond.instanceMethod ({ cls := "RingGuard$Plan", name := "<init>", desc := "()V" } : Jvm.MethodName)) := by decide +kernel
theorem k1_29 : tables_1_1[29]? = some (Jvm.Cond.code ({ cls := "RingGuard$Plan", name := "<init>", desc := "()V" } : Jvm.MethodName) prog_5_method_1_code (1 : Nat) (Option.none : Option Jvm.ClassFile.FieldType)) := rfl
theorem k1_84 : tables_1_1[84]? = some (Jvm.Cond.classLink "RingGuard" (16 : Nat) "RingGuard$Wires") := by decide +kernel
theorem k1_85 : tables_1_1[85]? = some (Jvm.Cond.instantiable "RingGuard$Wires" (6 : Nat)) := by decide +kernel
theorem k1_86 : tables_1_1[86]? = some (Jvm.Cond.methodLinkNest "RingGuard" (18 : Nat) ({ cls := "RingGuard$Wires", name := "<init>", desc := "()V" } : Jvm.MethodName) "RingGuard") := by decide +kernel
theorem k1_87 : tables_1_1[87]? = some (Jvm.Cond.instanceMethod ({ cls := "RingGuard$Wires", name := "<init>", desc := "()V" } : Jvm.MethodName)) := by decide +kernel
theorem k1_88 : tables_1_1[88]? = some (Jvm.Cond.code ({ cls := "RingGuard$Wires", name := "<init>", desc := "()V" } : Jvm.MethodName) prog_8_method_1_code (1 : Nat) (Option.none : Option Jvm.ClassFile.FieldType)) := rfl
theorem k1_111 : tables_1_1[111]? = some (Jvm.Cond.classLink "RingGuard" (23 : Nat) "RingGuard$Tables") := by decide +kernel
theorem k1_112 : tables_1_1[112]? = some (Jvm.Cond.instantiable "RingGuard$Tables" (1 : Nat)) := by decide +kernel
theorem k1_113 : tables_1_1[113]? = some (Jvm.Cond.methodLink "RingGuard" (25 : Nat) ({ cls := "RingGuard$Tables", name := "<init>", desc := "()V" } : Jvm.MethodName)) := by decide +kernel
theorem k1_114 : tables_1_1[114]? = some (Jvm.Cond.instanceMethod ({ cls := "RingGuard$Tables", name := "<init>", desc := "()V" } : Jvm.MethodName)) := by decide +kernel
theorem k1_115 : tables_1_1[115]? = some (Jvm.Cond.code ({ cls := "RingGuard$Tables", name := "<init>", desc := "()V" } : Jvm.MethodName) prog_7_method_1_code (2 : Nat) (Option.none : Option Jvm.ClassFile.FieldType)) := rfl
theorem k1_116 : tables_1_1[116]? = some (Jvm.Cond.methodLink "RingGuard$Tables" (3 : Nat) ({ cls := "java/lang/Object", name := "<init>", desc := "()V" } : Jvm.MethodName)) := by decide +kernel
theorem k1_117 : tables_1_1[117]? = some (Jvm.Cond.classLink "RingGuard$Tables" (9 : Nat) "[[I") := by decide +kernel
theorem k1_118 : tables_1_1[118]? = some (Jvm.Cond.arrayOver (Jvm.ClassFile.FieldType.array Jvm.ClassFile.FieldType.int)) := by decide +kernel
theorem k1_119 : tables_1_1[119]? = some (Jvm.Cond.methodLink "RingGuard$Tables" (16 : Nat) ({ cls := "java/util/Arrays", name := "fill", desc := "([II)V" } : Jvm.MethodName)) := by decide +kernel
theorem k1_120 : tables_1_1[120]? = some (Jvm.Cond.fieldLink "RingGuard$Tables" (11 : Nat) "RingGuard$Tables" "entries" "[[I") := by decide +kernel
theorem k1_124 : tables_1_1[124]? = some (Jvm.Cond.classLink "RingGuard" (30 : Nat) "RingGuard$Protocol") := by decide +kernel
theorem k1_125 : tables_1_1[125]? = some (Jvm.Cond.instantiable "RingGuard$Protocol" (14 : Nat)) := by decide +kernel
theorem k1_126 : tables_1_1[126]? = some (Jvm.Cond.methodLink "RingGuard" (32 : Nat) ({ cls := "RingGuard$Protocol", name := "<init>", desc := "(LRingGuard$Plan;LRingGuard$Wires;LRingGuard$Tables;)V" } : Jvm.MethodName)) := by decide +kernel
theorem k1_127 : tables_1_1[127]? = some (Jvm.Cond.instanceMethod ({ cls := "RingGuard$Protocol", name := "<init>", desc := "(LRingGuard$Plan;LRingGuard$Wires;LRingGuard$Tables;)V" } : Jvm.MethodName)) := by decide +kernel
theorem k1_128 : tables_1_1[128]? = some (Jvm.Cond.code ({ cls := "RingGuard$Protocol", name := "<init>", desc := "(LRingGuard$Plan;LRingGuard$Wires;LRingGuard$Tables;)V" } : Jvm.MethodName) prog_6_method_1_code (4 : Nat) (Option.none : Option Jvm.ClassFile.FieldType)) := rfl
theorem k1_179 : tables_1_1[179]? = some (Jvm.Cond.classLink "RingGuard" (39 : Nat) "RingGuard$Frames") := by decide +kernel
theorem k1_180 : tables_1_1[180]? = some (Jvm.Cond.instantiable "RingGuard$Frames" (9 : Nat)) := by decide +kernel
theorem k1_181 : tables_1_1[181]? = some (Jvm.Cond.methodLink "RingGuard" (41 : Nat) ({ cls := "RingGuard$Frames", name := "<init>", desc := "(LRingGuard$Plan;LRingGuard$Protocol;LRingGuard$Tables;)V" } : Jvm.MethodName)) := by decide +kernel
theorem k1_182 : tables_1_1[182]? = some (Jvm.Cond.instanceMethod ({ cls := "RingGuard$Frames", name := "<init>", desc := "(LRingGuard$Plan;LRingGuard$Protocol;LRingGuard$Tables;)V" } : Jvm.MethodName)) := by decide +kernel
theorem k1_183 : tables_1_1[183]? = some (Jvm.Cond.code ({ cls := "RingGuard$Frames", name := "<init>", desc := "(LRingGuard$Plan;LRingGuard$Protocol;LRingGuard$Tables;)V" } : Jvm.MethodName) prog_3_method_1_code (4 : Nat) (Option.none : Option Jvm.ClassFile.FieldType)) := rfl
theorem k1_216 : tables_1_1[216]? = some (Jvm.Cond.classLink "RingGuard" (48 : Nat) "RingGuard$Groups") := by decide +kernel
theorem k1_217 : tables_1_1[217]? = some (Jvm.Cond.instantiable "RingGuard$Groups" (3 : Nat)) := by decide +kernel
theorem k1_218 : tables_1_1[218]? = some (Jvm.Cond.methodLinkNest "RingGuard" (50 : Nat) ({ cls := "RingGuard$Groups", name := "<init>", desc := "()V" } : Jvm.MethodName) "RingGuard") := by decide +kernel
theorem k1_219 : tables_1_1[219]? = some (Jvm.Cond.instanceMethod ({ cls := "RingGuard$Groups", name := "<init>", desc := "()V" } : Jvm.MethodName)) := by decide +kernel
theorem k1_220 : tables_1_1[220]? = some (Jvm.Cond.code ({ cls := "RingGuard$Groups", name := "<init>", desc := "()V" } : Jvm.MethodName) prog_4_method_1_code (1 : Nat) (Option.none : Option Jvm.ClassFile.FieldType)) := rfl
theorem k1_237 : tables_1_1[237]? = some (Jvm.Cond.fieldLink "RingGuard" (26 : Nat) "RingGuard" "tables" "LRingGuard$Tables;") := by decide +kernel
theorem k1_238 : tables_1_1[238]? = some (Jvm.Cond.fieldLink "RingGuard" (35 : Nat) "RingGuard" "protocol" "LRingGuard$Protocol;") := by decide +kernel
theorem k4_113 : tables_1_4[113]? = some (Jvm.Cond.methodLink "RingGuardModel" (1 : Nat) ({ cls := "java/lang/Object", name := "<init>", desc := "()V" } : Jvm.MethodName)) := by decide +kernel
theorem k4_118 : tables_1_4[118]? = some (Jvm.Cond.fieldLink "RingGuardModel" (7 : Nat) "RingGuardModel" "first" "[I") := by decide +kernel
theorem k4_119 : tables_1_4[119]? = some (Jvm.Cond.fieldLink "RingGuardModel" (13 : Nat) "RingGuardModel" "second" "[I") := by decide +kernel
theorem k4_120 : tables_1_4[120]? = some (Jvm.Cond.fieldLink "RingGuardModel" (16 : Nat) "RingGuardModel" "ringOf" "[I") := by decide +kernel
theorem k4_121 : tables_1_4[121]? = some (Jvm.Cond.fieldLink "RingGuardModel" (19 : Nat) "RingGuardModel" "failed" "[Z") := by decide +kernel
theorem k4_122 : tables_1_4[122]? = some (Jvm.Cond.fieldLink "RingGuardModel" (23 : Nat) "RingGuardModel" "failures" "[I") := by decide +kernel
theorem k4_123 : tables_1_4[123]? = some (Jvm.Cond.fieldLink "RingGuardModel" (26 : Nat) "RingGuardModel" "toLose" "[I") := by decide +kernel
theorem k4_124 : tables_1_4[124]? = some (Jvm.Cond.fieldLink "RingGuardModel" (29 : Nat) "RingGuardModel" "hold" "[I") := by decide +kernel
theorem k4_125 : tables_1_4[125]? = some (Jvm.Cond.fieldLink "RingGuardModel" (32 : Nat) "RingGuardModel" "owner" "[I") := by decide +kernel
theorem k4_126 : tables_1_4[126]? = some (Jvm.Cond.fieldLink "RingGuardModel" (35 : Nat) "RingGuardModel" "protection" "[I") := by decide +kernel
theorem k4_127 : tables_1_4[127]? = some (Jvm.Cond.fieldLink "RingGuardModel" (38 : Nat) "RingGuardModel" "isClosed" "[Z") := by decide +kernel
theorem k4_128 : tables_1_4[128]? = some (Jvm.Cond.fieldLink "RingGuardModel" (41 : Nat) "RingGuardModel" "clock" "[I") := by decide +kernel
theorem k4_129 : tables_1_4[129]? = some (Jvm.Cond.fieldLink "RingGuardModel" (44 : Nat) "RingGuardModel" "taken" "[I") := by decide +kernel
theorem k4_130 : tables_1_4[130]? = some (Jvm.Cond.fieldLink "RingGuardModel" (47 : Nat) "RingGuardModel" "portLink" "[I") := by decide +kernel
theorem k4_131 : tables_1_4[131]? = some (Jvm.Cond.fieldLink "RingGuardModel" (50 : Nat) "RingGuardModel" "guard" "[I") := by decide +kernel
theorem k4_132 : tables_1_4[132]? = some (Jvm.Cond.fieldLink "RingGuardModel" (53 : Nat) "RingGuardModel" "phase" "[I") := by decide +kernel
theorem k4_133 : tables_1_4[133]? = some (Jvm.Cond.fieldLink "RingGuardModel" (56 : Nat) "RingGuardModel" "command" "[I") := by decide +kernel
theorem k4_134 : tables_1_4[134]? = some (Jvm.Cond.fieldLink "RingGuardModel" (59 : Nat) "RingGuardModel" "commandLink" "[I") := by decide +kernel
theorem k4_135 : tables_1_4[135]? = some (Jvm.Cond.fieldLink "RingGuardModel" (62 : Nat) "RingGuardModel" "commands" "[I") := by decide +kernel
theorem k4_136 : tables_1_4[136]? = some (Jvm.Cond.fieldLink "RingGuardModel" (65 : Nat) "RingGuardModel" "flushes" "[I") := by decide +kernel
theorem k4_137 : tables_1_4[137]? = some (Jvm.Cond.fieldLink "RingGuardModel" (68 : Nat) "RingGuardModel" "told" "[I") := by decide +kernel
theorem k4_138 : tables_1_4[138]? = some (Jvm.Cond.fieldLink "RingGuardModel" (71 : Nat) "RingGuardModel" "over" "[I") := by decide +kernel
theorem k4_139 : tables_1_4[139]? = some (Jvm.Cond.fieldLink "RingGuardModel" (74 : Nat) "RingGuardModel" "when" "[I") := by decide +kernel
theorem k4_142 : tables_1_4[142]? = some (Jvm.Cond.fieldLink "RingGuardModel" (83 : Nat) "RingGuardModel" "kinds" "[I") := by decide +kernel
theorem k4_143 : tables_1_4[143]? = some (Jvm.Cond.fieldLink "RingGuardModel" (86 : Nat) "RingGuardModel" "sources" "[I") := by decide +kernel
theorem k4_144 : tables_1_4[144]? = some (Jvm.Cond.fieldLink "RingGuardModel" (89 : Nat) "RingGuardModel" "names" "[I") := by decide +kernel
theorem k4_145 : tables_1_4[145]? = some (Jvm.Cond.fieldLink "RingGuardModel" (92 : Nat) "RingGuardModel" "numbers" "[I") := by decide +kernel
theorem k4_146 : tables_1_4[146]? = some (Jvm.Cond.fieldLink "RingGuardModel" (95 : Nat) "RingGuardModel" "comingCount" "[I") := by decide +kernel
theorem k4_147 : tables_1_4[147]? = some (Jvm.Cond.fieldLink "RingGuardModel" (98 : Nat) "RingGuardModel" "comingKinds" "[I") := by decide +kernel
theorem k4_148 : tables_1_4[148]? = some (Jvm.Cond.fieldLink "RingGuardModel" (101 : Nat) "RingGuardModel" "comingSources" "[I") := by decide +kernel
theorem k4_149 : tables_1_4[149]? = some (Jvm.Cond.fieldLink "RingGuardModel" (104 : Nat) "RingGuardModel" "comingNames" "[I") := by decide +kernel
theorem k4_150 : tables_1_4[150]? = some (Jvm.Cond.fieldLink "RingGuardModel" (107 : Nat) "RingGuardModel" "comingNumbers" "[I") := by decide +kernel
theorem k4_158 : tables_1_4[158]? = some (Jvm.Cond.fieldLink "RingGuardModel" (110 : Nat) "RingGuardModel" "group" "[I") := by decide +kernel
theorem k4_159 : tables_1_4[159]? = some (Jvm.Cond.fieldLink "RingGuardModel" (113 : Nat) "RingGuardModel" "degree" "[I") := by decide +kernel
theorem k4_160 : tables_1_4[160]? = some (Jvm.Cond.fieldLink "RingGuardModel" (116 : Nat) "RingGuardModel" "wayBridge" "[I") := by decide +kernel
theorem k4_161 : tables_1_4[161]? = some (Jvm.Cond.fieldLink "RingGuardModel" (119 : Nat) "RingGuardModel" "wayLink" "[I") := by decide +kernel
theorem k4_166 : tables_1_4[166]? = some (Jvm.Cond.fieldLink "RingGuardModel" (122 : Nat) "RingGuardModel" "crossed" "[I") := by decide +kernel
abbrev yTA_init : MethodName := ⟨"RingGuard$Tables", "<init>", "()V"⟩
abbrev bTA_init : ByteArray := prog_7_method_1_code
abbrev yRG_init : MethodName := ⟨"RingGuard", "<init>", "()V"⟩
abbrev bRG_init : ByteArray := prog_1_method_1_code
abbrev yMO_init : MethodName := ⟨"RingGuardModel", "<init>", "()V"⟩
abbrev bMO_init : ByteArray := prog_10_method_1_code
theorem dRG_init_0 : decode bRG_init 0 = .ok (.aload_n 0, 1) := by decide +kernel
theorem dRG_init_1 : decode bRG_init 1 = .ok (.invokespecial 3, 3) := by decide +kernel
theorem dRG_init_4 : decode bRG_init 4 = .ok (.aload_n 0, 1) := by decide +kernel
theorem dRG_init_5 : decode bRG_init 5 = .ok (.new 9, 3) := by decide +kernel
theorem dRG_init_8 : decode bRG_init 8 = .ok (.dup, 1) := by decide +kernel
theorem dRG_init_9 : decode bRG_init 9 = .ok (.invokespecial 11, 3) := by decide +kernel
theorem dRG_init_12 : decode bRG_init 12 = .ok (.putfield 12, 3) := by decide +kernel
theorem dRG_init_15 : decode bRG_init 15 = .ok (.aload_n 0, 1) := by decide +kernel
theorem dRG_init_16 : decode bRG_init 16 = .ok (.new 16, 3) := by decide +kernel
theorem dRG_init_19 : decode bRG_init 19 = .ok (.dup, 1) := by decide +kernel
theorem dRG_init_20 : decode bRG_init 20 = .ok (.invokespecial 18, 3) := by decide +kernel
theorem dRG_init_23 : decode bRG_init 23 = .ok (.putfield 19, 3) := by decide +kernel
theorem dRG_init_26 : decode bRG_init 26 = .ok (.aload_n 0, 1) := by decide +kernel
theorem dRG_init_27 : decode bRG_init 27 = .ok (.new 23, 3) := by decide +kernel
theorem dRG_init_30 : decode bRG_init 30 = .ok (.dup, 1) := by decide +kernel
theorem dRG_init_31 : decode bRG_init 31 = .ok (.invokespecial 25, 3) := by decide +kernel
theorem dRG_init_34 : decode bRG_init 34 = .ok (.putfield 26, 3) := by decide +kernel
theorem dRG_init_37 : decode bRG_init 37 = .ok (.aload_n 0, 1) := by decide +kernel
theorem dRG_init_38 : decode bRG_init 38 = .ok (.new 30, 3) := by decide +kernel
theorem dRG_init_41 : decode bRG_init 41 = .ok (.dup, 1) := by decide +kernel
theorem dRG_init_42 : decode bRG_init 42 = .ok (.aload_n 0, 1) := by decide +kernel
theorem dRG_init_43 : decode bRG_init 43 = .ok (.getfield 12, 3) := by decide +kernel
theorem dRG_init_46 : decode bRG_init 46 = .ok (.aload_n 0, 1) := by decide +kernel
theorem dRG_init_47 : decode bRG_init 47 = .ok (.getfield 19, 3) := by decide +kernel
theorem dRG_init_50 : decode bRG_init 50 = .ok (.aload_n 0, 1) := by decide +kernel
theorem dRG_init_51 : decode bRG_init 51 = .ok (.getfield 26, 3) := by decide +kernel
theorem dRG_init_54 : decode bRG_init 54 = .ok (.invokespecial 32, 3) := by decide +kernel
theorem dRG_init_57 : decode bRG_init 57 = .ok (.putfield 35, 3) := by decide +kernel
theorem dRG_init_60 : decode bRG_init 60 = .ok (.aload_n 0, 1) := by decide +kernel
theorem dRG_init_61 : decode bRG_init 61 = .ok (.new 39, 3) := by decide +kernel
theorem dRG_init_64 : decode bRG_init 64 = .ok (.dup, 1) := by decide +kernel
theorem dRG_init_65 : decode bRG_init 65 = .ok (.aload_n 0, 1) := by decide +kernel
theorem dRG_init_66 : decode bRG_init 66 = .ok (.getfield 12, 3) := by decide +kernel
theorem dRG_init_69 : decode bRG_init 69 = .ok (.aload_n 0, 1) := by decide +kernel
theorem dRG_init_70 : decode bRG_init 70 = .ok (.getfield 35, 3) := by decide +kernel
theorem dRG_init_73 : decode bRG_init 73 = .ok (.aload_n 0, 1) := by decide +kernel
theorem dRG_init_74 : decode bRG_init 74 = .ok (.getfield 26, 3) := by decide +kernel
theorem dRG_init_77 : decode bRG_init 77 = .ok (.invokespecial 41, 3) := by decide +kernel
theorem dRG_init_80 : decode bRG_init 80 = .ok (.putfield 44, 3) := by decide +kernel
theorem dRG_init_83 : decode bRG_init 83 = .ok (.aload_n 0, 1) := by decide +kernel
theorem dRG_init_84 : decode bRG_init 84 = .ok (.new 48, 3) := by decide +kernel
theorem dRG_init_87 : decode bRG_init 87 = .ok (.dup, 1) := by decide +kernel
theorem dRG_init_88 : decode bRG_init 88 = .ok (.invokespecial 50, 3) := by decide +kernel
theorem dRG_init_91 : decode bRG_init 91 = .ok (.putfield 51, 3) := by decide +kernel
theorem dRG_init_94 : decode bRG_init 94 = .ok (.return_, 1) := by decide +kernel
theorem dTA_init_0 : decode bTA_init 0 = .ok (.aload_n 0, 1) := by decide +kernel
theorem dTA_init_1 : decode bTA_init 1 = .ok (.invokespecial 3, 3) := by decide +kernel
theorem dTA_init_4 : decode bTA_init 4 = .ok (.aload_n 0, 1) := by decide +kernel
theorem dTA_init_5 : decode bTA_init 5 = .ok (.bipush 48, 2) := by decide +kernel
theorem dTA_init_7 : decode bTA_init 7 = .ok (.sipush 256, 3) := by decide +kernel
theorem dTA_init_10 : decode bTA_init 10 = .ok (.multianewarray 9 2, 4) := by decide +kernel
theorem dTA_init_14 : decode bTA_init 14 = .ok (.putfield 11, 3) := by decide +kernel
theorem dTA_init_17 : decode bTA_init 17 = .ok (.iconst 0, 1) := by decide +kernel
theorem dTA_init_18 : decode bTA_init 18 = .ok (.istore_n 1, 1) := by decide +kernel
theorem dTA_init_19 : decode bTA_init 19 = .ok (.iload_n 1, 1) := by decide +kernel
theorem dTA_init_20 : decode bTA_init 20 = .ok (.bipush 48, 2) := by decide +kernel
theorem dTA_init_22 : decode bTA_init 22 = .ok (.if_icmp .ge 19, 3) := by decide +kernel
theorem dTA_init_25 : decode bTA_init 25 = .ok (.aload_n 0, 1) := by decide +kernel
theorem dTA_init_26 : decode bTA_init 26 = .ok (.getfield 11, 3) := by decide +kernel
theorem dTA_init_29 : decode bTA_init 29 = .ok (.iload_n 1, 1) := by decide +kernel
theorem dTA_init_30 : decode bTA_init 30 = .ok (.aaload, 1) := by decide +kernel
theorem dTA_init_31 : decode bTA_init 31 = .ok (.iconst (-1), 1) := by decide +kernel
theorem dTA_init_32 : decode bTA_init 32 = .ok (.invokestatic 16, 3) := by decide +kernel
theorem dTA_init_35 : decode bTA_init 35 = .ok (.iinc 1 1, 3) := by decide +kernel
theorem dTA_init_38 : decode bTA_init 38 = .ok (.goto (-19), 3) := by decide +kernel
theorem dTA_init_41 : decode bTA_init 41 = .ok (.return_, 1) := by decide +kernel
theorem dMO_init_0 : decode bMO_init 0 = .ok (.aload_n 0, 1) := by decide +kernel
theorem dMO_init_1 : decode bMO_init 1 = .ok (.invokespecial 1, 3) := by decide +kernel
theorem dMO_init_4 : decode bMO_init 4 = .ok (.aload_n 0, 1) := by decide +kernel
theorem dMO_init_5 : decode bMO_init 5 = .ok (.bipush 60, 2) := by decide +kernel
theorem dMO_init_7 : decode bMO_init 7 = .ok (.newarray .int, 2) := by decide +kernel
theorem dMO_init_9 : decode bMO_init 9 = .ok (.putfield 7, 3) := by decide +kernel
theorem dMO_init_12 : decode bMO_init 12 = .ok (.aload_n 0, 1) := by decide +kernel
theorem dMO_init_13 : decode bMO_init 13 = .ok (.bipush 60, 2) := by decide +kernel
theorem dMO_init_15 : decode bMO_init 15 = .ok (.newarray .int, 2) := by decide +kernel
theorem dMO_init_17 : decode bMO_init 17 = .ok (.putfield 13, 3) := by decide +kernel
theorem dMO_init_20 : decode bMO_init 20 = .ok (.aload_n 0, 1) := by decide +kernel
theorem dMO_init_21 : decode bMO_init 21 = .ok (.bipush 60, 2) := by decide +kernel
theorem dMO_init_23 : decode bMO_init 23 = .ok (.newarray .int, 2) := by decide +kernel
theorem dMO_init_25 : decode bMO_init 25 = .ok (.putfield 16, 3) := by decide +kernel
theorem dMO_init_28 : decode bMO_init 28 = .ok (.aload_n 0, 1) := by decide +kernel
theorem dMO_init_29 : decode bMO_init 29 = .ok (.bipush 60, 2) := by decide +kernel
theorem dMO_init_31 : decode bMO_init 31 = .ok (.newarray .boolean, 2) := by decide +kernel
theorem dMO_init_33 : decode bMO_init 33 = .ok (.putfield 19, 3) := by decide +kernel
theorem dMO_init_36 : decode bMO_init 36 = .ok (.aload_n 0, 1) := by decide +kernel
theorem dMO_init_37 : decode bMO_init 37 = .ok (.bipush 60, 2) := by decide +kernel
theorem dMO_init_39 : decode bMO_init 39 = .ok (.newarray .int, 2) := by decide +kernel
theorem dMO_init_41 : decode bMO_init 41 = .ok (.putfield 23, 3) := by decide +kernel
theorem dMO_init_44 : decode bMO_init 44 = .ok (.aload_n 0, 1) := by decide +kernel
theorem dMO_init_45 : decode bMO_init 45 = .ok (.bipush 60, 2) := by decide +kernel
theorem dMO_init_47 : decode bMO_init 47 = .ok (.newarray .int, 2) := by decide +kernel
theorem dMO_init_49 : decode bMO_init 49 = .ok (.putfield 26, 3) := by decide +kernel
theorem dMO_init_52 : decode bMO_init 52 = .ok (.aload_n 0, 1) := by decide +kernel
theorem dMO_init_53 : decode bMO_init 53 = .ok (.bipush 120, 2) := by decide +kernel
theorem dMO_init_55 : decode bMO_init 55 = .ok (.newarray .int, 2) := by decide +kernel
theorem dMO_init_57 : decode bMO_init 57 = .ok (.putfield 29, 3) := by decide +kernel
theorem dMO_init_60 : decode bMO_init 60 = .ok (.aload_n 0, 1) := by decide +kernel
theorem dMO_init_61 : decode bMO_init 61 = .ok (.bipush 6, 2) := by decide +kernel
theorem dMO_init_63 : decode bMO_init 63 = .ok (.newarray .int, 2) := by decide +kernel
theorem dMO_init_65 : decode bMO_init 65 = .ok (.putfield 32, 3) := by decide +kernel
theorem dMO_init_68 : decode bMO_init 68 = .ok (.aload_n 0, 1) := by decide +kernel
theorem dMO_init_69 : decode bMO_init 69 = .ok (.bipush 6, 2) := by decide +kernel
theorem dMO_init_71 : decode bMO_init 71 = .ok (.newarray .int, 2) := by decide +kernel
theorem dMO_init_73 : decode bMO_init 73 = .ok (.putfield 35, 3) := by decide +kernel
theorem dMO_init_76 : decode bMO_init 76 = .ok (.aload_n 0, 1) := by decide +kernel
theorem dMO_init_77 : decode bMO_init 77 = .ok (.bipush 6, 2) := by decide +kernel
theorem dMO_init_79 : decode bMO_init 79 = .ok (.newarray .boolean, 2) := by decide +kernel
theorem dMO_init_81 : decode bMO_init 81 = .ok (.putfield 38, 3) := by decide +kernel
theorem dMO_init_84 : decode bMO_init 84 = .ok (.aload_n 0, 1) := by decide +kernel
theorem dMO_init_85 : decode bMO_init 85 = .ok (.bipush 6, 2) := by decide +kernel
theorem dMO_init_87 : decode bMO_init 87 = .ok (.newarray .int, 2) := by decide +kernel
theorem dMO_init_89 : decode bMO_init 89 = .ok (.putfield 41, 3) := by decide +kernel
theorem dMO_init_92 : decode bMO_init 92 = .ok (.aload_n 0, 1) := by decide +kernel
theorem dMO_init_93 : decode bMO_init 93 = .ok (.bipush 6, 2) := by decide +kernel
theorem dMO_init_95 : decode bMO_init 95 = .ok (.newarray .int, 2) := by decide +kernel
theorem dMO_init_97 : decode bMO_init 97 = .ok (.putfield 44, 3) := by decide +kernel
theorem dMO_init_100 : decode bMO_init 100 = .ok (.aload_n 0, 1) := by decide +kernel
theorem dMO_init_101 : decode bMO_init 101 = .ok (.sipush 576, 3) := by decide +kernel
theorem dMO_init_104 : decode bMO_init 104 = .ok (.newarray .int, 2) := by decide +kernel
theorem dMO_init_106 : decode bMO_init 106 = .ok (.putfield 47, 3) := by decide +kernel
theorem dMO_init_109 : decode bMO_init 109 = .ok (.aload_n 0, 1) := by decide +kernel
theorem dMO_init_110 : decode bMO_init 110 = .ok (.sipush 288, 3) := by decide +kernel
theorem dMO_init_113 : decode bMO_init 113 = .ok (.newarray .int, 2) := by decide +kernel
theorem dMO_init_115 : decode bMO_init 115 = .ok (.putfield 50, 3) := by decide +kernel
theorem dMO_init_118 : decode bMO_init 118 = .ok (.aload_n 0, 1) := by decide +kernel
theorem dMO_init_119 : decode bMO_init 119 = .ok (.sipush 288, 3) := by decide +kernel
theorem dMO_init_122 : decode bMO_init 122 = .ok (.newarray .int, 2) := by decide +kernel
theorem dMO_init_124 : decode bMO_init 124 = .ok (.putfield 53, 3) := by decide +kernel
theorem dMO_init_127 : decode bMO_init 127 = .ok (.aload_n 0, 1) := by decide +kernel
theorem dMO_init_128 : decode bMO_init 128 = .ok (.sipush 288, 3) := by decide +kernel
theorem dMO_init_131 : decode bMO_init 131 = .ok (.newarray .int, 2) := by decide +kernel
theorem dMO_init_133 : decode bMO_init 133 = .ok (.putfield 56, 3) := by decide +kernel
theorem dMO_init_136 : decode bMO_init 136 = .ok (.aload_n 0, 1) := by decide +kernel
theorem dMO_init_137 : decode bMO_init 137 = .ok (.sipush 288, 3) := by decide +kernel
theorem dMO_init_140 : decode bMO_init 140 = .ok (.newarray .int, 2) := by decide +kernel
theorem dMO_init_142 : decode bMO_init 142 = .ok (.putfield 59, 3) := by decide +kernel
theorem dMO_init_145 : decode bMO_init 145 = .ok (.aload_n 0, 1) := by decide +kernel
theorem dMO_init_146 : decode bMO_init 146 = .ok (.bipush 48, 2) := by decide +kernel
theorem dMO_init_148 : decode bMO_init 148 = .ok (.newarray .int, 2) := by decide +kernel
theorem dMO_init_150 : decode bMO_init 150 = .ok (.putfield 62, 3) := by decide +kernel
theorem dMO_init_153 : decode bMO_init 153 = .ok (.aload_n 0, 1) := by decide +kernel
theorem dMO_init_154 : decode bMO_init 154 = .ok (.bipush 48, 2) := by decide +kernel
theorem dMO_init_156 : decode bMO_init 156 = .ok (.newarray .int, 2) := by decide +kernel
theorem dMO_init_158 : decode bMO_init 158 = .ok (.putfield 65, 3) := by decide +kernel
theorem dMO_init_161 : decode bMO_init 161 = .ok (.aload_n 0, 1) := by decide +kernel
theorem dMO_init_162 : decode bMO_init 162 = .ok (.sipush 5472, 3) := by decide +kernel
theorem dMO_init_165 : decode bMO_init 165 = .ok (.newarray .int, 2) := by decide +kernel
theorem dMO_init_167 : decode bMO_init 167 = .ok (.putfield 68, 3) := by decide +kernel
theorem dMO_init_170 : decode bMO_init 170 = .ok (.aload_n 0, 1) := by decide +kernel
theorem dMO_init_171 : decode bMO_init 171 = .ok (.sipush 12288, 3) := by decide +kernel
theorem dMO_init_174 : decode bMO_init 174 = .ok (.newarray .int, 2) := by decide +kernel
theorem dMO_init_176 : decode bMO_init 176 = .ok (.putfield 71, 3) := by decide +kernel
theorem dMO_init_179 : decode bMO_init 179 = .ok (.aload_n 0, 1) := by decide +kernel
theorem dMO_init_180 : decode bMO_init 180 = .ok (.sipush 12288, 3) := by decide +kernel
theorem dMO_init_183 : decode bMO_init 183 = .ok (.newarray .int, 2) := by decide +kernel
theorem dMO_init_185 : decode bMO_init 185 = .ok (.putfield 74, 3) := by decide +kernel
theorem dMO_init_188 : decode bMO_init 188 = .ok (.aload_n 0, 1) := by decide +kernel
theorem dMO_init_189 : decode bMO_init 189 = .ok (.bipush 64, 2) := by decide +kernel
theorem dMO_init_191 : decode bMO_init 191 = .ok (.newarray .int, 2) := by decide +kernel
theorem dMO_init_193 : decode bMO_init 193 = .ok (.putfield 77, 3) := by decide +kernel
theorem dMO_init_196 : decode bMO_init 196 = .ok (.aload_n 0, 1) := by decide +kernel
theorem dMO_init_197 : decode bMO_init 197 = .ok (.bipush 120, 2) := by decide +kernel
theorem dMO_init_199 : decode bMO_init 199 = .ok (.newarray .int, 2) := by decide +kernel
theorem dMO_init_201 : decode bMO_init 201 = .ok (.putfield 80, 3) := by decide +kernel
theorem dMO_init_204 : decode bMO_init 204 = .ok (.aload_n 0, 1) := by decide +kernel
theorem dMO_init_205 : decode bMO_init 205 = .ok (.sipush 7680, 3) := by decide +kernel
theorem dMO_init_208 : decode bMO_init 208 = .ok (.newarray .int, 2) := by decide +kernel
theorem dMO_init_210 : decode bMO_init 210 = .ok (.putfield 83, 3) := by decide +kernel
theorem dMO_init_213 : decode bMO_init 213 = .ok (.aload_n 0, 1) := by decide +kernel
theorem dMO_init_214 : decode bMO_init 214 = .ok (.sipush 7680, 3) := by decide +kernel
theorem dMO_init_217 : decode bMO_init 217 = .ok (.newarray .int, 2) := by decide +kernel
theorem dMO_init_219 : decode bMO_init 219 = .ok (.putfield 86, 3) := by decide +kernel
theorem dMO_init_222 : decode bMO_init 222 = .ok (.aload_n 0, 1) := by decide +kernel
theorem dMO_init_223 : decode bMO_init 223 = .ok (.sipush 7680, 3) := by decide +kernel
theorem dMO_init_226 : decode bMO_init 226 = .ok (.newarray .int, 2) := by decide +kernel
theorem dMO_init_228 : decode bMO_init 228 = .ok (.putfield 89, 3) := by decide +kernel
theorem dMO_init_231 : decode bMO_init 231 = .ok (.aload_n 0, 1) := by decide +kernel
theorem dMO_init_232 : decode bMO_init 232 = .ok (.sipush 7680, 3) := by decide +kernel
theorem dMO_init_235 : decode bMO_init 235 = .ok (.newarray .int, 2) := by decide +kernel
theorem dMO_init_237 : decode bMO_init 237 = .ok (.putfield 92, 3) := by decide +kernel
theorem dMO_init_240 : decode bMO_init 240 = .ok (.aload_n 0, 1) := by decide +kernel
theorem dMO_init_241 : decode bMO_init 241 = .ok (.bipush 120, 2) := by decide +kernel
theorem dMO_init_243 : decode bMO_init 243 = .ok (.newarray .int, 2) := by decide +kernel
theorem dMO_init_245 : decode bMO_init 245 = .ok (.putfield 95, 3) := by decide +kernel
theorem dMO_init_248 : decode bMO_init 248 = .ok (.aload_n 0, 1) := by decide +kernel
theorem dMO_init_249 : decode bMO_init 249 = .ok (.sipush 7680, 3) := by decide +kernel
theorem dMO_init_252 : decode bMO_init 252 = .ok (.newarray .int, 2) := by decide +kernel
theorem dMO_init_254 : decode bMO_init 254 = .ok (.putfield 98, 3) := by decide +kernel
theorem dMO_init_257 : decode bMO_init 257 = .ok (.aload_n 0, 1) := by decide +kernel
theorem dMO_init_258 : decode bMO_init 258 = .ok (.sipush 7680, 3) := by decide +kernel
theorem dMO_init_261 : decode bMO_init 261 = .ok (.newarray .int, 2) := by decide +kernel
theorem dMO_init_263 : decode bMO_init 263 = .ok (.putfield 101, 3) := by decide +kernel
theorem dMO_init_266 : decode bMO_init 266 = .ok (.aload_n 0, 1) := by decide +kernel
theorem dMO_init_267 : decode bMO_init 267 = .ok (.sipush 7680, 3) := by decide +kernel
theorem dMO_init_270 : decode bMO_init 270 = .ok (.newarray .int, 2) := by decide +kernel
theorem dMO_init_272 : decode bMO_init 272 = .ok (.putfield 104, 3) := by decide +kernel
theorem dMO_init_275 : decode bMO_init 275 = .ok (.aload_n 0, 1) := by decide +kernel
theorem dMO_init_276 : decode bMO_init 276 = .ok (.sipush 7680, 3) := by decide +kernel
theorem dMO_init_279 : decode bMO_init 279 = .ok (.newarray .int, 2) := by decide +kernel
theorem dMO_init_281 : decode bMO_init 281 = .ok (.putfield 107, 3) := by decide +kernel
theorem dMO_init_284 : decode bMO_init 284 = .ok (.aload_n 0, 1) := by decide +kernel
theorem dMO_init_285 : decode bMO_init 285 = .ok (.bipush 48, 2) := by decide +kernel
theorem dMO_init_287 : decode bMO_init 287 = .ok (.newarray .int, 2) := by decide +kernel
theorem dMO_init_289 : decode bMO_init 289 = .ok (.putfield 110, 3) := by decide +kernel
theorem dMO_init_292 : decode bMO_init 292 = .ok (.aload_n 0, 1) := by decide +kernel
theorem dMO_init_293 : decode bMO_init 293 = .ok (.bipush 48, 2) := by decide +kernel
theorem dMO_init_295 : decode bMO_init 295 = .ok (.newarray .int, 2) := by decide +kernel
theorem dMO_init_297 : decode bMO_init 297 = .ok (.putfield 113, 3) := by decide +kernel
theorem dMO_init_300 : decode bMO_init 300 = .ok (.aload_n 0, 1) := by decide +kernel
theorem dMO_init_301 : decode bMO_init 301 = .ok (.sipush 4096, 3) := by decide +kernel
theorem dMO_init_304 : decode bMO_init 304 = .ok (.newarray .int, 2) := by decide +kernel
theorem dMO_init_306 : decode bMO_init 306 = .ok (.putfield 116, 3) := by decide +kernel
theorem dMO_init_309 : decode bMO_init 309 = .ok (.aload_n 0, 1) := by decide +kernel
theorem dMO_init_310 : decode bMO_init 310 = .ok (.sipush 4096, 3) := by decide +kernel
theorem dMO_init_313 : decode bMO_init 313 = .ok (.newarray .int, 2) := by decide +kernel
theorem dMO_init_315 : decode bMO_init 315 = .ok (.putfield 119, 3) := by decide +kernel
theorem dMO_init_318 : decode bMO_init 318 = .ok (.aload_n 0, 1) := by decide +kernel
theorem dMO_init_319 : decode bMO_init 319 = .ok (.bipush 120, 2) := by decide +kernel
theorem dMO_init_321 : decode bMO_init 321 = .ok (.newarray .int, 2) := by decide +kernel
theorem dMO_init_323 : decode bMO_init 323 = .ok (.putfield 122, 3) := by decide +kernel
theorem dMO_init_326 : decode bMO_init 326 = .ok (.iconst 0, 1) := by decide +kernel
theorem dMO_init_327 : decode bMO_init 327 = .ok (.istore_n 1, 1) := by decide +kernel
theorem dMO_init_328 : decode bMO_init 328 = .ok (.iload_n 1, 1) := by decide +kernel
theorem dMO_init_329 : decode bMO_init 329 = .ok (.bipush 6, 2) := by decide +kernel
theorem dMO_init_331 : decode bMO_init 331 = .ok (.if_icmp .ge 23, 3) := by decide +kernel
theorem dMO_init_334 : decode bMO_init 334 = .ok (.aload_n 0, 1) := by decide +kernel
theorem dMO_init_335 : decode bMO_init 335 = .ok (.getfield 32, 3) := by decide +kernel
theorem dMO_init_338 : decode bMO_init 338 = .ok (.iload_n 1, 1) := by decide +kernel
theorem dMO_init_339 : decode bMO_init 339 = .ok (.iconst (-1), 1) := by decide +kernel
theorem dMO_init_340 : decode bMO_init 340 = .ok (.iastore, 1) := by decide +kernel
theorem dMO_init_341 : decode bMO_init 341 = .ok (.aload_n 0, 1) := by decide +kernel
theorem dMO_init_342 : decode bMO_init 342 = .ok (.getfield 35, 3) := by decide +kernel
theorem dMO_init_345 : decode bMO_init 345 = .ok (.iload_n 1, 1) := by decide +kernel
theorem dMO_init_346 : decode bMO_init 346 = .ok (.iconst (-1), 1) := by decide +kernel
theorem dMO_init_347 : decode bMO_init 347 = .ok (.iastore, 1) := by decide +kernel
theorem dMO_init_348 : decode bMO_init 348 = .ok (.iinc 1 1, 3) := by decide +kernel
theorem dMO_init_351 : decode bMO_init 351 = .ok (.goto (-23), 3) := by decide +kernel
theorem dMO_init_354 : decode bMO_init 354 = .ok (.iconst 0, 1) := by decide +kernel
theorem dMO_init_355 : decode bMO_init 355 = .ok (.istore_n 1, 1) := by decide +kernel
theorem dMO_init_356 : decode bMO_init 356 = .ok (.iload_n 1, 1) := by decide +kernel
theorem dMO_init_357 : decode bMO_init 357 = .ok (.sipush 576, 3) := by decide +kernel
theorem dMO_init_360 : decode bMO_init 360 = .ok (.if_icmp .ge 16, 3) := by decide +kernel
theorem dMO_init_363 : decode bMO_init 363 = .ok (.aload_n 0, 1) := by decide +kernel
theorem dMO_init_364 : decode bMO_init 364 = .ok (.getfield 47, 3) := by decide +kernel
theorem dMO_init_367 : decode bMO_init 367 = .ok (.iload_n 1, 1) := by decide +kernel
theorem dMO_init_368 : decode bMO_init 368 = .ok (.iconst (-1), 1) := by decide +kernel
theorem dMO_init_369 : decode bMO_init 369 = .ok (.iastore, 1) := by decide +kernel
theorem dMO_init_370 : decode bMO_init 370 = .ok (.iinc 1 1, 3) := by decide +kernel
theorem dMO_init_373 : decode bMO_init 373 = .ok (.goto (-17), 3) := by decide +kernel
theorem dMO_init_376 : decode bMO_init 376 = .ok (.iconst 0, 1) := by decide +kernel
theorem dMO_init_377 : decode bMO_init 377 = .ok (.istore_n 1, 1) := by decide +kernel
theorem dMO_init_378 : decode bMO_init 378 = .ok (.iload_n 1, 1) := by decide +kernel
theorem dMO_init_379 : decode bMO_init 379 = .ok (.bipush 64, 2) := by decide +kernel
theorem dMO_init_381 : decode bMO_init 381 = .ok (.if_icmp .ge 16, 3) := by decide +kernel
theorem dMO_init_384 : decode bMO_init 384 = .ok (.aload_n 0, 1) := by decide +kernel
theorem dMO_init_385 : decode bMO_init 385 = .ok (.getfield 77, 3) := by decide +kernel
theorem dMO_init_388 : decode bMO_init 388 = .ok (.iload_n 1, 1) := by decide +kernel
theorem dMO_init_389 : decode bMO_init 389 = .ok (.iconst (-1), 1) := by decide +kernel
theorem dMO_init_390 : decode bMO_init 390 = .ok (.iastore, 1) := by decide +kernel
theorem dMO_init_391 : decode bMO_init 391 = .ok (.iinc 1 1, 3) := by decide +kernel
theorem dMO_init_394 : decode bMO_init 394 = .ok (.goto (-16), 3) := by decide +kernel
theorem dMO_init_397 : decode bMO_init 397 = .ok (.iconst 0, 1) := by decide +kernel
theorem dMO_init_398 : decode bMO_init 398 = .ok (.istore_n 1, 1) := by decide +kernel
theorem dMO_init_399 : decode bMO_init 399 = .ok (.iload_n 1, 1) := by decide +kernel
theorem dMO_init_400 : decode bMO_init 400 = .ok (.sipush 12288, 3) := by decide +kernel
theorem dMO_init_403 : decode bMO_init 403 = .ok (.if_icmp .ge 16, 3) := by decide +kernel
theorem dMO_init_406 : decode bMO_init 406 = .ok (.aload_n 0, 1) := by decide +kernel
theorem dMO_init_407 : decode bMO_init 407 = .ok (.getfield 71, 3) := by decide +kernel
theorem dMO_init_410 : decode bMO_init 410 = .ok (.iload_n 1, 1) := by decide +kernel
theorem dMO_init_411 : decode bMO_init 411 = .ok (.iconst (-1), 1) := by decide +kernel
theorem dMO_init_412 : decode bMO_init 412 = .ok (.iastore, 1) := by decide +kernel
theorem dMO_init_413 : decode bMO_init 413 = .ok (.iinc 1 1, 3) := by decide +kernel
theorem dMO_init_416 : decode bMO_init 416 = .ok (.goto (-17), 3) := by decide +kernel
theorem dMO_init_419 : decode bMO_init 419 = .ok (.return_, 1) := by decide +kernel
end
section
/-! Tables(): 48 rows of 256 ints, made by one instruction, each filled -/
def zrows (cI q : Nat) (F : Nat → Nat → Int32) : va_W := (List.range 48).map (fun j => (q + 1 + j, .inl (cI, 256, .inl (F j))))
def ztw (h q cA cI : Nat) (F : Nat → Nat → Int32) : va_W := (h, .inr (3, [.ref q])) :: (q, .inl (cA, 48, .inr (.inr (.inr (.inr (fun j => some (q + 1 + j))))))) :: zrows cI q F
theorem zrows_get {cI q j : Nat} {F : Nat → Nat → Int32} (hj : j < 48) : (zrows cI q F)[j]? = some (q + 1 + j, .inl (cI, 256, .inl (F j))) := by
  unfold zrows
  rw [List.getElem?_map, List.getElem?_range hj]
  rfl
theorem zrows_of {cI q j : Nat} {F : Nat → Nat → Int32} {x : Nat × va_E} (hx : (zrows cI q F)[j]? = some x) : j < 48 ∧ x = (q + 1 + j, .inl (cI, 256, .inl (F j))) := by
  have hl : j < (zrows cI q F).length := (List.getElem?_eq_some_iff.mp hx).1
  have hj : j < 48 := by simpa [zrows] using hl
  rw [zrows_get hj] at hx
  exact ⟨hj, (Option.some.inj hx).symm⟩
/-- the world out of its three kinds of cells -/
theorem ztw_P {D : va_G} {h q cA cI : Nat} {F : Nat → Nat → Int32} {H : Heap} (h0 : va_P D zCl [(h, .inr (3, [.ref q]))] H) (h1 : H[q]? = some (vp_cell cA (48, .inr (.inr (.inr (.inr (fun j => some (q + 1 + j)))))))) (h2 : ∀ j, j < 48 → H[q + 1 + j]? = some (vp_cell cI (256, .inl (F j)))) : va_P D zCl (ztw h q cA cI F) H := by
  intro k x hx
  match k, hx with
  | 0, hx => exact h0 0 x hx
  | 1, hx => cases hx; exact h1
  | k + 2, hx =>
    obtain ⟨hj, rfl⟩ := zrows_of (show (zrows cI q F)[k]? = some x from hx)
    exact h2 k hj
theorem ztw_D {A : Nat → Prop} {h q cA cI : Nat} {F : Nat → Nat → Int32} (hh : h < q) (hAh : A h) (hA : ∀ x, q ≤ x → A x) : va_D A (ztw h q cA cI F) := by
  have ad : ∀ (k : Nat) (x : Nat × va_E), (ztw h q cA cI F)[k]? = some x → (k = 0 ∧ x.1 = h) ∨ (1 ≤ k ∧ x.1 = q + (k - 1)) := by
    intro k x hx
    match k, hx with
    | 0, hx => cases hx; exact Or.inl ⟨rfl, rfl⟩
    | 1, hx => cases hx; exact Or.inr ⟨by omega, rfl⟩
    | k + 2, hx =>
      obtain ⟨hj, rfl⟩ := zrows_of (show (zrows cI q F)[k]? = some x from hx)
      exact Or.inr ⟨by omega, by show q + 1 + k = q + (k + 2 - 1); omega⟩
  refine ⟨fun i j x y hi hj hxy => ?_, fun k x hx => ?_⟩
  · rcases ad i x hi with ⟨a1, a2⟩ | ⟨a1, a2⟩ <;> rcases ad j y hj with ⟨b1, b2⟩ | ⟨b1, b2⟩ <;> omega
  · rcases ad k x hx with ⟨a1, a2⟩ | ⟨a1, a2⟩
    · rw [a2]; exact hAh
    · rw [a2]; exact hA _ (by omega)
set_option maxHeartbeats 1000000 in
set_option maxRecDepth 100000 in
theorem zc_Tables (l : Launch) (dC : Nat → ClassId) (dI : Nat → Nat → Nat) (cI cZ cJ : ClassId) (a0 : Array Value) (s0 : State) (h sz : Nat) : Met l yTA_init [Cond.code yTA_init bTA_init 2 none] ({ frames := 1, cells := 49, slots := 12336, locals := 23 } : Room) (zP zCl dC dI (zTY cI cZ cJ) a0 s0 [.ref h] sz [(h, .inr (3, [.null]))]) (zQv zCl dC dI [] (va_A [(h, .inr (3, [.null]))] sz)) 49 12336 (va_A [(h, .inr (3, [.null]))] sz) := by
  refine Met.ofW (cc := bTA_init) (maxL := 2) (ret := none) (by decide) rfl ?_
  intro p e s m args below meth c s₁ B hml hv
  obtain ⟨rfl, hsz, hP, hK, hD0, hB⟩ := hv
  have hx := B.exec
  have hb := B.bytes
  have hr := B.returns
  have hown : s.vm.findClass "RingGuard$Tables" = some m.cls := findClass_of_methodNamed B.named
  have hlocks := B.notSynchronized
  have hin : meth.name = "<init>" := (name_of_methodNamed B.named B.method).1
  subst hsz
  have hD := hD0.self (sz := s.heap.size)
  have hA0 := zA0 hD0 hB
  generalize hAe : va_A [(h, .inr (3, [.null]))] s.heap.size = A at hD hA0 ⊢
  have hAD := hA0
  have hA : ∀ q : Nat, s.heap.size ≤ q → A q := fun q h => by rw [← hAe]; exact Or.inr h
  have hS : va_S A s.heap s.heap [] := va_S.rf
  have hP : va_P (dC, dI) zCl [(h, .inr (3, [.null]))] s.heap := hP
  have hhlt : h < s.heap.size := (hP 0 _ rfl).lt
  have hAh : A h := hD.2 0 _ rfl
  have hl := lv_entry ([.ref h]) (n := 2) (Nat.le_of_ble_eq_true rfl)
  rw [lg_entry_eq]
  generalize (lg_sl ([.ref h]) ++ List.replicate (2 - (lg_sl ([.ref h])).length) Slot.unset).toArray = ls at hl ⊢
  have hl : lv_has ls 2 [(0, .ref h)] := hl
  have hu3 : ∀ w ∈ u_ws "RingGuard$Tables" T_TA 1, w.before ([.ref h] : List Value).toArray s = true := hB.words zU_TA
  refine lv_aload_n hx hb dTA_init_0 rfl (lv_at hl 0 rfl) ?_
  refine W.objInit hx hb hown (hB.word (zm1 k1_116) rfl) (hB.word (zm1 k1_23) rfl) (hB.word (zm1 k1_24) rfl) rfl (by rw [hml]; exact hl.1) rfl dTA_init_1 (Nat.le_of_ble_eq_true rfl) (Nat.le_of_ble_eq_true rfl) ?_
  refine W.eq (g2 := F0 m 4 ls []) rfl ?_
  refine lv_aload_n hx hb dTA_init_4 rfl (lv_at hl 0 rfl) ?_
  refine lv_bipush (v := 48) hx hb dTA_init_5 (by decide) ?_
  refine lv_sipush (v := 256) hx hb dTA_init_7 (by decide) ?_
  refine mz_new (N := 48) (M := 256) hx hb hown (hB.word (zm1 k1_117) rfl) (zover hB (zm1 k1_118)) (zac_int hB) (by decide) (by decide) (by decide) (by decide) (by decide) (by decide) (Nat.le_of_ble_eq_true rfl) (Nat.le_of_ble_eq_true rfl) dTA_init_10 (fun H1 cA ci hci hcA hcI2 hsz1 hold1 hout hrow => ?_)
  have hcc : ci = cI := Option.some.inj (hci.symm.trans (hK.2 0 _ rfl).2)
  subst hcc
  obtain ⟨q, hq⟩ : ∃ q, q = s.heap.size := ⟨_, rfl⟩
  rw [← hq] at hout hrow hsz1 ⊢
  have hP1 : va_P (dC, dI) zCl [(h, .inr (3, [.null]))] H1 := zKeep hP hold1
  have hPw : va_P (dC, dI) zCl ((h, .inr (3, [.null])) :: (q, .inl (cA, 48, .inr (.inr (.inr (.inr (fun j => some (q + 1 + j))))))) :: zrows ci q (fun _ _ => 0)) H1 := by
    intro k x hx
    match k, hx with
    | 0, hx => exact hP1 0 x hx
    | 1, hx => cases hx; exact hout
    | k + 2, hx =>
      obtain ⟨hj, rfl⟩ := zrows_of (show (zrows ci q (fun _ _ => 0))[k]? = some x from hx)
      exact hrow k hj
  have hDt : va_D A (ztw h q cA ci (fun _ _ => 0)) := ztw_D (by omega) hAh (fun x hx => hA x (by omega))
  have hDw : va_D A ((h, .inr (3, [.null])) :: (q, .inl (cA, 48, .inr (.inr (.inr (.inr (fun j => some (q + 1 + j))))))) :: zrows ci q (fun _ _ => 0)) := by
    have key : ∀ (k : Nat) (x : Nat × va_E), ((h, .inr (3, [.null])) :: (q, .inl (cA, 48, .inr (.inr (.inr (.inr (fun j => some (q + 1 + j))))))) :: zrows ci q (fun _ _ => 0) : va_W)[k]? = some x → ∃ y : Nat × va_E, (ztw h q cA ci (fun _ _ => 0))[k]? = some y ∧ y.1 = x.1 := by
      intro k x hx
      match k, hx with
      | 0, hx => cases hx; exact ⟨_, rfl, rfl⟩
      | k + 1, hx => exact ⟨x, hx, rfl⟩
    refine ⟨fun i j x y hi hj hxy => ?_, fun k x hx => ?_⟩
    · obtain ⟨x', h1, h2⟩ := key i x hi
      obtain ⟨y', h3, h4⟩ := key j y hj
      exact hDt.1 i j x' y' h1 h3 (by rw [h2, h4]; exact hxy)
    · obtain ⟨x', h1, h2⟩ := key k x hx
      rw [← h2]; exact hDt.2 k x' h1
  have hS1 : va_S A s.heap H1 ([] ++ (List.range 48).map fun j => (⟨q, j⟩ : Loc)) := ⟨by rw [hsz1]; omega, fun x h1 _ => hold1 x h1, fun x hx => by
    rw [List.nil_append] at hx
    obtain ⟨j, -, rfl⟩ := List.mem_map.mp hx
    exact hA q (by omega)⟩
  refine va_putF (D := (dC, dI)) (ci := 3) (v := .ref q) (ty := .array (.array .int)) (C := "RingGuard$Tables") (T := T_TA) (N := 1) hx hb hu3 zid ty_TA ok_TA nm_TA hown hK hPw hDw hS1 0 rfl rfl 0 (by decide) (hB.word (zm1 k1_120) rfl) (fun _ h9 => h9) rfl hin rfl (by decide +kernel) rfl rfl (Nat.le_of_ble_eq_true rfl) dTA_init_14 (fun H locs hP hD hS => ?_)
  have hP : va_P (dC, dI) zCl (ztw h q cA ci (fun _ _ => 0)) H := hP
  refine lv_iconst (v := 0) hx hb dTA_init_17 (by decide) ?_
  refine lv_istore_n (lv' := [(1, .int 0), (0, .ref h)]) hx hb dTA_init_18 rfl hl (by decide) rfl (fun ls hl => ?_)
  refine zfor (N := 48) (fun k => ∀ (H : Heap) (locs : List Loc) (ls : Array Slot) (F : Nat → Nat → Int32), va_P (dC, dI) zCl (ztw h q cA ci F) H → va_S A s.heap H locs → lv_has ls 2 [(0, .ref h), (1, .int (nI k))] → W p l e _ s m _ below meth c H locs _ _ _ (F0 m 19 ls [])) ?_ ?_ H locs ls (fun _ _ => 0) hP hS (lv_sub hl [1, 0] rfl)
  · intro k hk ih H locs ls F hP hS hl
    have hD : va_D A (ztw h q cA ci F) := ztw_D (by omega) hAh (fun x hx => hA x (by omega))
    refine lv_iload_n hx hb dTA_init_19 rfl (lv_at hl 1 rfl) ?_
    refine lv_bipush (v := 48) hx hb dTA_init_20 (by decide) ?_
    refine lv_icmp_ge (tgt := 41) hx hb dTA_init_22 (by decide) (fun c9 => absurd c9 (nI_ge (b := 48) hk (by decide))) (fun _ => ?_)
    refine lv_aload_n hx hb dTA_init_25 rfl (lv_at hl 0 rfl) ?_
    refine va_get (D := (dC, dI)) (ci := 3) (v := .ref q) (C := "RingGuard$Tables") (T := T_TA) (N := 1) hx hb hu3 zid hown hK hP 0 rfl rfl 0 (by decide) (hB.word (zm1 k1_120) rfl) (fun _ h9 => h9) rfl dTA_init_26 ?_
    refine lv_iload_n hx hb dTA_init_29 rfl (lv_at hl 1 rfl) ?_
    have hkc : (nI k).toNatClampNeg = k := nI_clamp (Nat.lt_trans hk (by decide))
    have hq1 : H[q]? = some (arrV cA 48 (fun j => va_rf (some (q + 1 + j)))) := hP 1 (q, .inl (cA, 48, .inr (.inr (.inr (.inr (fun j => some (q + 1 + j))))))) rfl
    have hin1 : ¬ (nI k < 0 ∨ (arrV cA 48 (fun j => va_rf (some (q + 1 + j)))).slots.size ≤ (nI k).toNatClampNeg) := by rw [arrV_size]; exact vp_in_nI hk (by decide)
    have hv1 : (arrV cA 48 (fun j => va_rf (some (q + 1 + j)))).slots[(nI k).toNatClampNeg]? = some (.ref (q + 1 + k)) := by rw [hkc, arrV_read _ _ hk]; rfl
    have hkn1 : (arrV cA 48 (fun j => va_rf (some (q + 1 + j)))).vm ≠ .unknown := fun z => by cases z
    have har1 : s.isArrayOf (arrV cA 48 (fun j => va_rf (some (q + 1 + j)))) (.array .int) := hcA 48 _
    refine W.aald (v := .ref (q + 1 + k)) (ty := .array .int) (cell := arrV cA 48 (fun j => va_rf (some (q + 1 + j)))) (j := nI k) (a := q) (g := F0 m 30 ls [.int (nI k), .ref q]) (rest := []) hx hb hq1 har1 rfl hkn1 hin1 hv1 rfl rfl dTA_init_30 ?_
    refine W.eq (g2 := F0 m 31 ls [.ref (q + 1 + k)]) rfl ?_
    refine lv_iconst (v := (-1)) hx hb dTA_init_31 (by decide) ?_
    have hrk : (ztw h q cA ci F)[k + 2]? = some (q + 1 + k, .inl (ci, 256, .inl (F k))) := zrows_get hk
    have hPc : va_P (dC, dI) zCl [(q + 1 + k, .inl (ci, 256, .inl (F k)))] H := fun i x hx => by
      match i, hx with
      | 0, hx => cases hx; exact hP (k + 2) _ hrk
    have hDc : va_D A [(q + 1 + k, .inl (ci, 256, .inl (F k)))] := ⟨fun i j x y hi hj _ => by
      match i, j, hi, hj with
      | 0, 0, _, _ => rfl, fun i x hx => by
      match i, hx with
      | 0, hx => cases hx; exact hD.2 (k + 2) _ hrk⟩
    have hF : ∀ x, va_A [(q + 1 + k, .inl (ci, 256, .inl (F k)))] H.size x → A x := fun x hx => by
      rcases hx with ⟨i, e9, hx⟩ | hx
      · exact hDc.2 i (x, e9) hx
      · exact hA x (Nat.le_trans hS.1 hx)
    refine va_callv (va_runS (As := [.ref (q + 1 + k), .int (-1)]) (rest := []) ⟨hx, hb, hml, hown, zno⟩ (zw_fill l dC dI ci cZ cJ a0 s0 (q + 1 + k) 256 H.size (F k) (-1) (by decide)) ⟨zcb 2 (hB.word (zm1 k1_33) rfl) (hB.word (zm1 k1_3) rfl) (hB.word (zm1 k1_119) rfl) rfl rfl (by decide +kernel) ⟨Nat.le_of_ble_eq_true rfl, Nat.le_of_ble_eq_true rfl⟩, hB.word (zm1 k1_32) rfl⟩ ⟨zP_blind, zP_pre hPc hK hDc hAD (zB_on hB hA0 hS)⟩ rfl rfl hl.1 rfl (lv_room (Nat.le_of_ble_eq_true rfl)) dTA_init_32 ⟨Nat.le_of_ble_eq_true rfl, Nat.le_of_ble_eq_true rfl⟩) hS (fun x _ hx => hF x hx) hF (fun wo t H1 locs ht _ hw hBw hz hkp hS => ?_)
    obtain ⟨f2, -, rfl⟩ := hw
    obtain ⟨hP1, -⟩ := hBw
    rw [ht] at hP1
    have hoth : ∀ x : Nat, x < H.size → x ≠ q + 1 + k → H1[x]? = H[x]? := fun x hx hne => hkp x hx (fun hx2 => by
      rcases hx2 with ⟨i, e9, hi⟩ | h2
      · match i, hi with
        | 0, hi => cases hi; exact hne rfl
      · omega)
    have hP : va_P (dC, dI) zCl (ztw h q cA ci (fun j => if j = k then f2 else F j)) H1 := by
      refine ztw_P (fun i x hx => ?_) ?_ (fun j hj => ?_)
      · match i, hx with
        | 0, hx =>
          cases hx
          have g := hP 0 _ rfl
          exact g.kept (hoth h g.lt (by omega))
      · have g := hP 1 _ rfl
        have gl := g.lt
        show H1[q]? = _
        rw [hoth q gl (by omega)]
        exact g
      · by_cases e9 : j = k
        · subst e9
          have g := hP1 0 _ rfl
          rw [if_pos rfl]
          exact g
        · have g := hP (j + 2) _ (zrows_get hj)
          have gl : q + 1 + j < H.size := g.lt
          rw [if_neg e9, hoth (q + 1 + j) gl (by omega)]
          exact g
    refine lv_iinc (v := nI (k + 1)) (lv' := [(1, .int (nI (k + 1))), (0, .ref h)]) hx hb dTA_init_35 hl (k := 1) rfl (nI_1 k) (by decide) rfl (fun ls hl => ?_)
    refine lv_goto (tgt := 19) hx hb dTA_init_38 (by decide) ?_
    exact ih H1 locs ls _ hP hS (lv_sub hl [1, 0] rfl)
  · intro H locs ls F hP hS hl
    refine lv_iload_n hx hb dTA_init_19 rfl (lv_at hl 1 rfl) ?_
    refine lv_bipush (v := 48) hx hb dTA_init_20 (by decide) ?_
    refine lv_icmp_ge (tgt := 41) hx hb dTA_init_22 (by decide) (fun _ => ?_) (fun c9 => absurd (nI_le (a := 48) (b := 48) (Nat.le_refl _) (by decide)) c9)
    refine W.widen (k := 49) (n := 12336) (Nat.le_of_ble_eq_true rfl) (Nat.le_of_ble_eq_true rfl) ?_
    exact W.vret hx hb hr (fun t ht hW => ⟨⟨(), rfl, trivial, (fun i x hx => by simp at hx), ⟨fun i j x y hi => by simp at hi, fun i x hx => by simp at hx⟩⟩, hS.F ht⟩) hS.2.2 dTA_init_41
end
