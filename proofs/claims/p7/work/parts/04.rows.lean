/-! rows that the walks use: words that are no words on tables alone; a thrown call passed on or caught; worlds that a callee makes -/
theorem zac {a0 args : Array Value} {s0 s : State} (hB : tq_B zT a0 s0 s) {ty : FieldType} (hm : Cond.arrayClass ty ∈ zT) : (Cond.arrayClass ty).before args s = true := word_at hB.2.1 (Or.inr ⟨_, rfl⟩) (hB.1 _ hm)
theorem znest {a0 : Array Value} {s0 s : State} (hB : tq_B zT a0 s0 s) {own host : String} {index : Nat} {y : MethodName} (hm : Cond.methodLinkNest own index y host ∈ zT) : va_Nw (.methodLinkNest own index y host) s := va_Nw.warmM hB.2.1 (va_Nw.of rfl (hB.1 _ hm))
theorem zover {a0 : Array Value} {s0 s : State} (hB : tq_B zT a0 s0 s) (hm : Cond.arrayOver (.array .int) ∈ zT) : ∃ ci c k, s.vm.findClass (FieldType.array .int).toString = some ci ∧ s.vm.classes[c]? = some k ∧ k.kind = .array ci (.array .int) ∧ s.vm.findClass ("[" ++ (FieldType.array .int).toString) = some c := by
  obtain ⟨ci, c, k, h1, h2, h3, h4⟩ := mz_over (hB.1 _ hm)
  have hal := hB.2.1.alike
  obtain ⟨k', hk', he⟩ := hal.2.2 _ _ h2
  exact ⟨ci, c, k', by rw [hal.findClass]; exact h1, hk', by rw [he]; exact h3, by rw [hal.findClass]; exact h4⟩
theorem zfit {args : Array Value} {s : State} {X Y : String} (h : (Cond.castable X Y).before args s = true) : ∀ cX cT, s.vm.findClass X = some cX → s.vm.findClass Y = some cT → s.vm.assignable cX cT = true := fun cX cT h1 h2 => by
  simp only [Cond.before, Cond.holds, Cond.value, h1, h2] at h
  simpa using h
theorem znofit {a0 : Array Value} {s0 s : State} {X Y : String} (hB : tq_B zT a0 s0 s) (hm : Cond.not (.castable X Y) ∈ zT) : ∀ cX cT, s.vm.findClass X = some cX → s.vm.findClass Y = some cT → s.vm.assignable cX cT = false := fun cX cT h1 h2 => by
  have hal := hB.2.1.alike
  rw [hal.findClass] at h1 h2
  have h := hB.1 _ hm
  have hv := Cond.holds_not_iff.mp h
  simp only [Cond.value, h1, h2] at hv
  rw [hal.assignable]
  exact Option.some.inj hv
theorem zsel1 {args : Array Value} {s : State} {own X nm : String} {pc hp a b t : Nat} {hs : List (Nat × Nat × Nat × Nat)} (h : a ≤ pc ∧ pc < b) (h0 : t ≠ 0) (hl : (Cond.classLink own t nm).before args s = true) (hfit : ∀ cX cT, s.vm.findClass X = some cX → s.vm.findClass nm = some cT → s.vm.assignable cX cT = true) : tq_Sel args s own pc X hp ((a, b, hp, t) :: hs) := by
  simp only [tq_Sel]
  rw [if_pos h]
  exact ⟨h0, nm, hl, Or.inl ⟨hfit, by trivial⟩⟩
theorem zsel2 {args : Array Value} {s : State} {own X nm : String} {pc hp a b c t : Nat} {hs : List (Nat × Nat × Nat × Nat)} (h : a ≤ pc ∧ pc < b) (h0 : t ≠ 0) (hl : (Cond.classLink own t nm).before args s = true) (hno : ∀ cX cT, s.vm.findClass X = some cX → s.vm.findClass nm = some cT → s.vm.assignable cX cT = false) (hr : tq_Sel args s own pc X hp hs) : tq_Sel args s own pc X hp ((a, b, c, t) :: hs) := by
  simp only [tq_Sel]
  rw [if_pos h]
  exact ⟨h0, nm, hl, Or.inr ⟨hno, hr⟩⟩
/-- an end with a world that the method chose -/
def zQw (cl : List vw_C) (dC : Nat → ClassId) (dI : Nat → Nat → Nat) (Bw : va_W → Prop) (A : Nat → Prop) : Array Value → State → Outcome → State → Prop := va_Qv Bw (fun wo t => va_P (dC, dI) cl wo t.heap ∧ va_D A wo) A
section ZR
variable {p : Program} {l : Launch} {e : Env} {R : Room} {s : State} {m : MethodId} {args : Array Value} {below : List Frame} {meth : Method} {c : Code} {H : Heap} {locs : List Loc} {cells slots : Nat} {Q : State → Prop}
variable {pc : Nat} {ls : Array Slot} {rest st0 : List Value} {a : Array Value} {A0 : Nat → Prop} {H0 : Heap} {mc ms : Nat} {cl : List vw_C} {dC : Nat → ClassId} {dI : Nat → Nat → Nat}
theorem zcallw {Bw : va_W → Prop} {ws wc wr : va_W} (hr : va_Run p l e R s m args below meth c H locs cells slots mc ms (F0 m pc ls st0) rest (zQw cl dC dI Bw (va_A wc H.size) a) (va_A wc H.size)) (hP : va_P (dC, dI) cl ws H) (hD : va_D A0 ws) (hS : va_S A0 H0 H locs) (hA : ∀ q, H0.size ≤ q → A0 q)
    (isC isR : List Nat) (hC : isC.map (fun i => ws[i]?) = wc.map some) (hR : isR.map (fun i => ws[i]?) = wr.map some) (hn : va_nd isR = true) (hdis : ∀ i ∈ isR, i ∉ isC)
    (kk : ∀ (wo : va_W) (H1 : Heap) (locs1 : List Loc), Bw wo → va_P (dC, dI) cl (wr ++ wo) H1 → va_D A0 (wr ++ wo) → va_S A0 H0 H1 locs1 → W p l e R s m args below meth c H1 locs1 (cells + mc) (slots + ms) Q (F0 m (pc + 3) ls rest)) : W p l e R s m args below meth c H locs cells slots Q (F0 m pc ls st0) := by
  have hF := va_free hD hS hA isC hC
  refine va_callv hr hS (fun q _ h => hF q h) hF (fun wo t H1 locs1 ht _ hw hB hz hk hS1 => ?_)
  obtain ⟨hP1, hD1⟩ := hB
  rw [ht] at hP1
  obtain ⟨hP2, hD2⟩ := va_join hP hD isC isR hC hR hn hdis hk hF hP1 hD1
  exact kk wo H1 locs1 hw hP2 hD2 hS1
/-- the callee throws an X, and there is no handler here -/
theorem zpass {X : String} {k0 n0 : Nat} (hr : tq_Run p l e R s m args below meth c H locs cells slots mc ms (F0 m pc ls st0) rest (tq_Q X a) (zN H.size)) (htab : c.exceptionTable.toList = []) (hlocks : meth.locks = false) (hS : va_S (zN s.heap.size) s.heap H locs) (hk : cells + mc ≤ k0) (hn : slots + ms ≤ n0) :
    W p l e R s m args below meth c H locs cells slots (tq_MQ below (tq_Q X) args s k0 n0 (zN s.heap.size)) (F0 m pc ls st0) := by
  refine tq_pass hr rfl rfl rfl htab hlocks hk hn (fun x st₀ t u h0 hQ _ e1 e2 => ?_) (fun q hq => hS.2.2 q hq) (fun q hq => Nat.le_trans hS.1 hq)
  obtain ⟨⟨ce, g1, g2, g3⟩, hz, hk⟩ := hQ
  rw [h0] at hz hk
  refine ⟨⟨ce, by rw [e1]; exact g1, g2, by rw [e2]; exact g3⟩, by rw [e1]; exact Nat.le_trans hS.1 hz, fun q hq => ?_⟩
  rw [e1, hk q (Nat.lt_of_lt_of_le hq hS.1)]
  exact hS.2.1 q hq (Nat.not_le.mpr hq)
/-- 'throw new X(text)' where nothing old has changed; the contract's numbers -/
theorem zthrow {cc : ByteArray} {ik ix ic q : Nat} {own X tx : String} {k0 n0 : Nat} (hfl : l.flags = Jvm.pinnedFlags ++ [Jvm.noTraceFlag]) (hexec : p.tables.exec = Jvm.exec) (hb : c.code = cc) (hown : s.vm.findClass own = some m.cls)
    (hclink : (Cond.classLink own ik X).before args s = true) (hinit : (Cond.initialized X).before args s = true) (hZ : vk_R own ix tx q s) (hX : Bundle.fit X = true)
    (hat : ∀ a ∈ Bundle.ownAtoms own ic X ["java/lang/RuntimeException", "java/lang/Exception"], a.before args s = true)
    (hsz : ls.size = c.maxLocals) (htab : c.exceptionTable.toList = []) (hlocks : meth.locks = false)
    (d0 : decode cc pc = .ok (.new ik, 3)) (d3 : decode cc (pc + 3) = .ok (.dup, 1)) (d4 : decode cc (pc + 4) = .ok (.ldc ix, 2)) (d6 : decode cc (pc + 6) = .ok (.invokespecial ic, 3)) (d9 : decode cc (pc + 9) = .ok (.athrow, 1))
    (hfr : 6 ≤ R.frames) (hlo : 90 ≤ R.locals) (hce : cells + 1 ≤ R.cells) (hsl : slots + 6 ≤ R.slots) (hS : va_S (zN s.heap.size) s.heap H locs) (hk : cells + 1 = k0) (hn : slots + 6 = n0) :
    W p l e R s m args below meth c H locs cells slots (tq_MQ below (tq_Q X) args s k0 n0 (zN s.heap.size)) (F0 m pc ls []) := by
  subst hk; subst hn
  refine va_forget (fun q hq => hS.2.2 q hq) ?_
  intro T hT X0
  exact tq_throw hexec hb (Launch.traces_off hfl X0.admits) hown hclink hinit hZ hX hat hsz htab hlocks d0 d3 d4 d6 d9 hfr hlo hce hsl hS.1 (fun q hq => hS.2.1 q hq (Nat.not_le.mpr hq)) T hT X0
end ZR
