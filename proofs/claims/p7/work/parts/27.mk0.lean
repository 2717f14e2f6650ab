
theorem zd_RG : ∀ j, j < 13 → defaultValue (ty_RG j) = vp_V [.null, .null, .null, .null, .null, .null, .int 0, .int 0, .int 0, .int 0, .int 0, .int 0, .int 0] j := by decide +kernel
theorem zd_PL : ∀ j, j < 11 → defaultValue (ty_PL j) = vp_V [.int 0, .int 0, .null, .null, .null, .null, .null, .null, .null, .null, .null] j := by decide +kernel
theorem zd_WI : ∀ j, j < 6 → defaultValue (ty_WI j) = vp_V [.null, .null, .null, .null, .null, .int 0] j := by decide +kernel
theorem zd_TA : ∀ j, j < 1 → defaultValue (ty_TA j) = vp_V [.null] j := by decide +kernel
theorem zd_PR : ∀ j, j < 14 → defaultValue (ty_PR j) = vp_V [.null, .null, .null, .null, .null, .null, .null, .null, .null, .null, .null, .null, .int 0, .int 0] j := by decide +kernel
theorem zd_FR : ∀ j, j < 9 → defaultValue (ty_FR j) = vp_V [.null, .null, .null, .null, .null, .null, .int 0, .null, .int 0] j := by decide +kernel
theorem zd_GR : ∀ j, j < 3 → defaultValue (ty_GR j) = vp_V [.null, .int 0, .int 0] j := by decide +kernel
theorem zd_MO : ∀ j, j < 53 → defaultValue (ty_MO j) = vp_V [.int 0, .int 0, .int 0, .int 0, .null, .null, .null, .null, .null, .null, .null, .null, .null, .null, .null, .null, .null, .null, .null, .null, .null, .null, .null, .null, .null, .null, .null, .null, .null, .null, .null, .null, .null, .null, .null, .null, .null, .int 0, .int 0, .int 0, .int 0, .int 0, .int 0, .int 0, .null, .null, .null, .null, .int 0, .int 0, .int 0, .int 0, .null] j := by decide +kernel
theorem zac_int {a0 args : Array Value} {s0 s : State} (hB : tq_B zT a0 s0 s) : (Cond.arrayClass (newarray.typeOf .int)).before args s = true := zac hB (zm1 (i := 82) rfl)
theorem zac_boolean {a0 args : Array Value} {s0 s : State} (hB : tq_B zT a0 s0 s) : (Cond.arrayClass (newarray.typeOf .boolean)).before args s = true := zac hB (zm1 (i := 83) rfl)
theorem zac_long {a0 args : Array Value} {s0 s : State} (hB : tq_B zT a0 s0 s) : (Cond.arrayClass (newarray.typeOf .long)).before args s = true := zac hB (zm6 (i := 36) rfl)
theorem zgood {y : MethodName} {b : ByteArray} {n : Nat} {r : Option FieldType} : GoodIn [Cond.code y b n r] [Cond.code y b n r] := fun w h => ⟨h, by rw [List.mem_singleton.mp h]; exact Or.inl rfl⟩
