
theorem zno_ISE : Cond.not (.castable "java/lang/IllegalStateException" "java/lang/IllegalArgumentException") ∈ zT := List.mem_append_right _ (List.mem_cons_of_mem _ (List.mem_cons_of_mem _ List.mem_cons_self))
theorem zgoodW {y : MethodName} {b : ByteArray} {n : Nat} {r : Option FieldType} {hs : List (Nat × Nat × Nat × Nat)} : GoodIn [Cond.codeWith y b n r hs] [Cond.codeWith y b n r hs] := fun w h => ⟨h, by rw [List.mem_singleton.mp h]; exact Or.inl rfl⟩
theorem zk_rS {P S : ZS} {u : Unit} (h : fRG_requireStarted P S = .ok u) : ¬ P.I 2 = 0 := by
  simp only [fRG_requireStarted, zl] at h
  split at h
  · cases h
  · rename_i c
    exact c
theorem zk_rN {P S : ZS} {u : Unit} (h : fRG_requireNotStarted P S = .ok u) : P.I 2 = 0 := by
  simp only [fRG_requireNotStarted, zl] at h
  split at h
  · rename_i c
    exact c
  · cases h
/-! worlds side by side -/
theorem zPL {D : va_G} {cl : List vw_C} {w1 w2 : va_W} {H : Heap} (h : va_P D cl (w1 ++ w2) H) : va_P D cl w1 H := fun k q hk => h k q (by rw [List.getElem?_append_left (List.getElem?_eq_some_iff.mp hk).1]; exact hk)
theorem zPR {D : va_G} {cl : List vw_C} {w1 w2 : va_W} {H : Heap} (h : va_P D cl (w1 ++ w2) H) : va_P D cl w2 H := fun k q hk => h (w1.length + k) q (by rw [List.getElem?_append_right (Nat.le_add_right _ _), Nat.add_sub_cancel_left]; exact hk)
theorem zDL {A : Nat → Prop} {w1 w2 : va_W} (h : va_D A (w1 ++ w2)) : va_D A w1 := by
  have e : ∀ {k : Nat} {q : Nat × va_E}, w1[k]? = some q → (w1 ++ w2)[k]? = some q := fun hk => by rw [List.getElem?_append_left (List.getElem?_eq_some_iff.mp hk).1]; exact hk
  exact ⟨fun i j p q hi hj => h.1 i j p q (e hi) (e hj), fun k q hk => h.2 k q (e hk)⟩
theorem zDR {A : Nat → Prop} {w1 w2 : va_W} (h : va_D A (w1 ++ w2)) : va_D A w2 := by
  have e : ∀ {k : Nat} {q : Nat × va_E}, w2[k]? = some q → (w1 ++ w2)[w1.length + k]? = some q := fun hk => by rw [List.getElem?_append_right (Nat.le_add_right _ _), Nat.add_sub_cancel_left]; exact hk
  exact ⟨fun i j p q hi hj hpq => by have := h.1 _ _ p q (e hi) (e hj) hpq; omega, fun k q hk => h.2 _ q (e hk)⟩
theorem zPC {D : va_G} {cl : List vw_C} {w1 w2 : va_W} {H : Heap} (h : va_P D cl (w1 ++ w2) H) : va_P D cl (w2 ++ w1) H := va_P.app (zPR h) (zPL h)
theorem zDC {A : Nat → Prop} {w1 w2 : va_W} (h : va_D A (w1 ++ w2)) : va_D A (w2 ++ w1) := by
  refine va_D.app (zDR h) (zDL h) (fun i j p q hi hj hpq => ?_)
  have h1 : (w1 ++ w2)[w1.length + i]? = some p := by rw [List.getElem?_append_right (Nat.le_add_right _ _), Nat.add_sub_cancel_left]; exact hi
  have hl := (List.getElem?_eq_some_iff.mp hj).1
  have h2 : (w1 ++ w2)[j]? = some q := by rw [List.getElem?_append_left hl]; exact hj
  have := h.1 _ _ p q h1 h2 hpq
  omega
theorem zjoinL {A0 : Nat → Prop} {D : va_G} {cl : List vw_C} {w1 w2 w : va_W} {H H1 : Heap} (hP : va_P D cl (w1 ++ w2) H) (hD : va_D A0 (w1 ++ w2)) (hk : ∀ q : Nat, q < H.size → ¬ va_A w1 H.size q → H1[q]? = H[q]?) (hF : ∀ q, va_A w1 H.size q → A0 q) (hP1 : va_P D cl w H1) (hD1 : va_D (va_A w1 H.size) w) : va_P D cl (w ++ w2) H1 ∧ va_D A0 (w ++ w2) := by
  have apart : ∀ (k : Nat) (q : Nat × va_E), w2[k]? = some q → q.1 < H.size ∧ ¬ va_A w1 H.size q.1 := by
    intro k q hq
    have h2 : (w1 ++ w2)[w1.length + k]? = some q := by rw [List.getElem?_append_right (Nat.le_add_right _ _), Nat.add_sub_cancel_left]; exact hq
    have hl := (hP _ q h2).lt
    refine ⟨hl, fun h => ?_⟩
    rcases h with ⟨k2, e, h⟩ | h
    · have hk2 := (List.getElem?_eq_some_iff.mp h).1
      have h3 : (w1 ++ w2)[k2]? = some (q.1, e) := by rw [List.getElem?_append_left hk2]; exact h
      have := hD.1 _ _ q (q.1, e) h2 h3 rfl
      omega
    · omega
  refine ⟨va_P.app hP1 (fun k q hq => ?_), va_D.app (hD1.weaken (fun k q _ h => hF q.1 h)) (zDR hD) (fun i j x y hx hy hxy => ?_)⟩
  · obtain ⟨g1, g2⟩ := apart k q hq
    exact (zPR hP k q hq).kept (hk q.1 g1 g2)
  · exact (apart j y hy).2 (by rw [← hxy]; exact hD1.2 i x hx)
section ZLc
variable {p : Program} {l : Launch} {e : Env} {R : Room} {s : State} {m : MethodId} {args : Array Value} {below : List Frame} {meth : Method} {c : Code} {H : Heap} {locs : List Loc} {cells slots : Nat} {Q : State → Prop}
variable {pc : Nat} {ls : Array Slot} {rest st0 : List Value} {a : Array Value} {A0 : Nat → Prop} {H0 : Heap} {mc ms : Nat} {cl : List vw_C} {dC : Nat → ClassId} {dI : Nat → Nat → Nat}
theorem zfreeL {w1 w2 : va_W} (hD : va_D A0 (w1 ++ w2)) (hS : va_S A0 H0 H locs) (hA : ∀ q, H0.size ≤ q → A0 q) : ∀ q, va_A w1 H.size q → A0 q := fun q h => by
  rcases h with ⟨k, e, h⟩ | h
  · exact (zDL hD).2 k (q, e) h
  · exact hA q (Nat.le_trans hS.1 h)
theorem zcVL {α : Type} {post : α → Prop} {Wf : α → va_W} {w1 w2 : va_W} (hr : va_Run p l e R s m args below meth c H locs cells slots mc ms (F0 m pc ls st0) rest (zQG cl dC dI post Wf (va_A w1 H.size) a) (va_A w1 H.size)) (hP : va_P (dC, dI) cl (w1 ++ w2) H) (hD : va_D A0 (w1 ++ w2)) (hS : va_S A0 H0 H locs) (hA : ∀ q, H0.size ≤ q → A0 q)
    (kk : ∀ (x : α) (H1 : Heap) (locs1 : List Loc), post x → va_P (dC, dI) cl (Wf x ++ w2) H1 → va_D A0 (Wf x ++ w2) → va_S A0 H0 H1 locs1 → W p l e R s m args below meth c H1 locs1 (cells + mc) (slots + ms) Q (F0 m (pc + 3) ls rest)) : W p l e R s m args below meth c H locs cells slots Q (F0 m pc ls st0) := by
  have hF := zfreeL hD hS hA
  refine va_callv hr hS (fun q _ h => hF q h) hF (fun x t H1 locs1 ht _ hw hB hz hk hS1 => ?_)
  obtain ⟨hP1, hD1⟩ := hB
  rw [ht] at hP1
  obtain ⟨hP2, hD2⟩ := zjoinL hP hD hk hF hP1 hD1
  exact kk x H1 locs1 hw hP2 hD2 hS1
theorem zcIL {α : Type} {post : Int32 → α → Prop} {Wf : α → va_W} {w1 w2 : va_W} (hr : va_Run p l e R s m args below meth c H locs cells slots mc ms (F0 m pc ls st0) rest (zQH cl dC dI post Wf (va_A w1 H.size) a) (va_A w1 H.size)) (hP : va_P (dC, dI) cl (w1 ++ w2) H) (hD : va_D A0 (w1 ++ w2)) (hS : va_S A0 H0 H locs) (hA : ∀ q, H0.size ≤ q → A0 q)
    (kk : ∀ (r : Int32) (x : α) (H1 : Heap) (locs1 : List Loc), post r x → va_P (dC, dI) cl (Wf x ++ w2) H1 → va_D A0 (Wf x ++ w2) → va_S A0 H0 H1 locs1 → W p l e R s m args below meth c H1 locs1 (cells + mc) (slots + ms) Q (F0 m (pc + 3) ls (.int r :: rest))) : W p l e R s m args below meth c H locs cells slots Q (F0 m pc ls st0) := by
  have hF := zfreeL hD hS hA
  refine va_calli hr hS (fun q _ h => hF q h) hF (fun r x t H1 locs1 ht _ hw hB hz hk hS1 => ?_)
  obtain ⟨hP1, hD1⟩ := hB
  rw [ht] at hP1
  obtain ⟨hP2, hD2⟩ := zjoinL hP hD hk hF hP1 hD1
  exact kk r x H1 locs1 hw hP2 hD2 hS1
end ZLc
theorem zAtL {w : va_W} {n : Nat} {x : Nat × va_E} (h : w.length = n) : (w ++ [x])[n]? = some x := by
  rw [List.getElem?_append_right (by omega), h, Nat.sub_self]
  rfl
theorem zSetL {w : va_W} {n : Nat} {x z : Nat × va_E} (h : w.length = n) : (w ++ [x]).set n z = w ++ [z] := by
  rw [List.set_append_right _ _ (by omega), h, Nat.sub_self]
  rfl
