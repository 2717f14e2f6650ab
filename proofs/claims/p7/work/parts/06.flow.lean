/-! where roads join; ends with an answer and a world that the method chose; loops -/
section ZF
variable {p : Program} {l : Launch} {e : Env} {R : Room} {s : State} {m : MethodId} {args : Array Value} {below : List Frame} {meth : Method} {c : Code} {H : Heap} {locs : List Loc} {cells slots : Nat} {Q : State → Prop}
/-- two roads that join at g: what holds there is said once (St), and the rest is walked once -/
theorem zjoin {α : Type} {g0 : JFrame} (St : α → Heap → List Loc → Array Slot → Prop) (g : α → Array Slot → JFrame)
    (main : (∀ (a : α) (H : Heap) (locs : List Loc) (ls : Array Slot), St a H locs ls → W p l e R s m args below meth c H locs cells slots Q (g a ls)) → W p l e R s m args below meth c H locs cells slots Q g0)
    (rest : ∀ (a : α) (H : Heap) (locs : List Loc) (ls : Array Slot), St a H locs ls → W p l e R s m args below meth c H locs cells slots Q (g a ls)) : W p l e R s m args below meth c H locs cells slots Q g0 := main rest
variable {pc : Nat} {ls : Array Slot} {rest st0 : List Value} {a : Array Value} {A0 : Nat → Prop} {H0 : Heap} {mc ms : Nat} {cl : List vw_C} {dC : Nat → ClassId} {dI : Nat → Nat → Nat}
/-- an answer, and a world that the method chose -/
def zQx (cl : List vw_C) (dC : Nat → ClassId) (dI : Nat → Nat → Nat) (Bw : Int32 → va_W → Prop) (A : Nat → Prop) : Array Value → State → Outcome → State → Prop := va_Qi Bw (fun wo t => va_P (dC, dI) cl wo t.heap ∧ va_D A wo) A
theorem zcallx {Bw : Int32 → va_W → Prop} {ws wc wr : va_W} (hr : va_Run p l e R s m args below meth c H locs cells slots mc ms (F0 m pc ls st0) rest (zQx cl dC dI Bw (va_A wc H.size) a) (va_A wc H.size)) (hP : va_P (dC, dI) cl ws H) (hD : va_D A0 ws) (hS : va_S A0 H0 H locs) (hA : ∀ q, H0.size ≤ q → A0 q)
    (isC isR : List Nat) (hC : isC.map (fun i => ws[i]?) = wc.map some) (hR : isR.map (fun i => ws[i]?) = wr.map some) (hn : va_nd isR = true) (hdis : ∀ i ∈ isR, i ∉ isC)
    (kk : ∀ (r : Int32) (wo : va_W) (H1 : Heap) (locs1 : List Loc), Bw r wo → va_P (dC, dI) cl (wr ++ wo) H1 → va_D A0 (wr ++ wo) → va_S A0 H0 H1 locs1 → W p l e R s m args below meth c H1 locs1 (cells + mc) (slots + ms) Q (F0 m (pc + 3) ls (.int r :: rest))) : W p l e R s m args below meth c H locs cells slots Q (F0 m pc ls st0) := by
  have hF := va_free hD hS hA isC hC
  refine va_calli hr hS (fun q _ h => hF q h) hF (fun r wo t H1 locs1 ht _ hw hB hz hk hS1 => ?_)
  obtain ⟨hP1, hD1⟩ := hB
  rw [ht] at hP1
  obtain ⟨hP2, hD2⟩ := va_join hP hD isC isR hC hR hn hdis hk hF hP1 hD1
  exact kk r wo H1 locs1 hw hP2 hD2 hS1
end ZF
/-- a counted loop, from its head down to its end -/
theorem zfor {N : Nat} (P : Nat → Prop) (step : ∀ k, k < N → P (k + 1) → P k) (last : P N) : P 0 := by
  have h : ∀ n, n ≤ N → P (N - n) := by
    intro n
    induction n with
    | zero => intro _; exact last
    | succ n ih =>
      intro hn
      have e : N - n = (N - (n + 1)) + 1 := by omega
      have h1 := ih (by omega)
      rw [e] at h1
      exact step _ (by omega) h1
  have h0 := h N (Nat.le_refl _)
  rwa [Nat.sub_self] at h0
/-- .. from any count on -/
theorem zforA {N : Nat} (P : Nat → Prop) (step : ∀ k, k < N → P (k + 1) → P k) (last : P N) : ∀ k, k ≤ N → P k := by
  intro k hk
  have h : ∀ n, k + n ≤ N → (∀ j, j = N - n → P j) := by
    intro n
    induction n with
    | zero => intro _ j hj; rw [hj]; exact last
    | succ n ih =>
      intro hn j hj
      refine step j (by omega) (ih (by omega) (j + 1) (by omega))
  exact h (N - k) (by omega) k (by omega)
/-- index-bearing ints: -1, or a place below n -/
def zidx (n : Nat) (v : Int32) : Prop := v = -1 ∨ ∃ k, k < n ∧ v = nI k
theorem zidx.mono {n n' : Nat} {v : Int32} (h : zidx n v) (hn : n ≤ n') : zidx n' v := by
  rcases h with h | ⟨k, hk, h⟩
  · exact Or.inl h
  · exact Or.inr ⟨k, Nat.lt_of_lt_of_le hk hn, h⟩
theorem zidx.get {n : Nat} {v : Int32} (h : zidx n v) (hv : v ≠ -1) : ∃ k, k < n ∧ v = nI k := by
  rcases h with h | h
  · exact absurd h hv
  · exact h
theorem zidx_upd {n : Nat} {f : Nat → Int32} {i : Nat} {v : Int32} (h : ∀ j, zidx n (f j)) (hv : zidx n v) : ∀ j, zidx n (upd f i v j) := fun j => by
  unfold upd
  by_cases e : j = i
  · rw [if_pos e]; exact hv
  · rw [if_neg e]; exact h j
/-! ONE PIECE: two ways to make groups of bridges one keep the same partition -/
def zsame (n : Nat) (g h : Nat → Nat) : Prop := ∀ i j, i < n → j < n → (g i = g j ↔ h i = h j)
/-- the class's way: those that bear b's number get a's -/
def zjc (n a b : Nat) (g : Nat → Nat) : Nat → Nat := fun i => if i < n ∧ g i = g b then g a else g i
/-- the reference's way: those that bear a's number get b's -/
def zjr (n a b : Nat) (g : Nat → Nat) : Nat → Nat := fun i => if i < n ∧ g i = g a then g b else g i
theorem zjc_iff {n a b : Nat} {g : Nat → Nat} (ha : a < n) (hb : b < n) {i j : Nat} (hi : i < n) (hj : j < n) : zjc n a b g i = zjc n a b g j ↔ (g i = g j ∨ ((g i = g a ∨ g i = g b) ∧ (g j = g a ∨ g j = g b))) := by
  unfold zjc
  by_cases h1 : g i = g b <;> by_cases h2 : g j = g b <;> simp [hi, hj, h1, h2]
  · constructor
    · intro h; exact Or.inr h.symm
    · rintro (h | h)
      · exact absurd h.symm h2
      · exact h.symm
  · intro h3 h4; rw [h3, h4]
theorem zjr_iff {n a b : Nat} {g : Nat → Nat} (ha : a < n) (hb : b < n) {i j : Nat} (hi : i < n) (hj : j < n) : zjr n a b g i = zjr n a b g j ↔ (g i = g j ∨ ((g i = g a ∨ g i = g b) ∧ (g j = g a ∨ g j = g b))) := by
  unfold zjr
  by_cases h1 : g i = g a <;> by_cases h2 : g j = g a <;> simp [hi, hj, h1, h2]
  · constructor
    · intro h; exact Or.inr h.symm
    · rintro (h | h)
      · exact absurd h.symm h2
      · exact h.symm
  · intro h3 h4; rw [h3, h4]
theorem zsame_join {n a b : Nat} {g h : Nat → Nat} (ha : a < n) (hb : b < n) (hs : zsame n g h) : zsame n (zjc n a b g) (zjr n a b h) := fun i j hi hj => by
  rw [zjc_iff ha hb hi hj, zjr_iff ha hb hi hj, hs i j hi hj, hs i a hi ha, hs i b hi hb, hs j a hj ha, hs j b hj hb]
