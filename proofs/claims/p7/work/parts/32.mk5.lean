
/-- worlds that hold alike -/
def zalike (w w' : va_W) : Prop := w.length = w'.length ∧ ∀ (k : Nat) (q q' : Nat × va_E), w[k]? = some q → w'[k]? = some q' → q.1 = q'.1 ∧ ∀ (D : va_G) (cl : List vw_C) (H : Heap), va_at D cl q H → va_at D cl q' H
theorem zalike.at {w w' : va_W} (h : zalike w w') {k : Nat} {q' : Nat × va_E} (hk : w'[k]? = some q') : ∃ q, w[k]? = some q ∧ q.1 = q'.1 ∧ ∀ (D : va_G) (cl : List vw_C) (H : Heap), va_at D cl q H → va_at D cl q' H := by
  have hl := (List.getElem?_eq_some_iff.mp hk).1
  have hl2 : k < w.length := by rw [h.1]; exact hl
  have hq : w[k]? = some w[k] := List.getElem?_eq_getElem hl2
  exact ⟨_, hq, h.2 k _ q' hq hk⟩
theorem zalike.P {w w' : va_W} (h : zalike w w') {D : va_G} {cl : List vw_C} {H : Heap} (hP : va_P D cl w H) : va_P D cl w' H := fun k q' hk => by
  obtain ⟨q, hq, -, h2⟩ := h.at hk
  exact h2 D cl H (hP k q hq)
theorem zalike.D {w w' : va_W} (h : zalike w w') {A : Nat → Prop} (hD : va_D A w) : va_D A w' := by
  refine ⟨fun i j p q hi hj e => ?_, fun k q hk => ?_⟩
  · obtain ⟨p0, hp0, e1, -⟩ := h.at hi
    obtain ⟨q0, hq0, e2, -⟩ := h.at hj
    exact hD.1 i j p0 q0 hp0 hq0 (by rw [e1, e2, e])
  · obtain ⟨q0, hq0, e2, -⟩ := h.at hk
    rw [← e2]
    exact hD.2 k q0 hq0
theorem zalike.app {w w' v : va_W} (h : zalike w w') : zalike (w ++ v) (w' ++ v) := by
  refine ⟨by rw [List.length_append, List.length_append, h.1], fun k q q' hk hk' => ?_⟩
  by_cases hl : k < w.length
  · rw [List.getElem?_append_left hl] at hk
    rw [List.getElem?_append_left (by rw [← h.1]; exact hl)] at hk'
    exact h.2 k q q' hk hk'
  · rw [List.getElem?_append_right (by omega)] at hk
    rw [List.getElem?_append_right (by rw [← h.1]; omega), ← h.1, hk] at hk'
    cases hk'
    exact ⟨rfl, fun _ _ _ h => h⟩
theorem zalike_map {u : va_W} {n : Nat} {g g' : Nat → Nat × va_E} (h : ∀ k, k < n → (g k).1 = (g' k).1 ∧ ∀ (D : va_G) (cl : List vw_C) (H : Heap), va_at D cl (g k) H → va_at D cl (g' k) H) : zalike (u ++ (List.range n).map g) (u ++ (List.range n).map g') := by
  refine ⟨by rw [List.length_append, List.length_append, List.length_map, List.length_map], fun k q q' hk hk' => ?_⟩
  by_cases hl : k < u.length
  · rw [List.getElem?_append_left hl] at hk hk'
    rw [hk] at hk'
    cases hk'
    exact ⟨rfl, fun _ _ _ h => h⟩
  · have hl := Nat.not_lt.mp hl
    rw [List.getElem?_append_right hl, List.getElem?_map] at hk hk'
    by_cases hn : k - u.length < n
    · rw [List.getElem?_range hn] at hk hk'
      cases hk
      cases hk'
      exact h _ hn
    · rw [List.getElem?_eq_none (by rw [List.length_range]; omega)] at hk
      cases hk
theorem zalike_arr {a n : Nat} {c : ClassId} {f g : Nat → Int32} (h : ∀ j, j < n → f j = g j) {D : va_G} {cl : List vw_C} {H : Heap} (h1 : va_at D cl (a, .inl (c, n, .inl f)) H) : va_at D cl (a, .inl (c, n, .inl g)) H := by
  have h0 : H[a]? = some (vp_cell c (n, .inl f)) := h1
  show H[a]? = some (vp_cell c (n, .inl g))
  rw [h0, vp_cell_i, vp_cell_i, zarr_congr (fun j hj => by rw [h j hj])]
def zP0 : ZS := ZS.mk (fun k _ => if k = 3 ∨ k = 4 ∨ k = 6 ∨ k = 7 then -1 else 0) (fun _ => 0)
def zS0 : ZS := ZS.mk (fun k _ => if k = 23 ∨ 28 ≤ k then -1 else 0) (fun t => if t = 11 then 1 else 0)
def zPm : ZS := ZS.mk (fun k _ => if k = 3 ∨ k = 4 ∨ k = 6 then -1 else 0) (fun _ => 0)
def zSm : ZS := ZS.mk (fun k _ => if k = 20 ∨ k = 22 then -1 else 0) (fun _ => 0)
def zo (x q : Nat) (a : Nat → Nat) (k : Nat) : Nat := if k = 0 then x else if k = 7 then q else a k
def zb (q : Nat) (a : Nat → Nat) (k : Nat) : Nat := if k < 28 then a (8 + k) else q + 1 + (k - 28)
def zG (f3 f4 f6 f7 f23 : Nat → Int32) (F : Nat → Nat → Int32) (k : Nat) : Nat → Int32 := if k = 3 then f3 else if k = 4 then f4 else if k = 6 then f6 else if k = 7 then f7 else if k = 23 then f23 else if k < 28 then fun _ => 0 else F (k - 28)
set_option maxHeartbeats 4000000 in
set_option maxRecDepth 100000 in
theorem zEX_eq (cI cZ cA : ClassId) (x q : Nat) (a : Nat → Nat) (f3 f4 f6 f7 f23 : Nat → Int32) (F : Nat → Nat → Int32) : zEX cI cZ cA x q a f3 f4 f6 f7 f23 F = CWO cA (zo x q a) (zb q a) zP0 zS0 ++ (List.range 76).map (fun k => (zb q a k, .inl (cC cI cZ k, cL k, .inl (zG f3 f4 f6 f7 f23 F k)))) := by
  have e : (fun j => some (zb q a (28 + j))) = fun j => some (q + 1 + j) := funext fun j => by
    unfold zb
    rw [if_neg (by omega), Nat.add_sub_cancel_left]
  unfold CWO
  rw [e]
  rfl
set_option maxHeartbeats 4000000 in
theorem zEX_alike {cI cZ cA : ClassId} {x q : Nat} {a : Nat → Nat} {f3 f4 f6 f7 f23 : Nat → Int32} {F : Nat → Nat → Int32} (h3 : ∀ j, j < 6 → f3 j = -1) (h4 : ∀ j, j < 6 → f4 j = -1) (h6 : ∀ j, j < 6 → f6 j = -1) (h7 : ∀ j, j < 576 → f7 j = -1) (h23 : ∀ j, j < 64 → f23 j = -1) (hF : ∀ j, j < 48 → ∀ i, i < 256 → F j i = -1) : zalike (zEX cI cZ cA x q a f3 f4 f6 f7 f23 F) (CW cI cZ cA (zo x q a) (zb q a) zP0 zS0) := by
  rw [zEX_eq]
  unfold CW CWA
  refine zalike_map (fun k hk => ⟨rfl, fun D cl H h => zalike_arr (fun j hj => ?_) h⟩)
  show zG f3 f4 f6 f7 f23 F k j = cF zP0 zS0 k j
  by_cases c3 : k = 3
  · subst c3; exact h3 j hj
  by_cases c4 : k = 4
  · subst c4; exact h4 j hj
  by_cases c6 : k = 6
  · subst c6; exact h6 j hj
  by_cases c7 : k = 7
  · subst c7; exact h7 j hj
  by_cases c23 : k = 23
  · subst c23; exact h23 j hj
  unfold zG cF
  rw [if_neg c3, if_neg c4, if_neg c6, if_neg c7, if_neg c23]
  by_cases c28 : k < 28
  · rw [if_pos c28]
    by_cases c9 : k < 9
    · rw [if_pos c9]
      show (0 : Int32) = if k = 3 ∨ k = 4 ∨ k = 6 ∨ k = 7 then -1 else 0
      rw [if_neg (by omega)]
    · rw [if_neg c9]
      show (0 : Int32) = if k = 23 ∨ 28 ≤ k then -1 else 0
      rw [if_neg (by omega)]
  · rw [if_neg c28, if_neg (by omega)]
    show F (k - 28) j = if k = 23 ∨ 28 ≤ k then -1 else 0
    rw [if_pos (by omega)]
    rw [cL_row (by omega)] at hj
    exact hF _ (by omega) j hj
def zmp (k : Nat) : Nat := match k with
  | 0 => 0
  | 1 => 1
  | 2 => 2
  | 3 => 7
  | 4 => 8
  | 5 => 9
  | 6 => 12
  | 7 => 3
  | 8 => 4
  | 9 => 5
  | 10 => 6
  | 11 => 10
  | 12 => 11
  | 13 => 13
  | 14 => 14
  | 15 => 15
  | 16 => 16
  | 17 => 17
  | 18 => 18
  | 19 => 19
  | 20 => 20
  | 21 => 21
  | 22 => 22
  | 23 => 23
  | 24 => 24
  | 25 => 25
  | 26 => 26
  | 27 => 27
  | 28 => 28
  | 29 => 29
  | 30 => 30
  | 31 => 31
  | 32 => 32
  | 33 => 33
  | 34 => 34
  | 35 => 35
  | 36 => 36
  | 37 => 37
  | k => k
def zGm (fo fq fl fp fv : Nat → Int32) (k : Nat) : Nat → Int32 := if k = 3 then fo else if k = 4 then fq else if k = 6 then fl else if k = 22 then fp else if k = 20 then fv else fun _ => 0
def zEM (cI cZ : ClassId) (mo : Nat) (mb : Nat → Nat) (fo fq fl fp fv : Nat → Int32) : va_W := [(mo, .inr (7, [.int 0, .int 0, .int 0, .int 0, .ref (mb 0), .ref (mb 1), .ref (mb 2), .ref (mb 3), .ref (mb 4), .ref (mb 5), .ref (mb 6), .ref (mb 7), .ref (mb 8), .ref (mb 9), .ref (mb 10), .ref (mb 11), .ref (mb 12), .ref (mb 13), .ref (mb 14), .ref (mb 15), .ref (mb 16), .ref (mb 17), .ref (mb 18), .ref (mb 19), .ref (mb 20), .ref (mb 21), .ref (mb 22), .ref (mb 23), .ref (mb 24), .ref (mb 25), .ref (mb 26), .ref (mb 27), .ref (mb 28), .ref (mb 29), .ref (mb 30), .ref (mb 31), .ref (mb 32), .int 0, .int 0, .int 0, .int 0, .int 0, .int 0, .int 0, .ref (mb 33), .ref (mb 34), .ref (mb 35), .ref (mb 36), .int 0, .int 0, .int 0, .int 0, .ref (mb 37)])), ((mb 0), .inl (cI, 60, .inl (fun _ => 0))), ((mb 1), .inl (cI, 60, .inl (fun _ => 0))), ((mb 2), .inl (cI, 60, .inl (fun _ => 0))), ((mb 7), .inl (cI, 6, .inl fo)), ((mb 8), .inl (cI, 6, .inl fq)), ((mb 9), .inl (cZ, 6, .inl (fun _ => 0))), ((mb 12), .inl (cI, 576, .inl fl)), ((mb 3), .inl (cZ, 60, .inl (fun _ => 0))), ((mb 4), .inl (cI, 60, .inl (fun _ => 0))), ((mb 5), .inl (cI, 60, .inl (fun _ => 0))), ((mb 6), .inl (cI, 120, .inl (fun _ => 0))), ((mb 10), .inl (cI, 6, .inl (fun _ => 0))), ((mb 11), .inl (cI, 6, .inl (fun _ => 0))), ((mb 13), .inl (cI, 288, .inl (fun _ => 0))), ((mb 14), .inl (cI, 288, .inl (fun _ => 0))), ((mb 15), .inl (cI, 288, .inl (fun _ => 0))), ((mb 16), .inl (cI, 288, .inl (fun _ => 0))), ((mb 17), .inl (cI, 48, .inl (fun _ => 0))), ((mb 18), .inl (cI, 48, .inl (fun _ => 0))), ((mb 19), .inl (cI, 5472, .inl (fun _ => 0))), ((mb 20), .inl (cI, 12288, .inl fv)), ((mb 21), .inl (cI, 12288, .inl (fun _ => 0))), ((mb 22), .inl (cI, 64, .inl fp)), ((mb 23), .inl (cI, 120, .inl (fun _ => 0))), ((mb 24), .inl (cI, 7680, .inl (fun _ => 0))), ((mb 25), .inl (cI, 7680, .inl (fun _ => 0))), ((mb 26), .inl (cI, 7680, .inl (fun _ => 0))), ((mb 27), .inl (cI, 7680, .inl (fun _ => 0))), ((mb 28), .inl (cI, 120, .inl (fun _ => 0))), ((mb 29), .inl (cI, 7680, .inl (fun _ => 0))), ((mb 30), .inl (cI, 7680, .inl (fun _ => 0))), ((mb 31), .inl (cI, 7680, .inl (fun _ => 0))), ((mb 32), .inl (cI, 7680, .inl (fun _ => 0))), ((mb 33), .inl (cI, 48, .inl (fun _ => 0))), ((mb 34), .inl (cI, 48, .inl (fun _ => 0))), ((mb 35), .inl (cI, 4096, .inl (fun _ => 0))), ((mb 36), .inl (cI, 4096, .inl (fun _ => 0))), ((mb 37), .inl (cI, 120, .inl (fun _ => 0)))]
set_option maxHeartbeats 4000000 in
set_option maxRecDepth 100000 in
theorem zEM_eq (cI cZ cA : ClassId) (mo : Nat) (mb : Nat → Nat) (fo fq fl fp fv : Nat → Int32) : zEM cI cZ mo mb fo fq fl fp fv = MWO cA (fun _ => mo) (fun k => mb (zmp k)) zPm zSm ++ (List.range 38).map (fun k => (mb (zmp k), .inl (mC cI cZ k, mL k, .inl (zGm fo fq fl fp fv k)))) := rfl
set_option maxHeartbeats 4000000 in
theorem zEM_alike {cI cZ cA : ClassId} {mo : Nat} {mb : Nat → Nat} {fo fq fl fp fv : Nat → Int32} (ho : ∀ j, j < 6 → fo j = -1) (hq : ∀ j, j < 6 → fq j = -1) (hl : ∀ j, j < 576 → fl j = -1) (hp : ∀ j, j < 64 → fp j = -1) (hv : ∀ j, j < 12288 → fv j = -1) : zalike (zEM cI cZ mo mb fo fq fl fp fv) (MW cI cZ cA (fun _ => mo) (fun k => mb (zmp k)) zPm zSm) := by
  rw [zEM_eq (cA := cA)]
  unfold MW MWA
  refine zalike_map (fun k hk => ⟨rfl, fun D cl H h => zalike_arr (fun j hj => ?_) h⟩)
  show zGm fo fq fl fp fv k j = mF zPm zSm k j
  by_cases c3 : k = 3
  · subst c3; exact ho j hj
  by_cases c4 : k = 4
  · subst c4; exact hq j hj
  by_cases c6 : k = 6
  · subst c6; exact hl j hj
  by_cases c22 : k = 22
  · subst c22; exact hp j hj
  by_cases c20 : k = 20
  · subst c20; exact hv j hj
  unfold zGm mF
  rw [if_neg c3, if_neg c4, if_neg c6, if_neg c22, if_neg c20]
  by_cases c7 : k < 7
  · rw [if_pos c7]
    show (0 : Int32) = if k = 3 ∨ k = 4 ∨ k = 6 then -1 else 0
    rw [if_neg (by omega)]
  · rw [if_neg c7]
    show (0 : Int32) = if k = 20 ∨ k = 22 then -1 else 0
    rw [if_neg (by omega)]
theorem zc0 (k : Nat) : zr (cLo k) (cHi k) 0 := by
  have z0 : (0 : Int32).toInt = 0 := by decide
  unfold zr
  rw [z0]
  unfold cLo cHi
  refine ⟨?_, ?_⟩ <;> split <;> decide
theorem zcI0 (k : Nat) : zr (cLoI k) (cHiI k) 0 := by
  have z0 : (0 : Int32).toInt = 0 := by decide
  unfold zr
  rw [z0]
  unfold cLoI cHiI
  refine ⟨?_, ?_⟩ <;> split <;> decide
theorem zm00 (k : Nat) : zr (mLo k) (mHi k) 0 := by
  have z0 : (0 : Int32).toInt = 0 := by decide
  unfold zr
  rw [z0]
  unfold mLo mHi
  refine ⟨?_, ?_⟩ <;> split <;> decide
theorem zmI0 (k : Nat) : zr (mLoI k) (mHiI k) 0 := by
  have z0 : (0 : Int32).toInt = 0 := by decide
  unfold zr
  rw [z0]
  unfold mLoI mHiI
  refine ⟨?_, ?_⟩ <;> split <;> decide
theorem zP0_ok : cok zP0 := by
  refine ⟨fun k j => ?_, fun t => zcI0 t, fun k hk j => ?_⟩
  · show zr (cLo k) (cHi k) (if k = 3 ∨ k = 4 ∨ k = 6 ∨ k = 7 then -1 else 0)
    by_cases c : k = 3 ∨ k = 4 ∨ k = 6 ∨ k = 7
    · rw [if_pos c]; rcases c with rfl | rfl | rfl | rfl <;> decide
    · rw [if_neg c]; exact zc0 k
  · have c : k = 9 ∨ k = 11 := by simpa [cK] using hk
    rcases c with rfl | rfl <;> exact (by unfold zck; decide : zck 0)
theorem zS0_ok : cok zS0 := by
  refine ⟨fun k j => ?_, fun t => ?_, fun k hk j => ?_⟩
  · show zr (cLo k) (cHi k) (if k = 23 ∨ 28 ≤ k then -1 else 0)
    by_cases c : k = 23 ∨ 28 ≤ k
    · rw [if_pos c]
      rcases c with rfl | c
      · decide
      · rw [cLo_row (by omega), cHi_row (by omega)]; exact zr_any _
    · rw [if_neg c]; exact zc0 k
  · show zr (cLoI t) (cHiI t) (if t = 11 then 1 else 0)
    by_cases c : t = 11
    · rw [if_pos c]; subst c; decide
    · rw [if_neg c]; exact zcI0 t
  · have c : k = 9 ∨ k = 11 := by simpa [cK] using hk
    rcases c with rfl | rfl <;> exact (by unfold zck; decide : zck 0)
theorem zPm_ok : mok zPm := by
  refine ⟨fun k j => ?_, fun t => zmI0 t, fun k hk j => by cases hk⟩
  show zr (mLo k) (mHi k) (if k = 3 ∨ k = 4 ∨ k = 6 then -1 else 0)
  by_cases c : k = 3 ∨ k = 4 ∨ k = 6
  · rw [if_pos c]; rcases c with rfl | rfl | rfl <;> decide
  · rw [if_neg c]; exact zm00 k
theorem zSm_ok : mok zSm := by
  refine ⟨fun k j => ?_, fun t => zmI0 t, fun k hk j => by cases hk⟩
  show zr (mLo k) (mHi k) (if k = 20 ∨ k = 22 then -1 else 0)
  by_cases c : k = 20 ∨ k = 22
  · rw [if_pos c]; rcases c with rfl | rfl <;> decide
  · rw [if_neg c]; exact zm00 k
theorem zIv0 : zIv zP0 zPm := by
  refine ⟨zP0_ok, zPm_ok, ⟨rfl, rfl, rfl, rfl, rfl, rfl, rfl⟩, rfl, fun j => ⟨fun _ => rfl, fun _ => rfl⟩, ⟨0, 0, ⟨by decide, by decide, by decide, by decide, fun j => (by decide : zr 0 5 0), fun l hl => absurd hl (Nat.not_lt_zero _)⟩, fun q hq h => absurd rfl h⟩, Or.inl ⟨rfl, fun j => rfl, fun j => rfl, fun q hq hl => ?_, fun j => Or.inl rfl⟩⟩
  have z0 : (0 : Int32).toInt = 0 := by decide
  have h2 : q.toInt < 2 * (0 : Int32).toInt := hl
  have h1 := hq.1
  omega
