abbrev zr (lo hi : Int) (v : Int32) : Prop := lo ≤ v.toInt ∧ v.toInt ≤ hi
theorem zr_any (v : Int32) : zr (-2147483648) 2147483647 v := ⟨Int32.le_toInt v, by have := Int32.toInt_lt v; omega⟩
theorem zr_mono {a b lo hi : Int} {v : Int32} (h : zr a b v) (hh : lo ≤ a ∧ b ≤ hi) : zr lo hi v := ⟨Int.le_trans hh.1 h.1, Int.le_trans h.2 hh.2⟩
theorem zbm {x : Int} (h : -2147483648 ≤ x ∧ x ≤ 2147483647) : x.bmod (2 ^ 32) = x := by
  unfold Int.bmod
  have e : ((2 ^ 32 : Nat) : Int) = 4294967296 := by decide
  simp only [e]
  split <;> omega
theorem zr_add {a b c d lo hi : Int} {x y v : Int32} (hx : zr a b x) (hy : zr c d y) (e : v = x + y) (h : (-2147483648 ≤ a + c ∧ b + d ≤ 2147483647) ∧ lo ≤ a + c ∧ b + d ≤ hi) : zr lo hi v := by
  subst e
  obtain ⟨h1, h2⟩ := hx; obtain ⟨h3, h4⟩ := hy; obtain ⟨⟨g1, g2⟩, g3, g4⟩ := h
  have e : (x + y).toInt = x.toInt + y.toInt := by rw [Int32.toInt_add, zbm ⟨by omega, by omega⟩]
  unfold zr
  rw [e]
  constructor <;> omega
theorem zr_sub {a b c d lo hi : Int} {x y v : Int32} (hx : zr a b x) (hy : zr c d y) (e : v = x - y) (h : (-2147483648 ≤ a - d ∧ b - c ≤ 2147483647) ∧ lo ≤ a - d ∧ b - c ≤ hi) : zr lo hi v := by
  subst e
  obtain ⟨h1, h2⟩ := hx; obtain ⟨h3, h4⟩ := hy; obtain ⟨⟨g1, g2⟩, g3, g4⟩ := h
  have e : (x - y).toInt = x.toInt - y.toInt := by rw [Int32.toInt_sub, zbm ⟨by omega, by omega⟩]
  unfold zr
  rw [e]
  constructor <;> omega
theorem zr_mul {a b c d lo hi : Int} {x y v : Int32} (hx : zr a b x) (hy : zr c d y) (e : v = x * y) (h : (0 ≤ a ∧ 0 ≤ c) ∧ b * d ≤ 2147483647 ∧ lo ≤ a * c ∧ b * d ≤ hi) : zr lo hi v := by
  subst e
  obtain ⟨h1, h2⟩ := hx; obtain ⟨h3, h4⟩ := hy; obtain ⟨⟨g1, g2⟩, g3, g4, g5⟩ := h
  have m1 : x.toInt * y.toInt ≤ b * d := Int.mul_le_mul h2 h4 (by omega) (by omega)
  have m2 : a * c ≤ x.toInt * y.toInt := Int.mul_le_mul h1 h3 g2 (by omega)
  have m3 : 0 ≤ x.toInt * y.toInt := Int.mul_nonneg (by omega) (by omega)
  have e : (x * y).toInt = x.toInt * y.toInt := by rw [Int32.toInt_mul, zbm ⟨by omega, by omega⟩]
  unfold zr
  rw [e]
  constructor <;> omega
theorem zr_div {a b lo hi c : Int} {x y v : Int32} (hx : zr a b x) (hy : y.toInt = c) (e : v = x / y) (h : (0 ≤ a ∧ 0 < c) ∧ lo ≤ a / c ∧ b / c ≤ hi) : zr lo hi v := by
  subst e
  obtain ⟨h1, h2⟩ := hx; obtain ⟨⟨g1, g2⟩, g3, g4⟩ := h
  have hne : y ≠ -1 := fun q => by rw [q] at hy; have : (-1 : Int32).toInt = -1 := by decide
                                   omega
  have e : (x / y).toInt = x.toInt / c := by
    first
      | rw [Int32.toInt_div_of_ne_right (Or.inr hne)]
      | rw [Int32.toInt_div_of_ne_right _ _ hne]
    rw [hy, Int.tdiv_eq_ediv_of_nonneg (by omega)]
  unfold zr
  rw [e]
  exact ⟨Int.le_trans g3 (Int.ediv_le_ediv g2 h1), Int.le_trans (Int.ediv_le_ediv g2 h2) g4⟩
theorem zr_rem {a b lo hi c : Int} {x y v : Int32} (hx : zr a b x) (hy : y.toInt = c) (e : v = x - x / y * y) (h : (0 ≤ a ∧ 0 < c) ∧ lo ≤ 0 ∧ c - 1 ≤ hi) : zr lo hi v ∧ v.toInt = x.toInt % c := by
  subst e
  obtain ⟨h1, h2⟩ := hx; obtain ⟨⟨g1, g2⟩, g3, g4⟩ := h
  have hne : y ≠ -1 := fun q => by rw [q] at hy; have : (-1 : Int32).toInt = -1 := by decide
                                   omega
  have e1 : (x / y).toInt = x.toInt / c := by
    first
      | rw [Int32.toInt_div_of_ne_right (Or.inr hne)]
      | rw [Int32.toInt_div_of_ne_right _ _ hne]
    rw [hy, Int.tdiv_eq_ediv_of_nonneg (by omega)]
  have k1 := Int32.toInt_lt x
  have q1 : 0 ≤ x.toInt / c := Int.ediv_nonneg (by omega) (by omega)
  have q2 : x.toInt / c * c ≤ x.toInt := Int.ediv_mul_le _ (by omega)
  have q3 : 0 ≤ x.toInt / c * c := Int.mul_nonneg q1 (by omega)
  have e2 : (x / y * y).toInt = x.toInt / c * c := by rw [Int32.toInt_mul, e1, hy, zbm ⟨by omega, by omega⟩]
  have e3 : (x - x / y * y).toInt = x.toInt % c := by
    rw [Int32.toInt_sub, e2, zbm ⟨by omega, by omega⟩]
    have := Int.mul_ediv_add_emod x.toInt c
    have hc := Int.mul_comm c (x.toInt / c)
    omega
  have q4 := Int.emod_nonneg x.toInt (show c ≠ 0 by omega)
  have q5 := Int.emod_lt_of_pos x.toInt g2
  refine ⟨?_, e3⟩
  unfold zr
  rw [e3]
  constructor <;> omega
theorem zr_and {x y v : Int32} {c lo hi : Int} (hy : y.toInt = c) (e : v = x &&& y) (h : 0 ≤ c ∧ lo ≤ 0 ∧ c ≤ hi) : zr lo hi v := by
  subst e
  have hm : y.toBitVec.msb = false := by
    rw [BitVec.msb_eq_toInt]
    have : y.toBitVec.toInt = c := hy
    simp; omega
  have hm2 : (x &&& y).toBitVec.msb = false := by rw [Int32.toBitVec_and, BitVec.msb_and, hm, Bool.and_false]
  have e1 : (x &&& y).toInt = (x.toBitVec &&& y.toBitVec).toNat := by
    show (x &&& y).toBitVec.toInt = _
    rw [BitVec.toInt_eq_toNat_of_msb hm2, Int32.toBitVec_and]
  have e2 : c = y.toBitVec.toNat := by
    have : y.toBitVec.toInt = c := hy
    rw [← this, BitVec.toInt_eq_toNat_of_msb hm]
  have h3 : (x.toBitVec &&& y.toBitVec).toNat ≤ y.toBitVec.toNat := by
    rw [BitVec.toNat_and]; exact Nat.and_le_right
  unfold zr
  rw [e1]
  constructor <;> omega
theorem ztn {x : Int32} {a b : Int} (h : zr a b x) (ha : 0 ≤ a) : (x.toNatClampNeg : Int) = x.toInt := by
  show ((x.toInt.toNat : Nat) : Int) = _
  have := h.1
  omega
theorem zne_lo {a b : Int} {x y : Int32} (h : zr a b x) (c : ¬ x = y) (hy : y.toInt = a) : zr (a + 1) b x := by
  obtain ⟨h1, h2⟩ := h
  have : x.toInt ≠ a := fun q => c (Int32.toInt_inj.mp (q.trans hy.symm))
  exact ⟨by omega, h2⟩
theorem zne_hi {a b : Int} {x y : Int32} (h : zr a b x) (c : ¬ x = y) (hy : y.toInt = b) : zr a (b - 1) x := by
  obtain ⟨h1, h2⟩ := h
  have : x.toInt ≠ b := fun q => c (Int32.toInt_inj.mp (q.trans hy.symm))
  exact ⟨h1, by omega⟩
theorem zlt_x {a b c d lo hi : Int} {x y : Int32} (hx : zr a b x) (hy : zr c d y) (q : x < y) (h : lo ≤ a ∧ (b ≤ hi ∨ d - 1 ≤ hi)) : zr lo hi x := by
  have := Int32.lt_iff_toInt_lt.mp q
  obtain ⟨h1, h2⟩ := hx; obtain ⟨h3, h4⟩ := hy
  exact ⟨by omega, by omega⟩
theorem zlt_y {a b c d lo hi : Int} {x y : Int32} (hx : zr a b x) (hy : zr c d y) (q : x < y) (h : (lo ≤ c ∨ lo ≤ a + 1) ∧ d ≤ hi) : zr lo hi y := by
  have := Int32.lt_iff_toInt_lt.mp q
  obtain ⟨h1, h2⟩ := hx; obtain ⟨h3, h4⟩ := hy
  exact ⟨by omega, by omega⟩
theorem zle_x {a b c d lo hi : Int} {x y : Int32} (hx : zr a b x) (hy : zr c d y) (q : x ≤ y) (h : lo ≤ a ∧ (b ≤ hi ∨ d ≤ hi)) : zr lo hi x := by
  have := Int32.le_iff_toInt_le.mp q
  obtain ⟨h1, h2⟩ := hx; obtain ⟨h3, h4⟩ := hy
  exact ⟨by omega, by omega⟩
theorem zle_y {a b c d lo hi : Int} {x y : Int32} (hx : zr a b x) (hy : zr c d y) (q : x ≤ y) (h : (lo ≤ c ∨ lo ≤ a) ∧ d ≤ hi) : zr lo hi y := by
  have := Int32.le_iff_toInt_le.mp q
  obtain ⟨h1, h2⟩ := hx; obtain ⟨h3, h4⟩ := hy
  exact ⟨by omega, by omega⟩
theorem znlt {x y : Int32} (q : ¬ x < y) : y ≤ x := by
  rw [Int32.lt_iff_toInt_lt] at q; rw [Int32.le_iff_toInt_le]; omega
theorem znle {x y : Int32} (q : ¬ x ≤ y) : y < x := by
  rw [Int32.le_iff_toInt_le] at q; rw [Int32.lt_iff_toInt_lt]; omega
theorem zeq_x {a b : Int} {x y : Int32} (hy : zr a b y) (q : x = y) : zr a b x := q ▸ hy
theorem zxor1 {a n : Nat} (h : a < 2 * n) : a ^^^ 1 < 2 * n := by
  have h1 : (a ^^^ 1) / 2 = a / 2 := by
    rw [Nat.xor_div_two]
    simp
  have h2 := Nat.div_add_mod (a ^^^ 1) 2
  have h3 := Nat.div_add_mod a 2
  have h4 := Nat.mod_lt (a ^^^ 1) (show 0 < 2 by decide)
  omega
theorem zr_xor {a b lo hi : Int} {x v : Int32} (hx : zr a b x) (e : v = x ^^^ 1) (h : 0 ≤ a ∧ lo ≤ 0 ∧ b ≤ hi ∧ hi % 2 = 1) : zr lo hi v := by
  subst e
  obtain ⟨h1, h2⟩ := hx
  have hi0 : x.toInt = x.toBitVec.toInt := rfl
  have hm : x.toBitVec.msb = false := by
    rw [BitVec.msb_eq_toInt]
    simp; omega
  have hm2 : (x ^^^ 1).toBitVec.msb = false := by
    rw [Int32.toBitVec_xor, BitVec.msb_xor, hm]; decide
  have e0 : x.toInt = x.toBitVec.toNat := by rw [hi0, BitVec.toInt_eq_toNat_of_msb hm]
  have e1 : (x ^^^ 1).toInt = ((x.toBitVec.toNat ^^^ 1 : Nat) : Int) := by
    show (x ^^^ 1).toBitVec.toInt = _
    rw [BitVec.toInt_eq_toNat_of_msb hm2, Int32.toBitVec_xor, BitVec.toNat_xor]
    rfl
  have k := zxor1 (a := x.toBitVec.toNat) (n := ((hi + 1) / 2).toNat) (by omega)
  unfold zr
  rw [e1]
  constructor <;> omega
theorem z01 {x : Int32} (h : zr 0 1 x) : x = 0 ∨ x = 1 := by
  obtain ⟨h1, h2⟩ := h
  have k0 : (0 : Int32).toInt = 0 := by decide
  have k1 : (1 : Int32).toInt = 1 := by decide
  rcases (show x.toInt = 0 ∨ x.toInt = 1 by omega) with q | q
  · exact Or.inl (Int32.toInt_inj.mp (q.trans k0.symm))
  · exact Or.inr (Int32.toInt_inj.mp (q.trans k1.symm))
def zl {α : Type} {β : Type} (v : α) (f : α → β) : β := f v
def zl2 {α β γ : Type} (p : α × β) (f : α → β → γ) : γ := f p.1 p.2
def zl3 {α β γ δ : Type} (p : α × β × γ) (f : α → β → γ → δ) : δ := f p.1 p.2.1 p.2.2
theorem zfix_ex {α : Type} (d : α) (f : α → α) : ∃ F : Nat → α, F 0 = d ∧ ∀ n, F (n + 1) = f (F n) := ⟨fun n => Nat.rec d (fun _ x => f x) n, rfl, fun _ => rfl⟩
/-- f n times over d: sealed, so that no number is ever unfolded -/
noncomputable def zfix {α : Type} (d : α) (f : α → α) : Nat → α := Classical.choose (zfix_ex d f)
theorem zfix_s {α : Type} (d : α) (f : α → α) (n : Nat) : zfix d f (n + 1) = f (zfix d f n) := (Classical.choose_spec (zfix_ex d f)).2 n
theorem zl_s {α β : Type} {t : β} {v : α} {f : α → β} (E : t = zl v f) {x : α} (e : x = v) : t = f x := by rw [E, e]; rfl
theorem zl2_s {α β γ : Type} {t : γ} {p : α × β} {f : α → β → γ} (E : t = zl2 p f) {x : α} {y : β} (e : (x, y) = p) : t = f x y := by rw [E, ← e]; rfl
theorem zl3_s {α β γ δ : Type} {t : δ} {p : α × β × γ} {f : α → β → γ → δ} (E : t = zl3 p f) {x : α} {y : β} {z : γ} (e : (x, y, z) = p) : t = f x y z := by rw [E, ← e]; rfl
theorem zrne {a b : Int} {x y : Int32} (h : zr a b x) (hh : ¬ (a ≤ y.toInt ∧ y.toInt ≤ b)) : ¬ x = y := fun e => hh (e ▸ h)
theorem zorm {p : Prop} {a b lo hi : Int} {x : Int32} (h : p ∨ zr a b x) (hh : lo ≤ a ∧ b ≤ hi) : p ∨ zr lo hi x := h.elim Or.inl (fun q => Or.inr (zr_mono q hh))
theorem zor {k y : Int32} {F : Prop} (h : k = 0 ∨ ¬ y = 0) (h2 : y = 0 ∨ F) : k = 0 ∨ F := by
  rcases h with h | h
  · exact Or.inl h
  · exact Or.inr (h2.resolve_left h)

theorem zin {a b : Int} {i : Int32} {n : Nat} (h : zr a b i) (hh : 0 ≤ a ∧ b < (n : Int)) : vp_in i n := by
  unfold vp_in
  have e := ztn h hh.1
  obtain ⟨h1, h2⟩ := h
  rintro (q | q)
  · have := Int32.lt_iff_toInt_lt.mp q
    have z : (0 : Int32).toInt = 0 := by decide
    omega
  · omega
theorem znar {x : Int32} (h : zr 0 1 x) : narrow .boolean (.int x) = .int x := by
  rcases z01 h with rfl | rfl <;> rfl
theorem zfits {x : Int32} (h : zr 0 1 x) : fits .boolean (.int x) = true := by
  rcases z01 h with rfl | rfl <;> rfl
theorem znar2 {x : Int32} (h : zr 0 1 x) : vp_nar .boolean x = x := by
  rcases z01 h with rfl | rfl <;> rfl
theorem zfuelU {a b M : Int} {x : Int32} {N : Nat} (h : zr a b x) (hh : M + 1 - a ≤ (N : Int)) : M + 1 - x.toInt ≤ (N : Int) := by have := h.1; omega
theorem zfuelD {a b M : Int} {x : Int32} {N : Nat} (h : zr a b x) (hh : b - M + 1 ≤ (N : Int)) : x.toInt - M + 1 ≤ (N : Int) := by have := h.2; omega
theorem zfuel0U {a M : Int} {x : Int32} (h : zr a M x) : ¬ (M + 1 - x.toInt ≤ ((0 : Nat) : Int)) := by have := h.2; omega
theorem zfuel0D {b M : Int} {x : Int32} (h : zr M b x) : ¬ (x.toInt - M + 1 ≤ ((0 : Nat) : Int)) := by have := h.1; omega
theorem zstepU {a b M : Int} {x y : Int32} {n : Nat} (e : x = y + 1) (h : zr a b y) (hh : -2147483648 ≤ a ∧ b ≤ 2147483646) (hm : M + 1 - y.toInt ≤ ((n + 1 : Nat) : Int)) : M + 1 - x.toInt ≤ (n : Int) := by
  subst e
  obtain ⟨h1, h2⟩ := h
  have z : (1 : Int32).toInt = 1 := by decide
  have e : (y + 1).toInt = y.toInt + 1 := by rw [Int32.toInt_add, z, zbm ⟨by omega, by omega⟩]
  omega
theorem zstepD {a b M : Int} {x y : Int32} {n : Nat} (e : x = y + (-1)) (h : zr a b y) (hh : -2147483647 ≤ a ∧ b ≤ 2147483647) (hm : y.toInt - M + 1 ≤ ((n + 1 : Nat) : Int)) : x.toInt - M + 1 ≤ (n : Int) := by
  subst e
  obtain ⟨h1, h2⟩ := h
  have z : (-1 : Int32).toInt = -1 := by decide
  have e : (y + (-1)).toInt = y.toInt + (-1) := by rw [Int32.toInt_add, z, zbm ⟨by omega, by omega⟩]
  omega
def zbind {α β : Type} (x : Except Nat α) (f : α → Except Nat β) : Except Nat β := match x with
  | .error k => .error k
  | .ok a => f a
theorem zokE {α : Type} {t : Except Nat α} {x y : α} (E : t = .ok x) (h : t = .ok y) : y = x := by
  rw [E] at h
  cases h
  rfl
theorem zerr {α : Type} {j k : Nat} (h : (.error j : Except Nat α) = .error k) : j = k := by
  cases h
  rfl
/-- a cast's name is below 114 -/
def zck (c : Int32) : Prop := zr 0 113 ((c >>> (9 &&& 31)) &&& 127)
/-- a state: rows of ints, and single ints -/
def ZS : Type := (Nat → Nat → Int32) × (Nat → Int32)
def ZS.mk (f : Nat → Nat → Int32) (i : Nat → Int32) : ZS := (f, i)
def ZS.F (S : ZS) : Nat → Nat → Int32 := S.1
def ZS.I (S : ZS) : Nat → Int32 := S.2
def ZS.row (S : ZS) (k : Nat) (f : Nat → Int32) : ZS := ZS.mk (fun q => if q = k then f else S.F q) S.I
def ZS.setF (S : ZS) (k i : Nat) (v : Int32) : ZS := S.row k (upd (S.F k) i v)
def ZS.setI (S : ZS) (t : Nat) (v : Int32) : ZS := ZS.mk S.F (fun q => if q = t then v else S.I q)
theorem ZS.row_self (S : ZS) (k : Nat) (f : Nat → Int32) : (S.row k f).F k = f := if_pos rfl
theorem ZS.row_ne (S : ZS) {k q : Nat} (f : Nat → Int32) (h : q ≠ k) : (S.row k f).F q = S.F q := if_neg h
abbrev zTZ (cI cZ cJ cA : ClassId) : List (ClassId × FieldType) := [(cI, .int), (cZ, .boolean), (cJ, .long), (cA, .array .int)]
/-- ends: the state that the method leaves, and what it answers -/
def zQG {α : Type} (cl : List vw_C) (dC : Nat → ClassId) (dI : Nat → Nat → Nat) (post : α → Prop) (Wf : α → va_W) (A : Nat → Prop) : Array Value → State → Outcome → State → Prop := va_Qv post (fun x t => va_P (dC, dI) cl (Wf x) t.heap ∧ va_D A (Wf x)) A
def zQH {α : Type} (cl : List vw_C) (dC : Nat → ClassId) (dI : Nat → Nat → Nat) (post : Int32 → α → Prop) (Wf : α → va_W) (A : Nat → Prop) : Array Value → State → Outcome → State → Prop := va_Qi post (fun x t => va_P (dC, dI) cl (Wf x) t.heap ∧ va_D A (Wf x)) A
section ZSt
variable {p : Program} {l : Launch} {e : Env} {R : Room} {s : State} {m : MethodId} {args : Array Value} {below : List Frame} {meth : Method} {c : Code} {H : Heap} {locs : List Loc} {cells slots : Nat} {Q : State → Prop}
theorem zgenQ {g : JFrame} (k : ∀ Q' : State → Prop, Q' = Q → W p l e R s m args below meth c H locs cells slots Q' g) : W p l e R s m args below meth c H locs cells slots Q g := k Q rfl
variable {cc : ByteArray} {pc : Nat} {ls : Array Slot} {rest st0 : List Value} {β : Type} {t : β}
variable {a : Array Value} {A0 : Nat → Prop} {H0 : Heap} {mc ms : Nat} {cl : List vw_C} {dC : Nat → ClassId} {dI : Nat → Nat → Nat}
theorem zcV {α : Type} {post : α → Prop} {Wf : α → va_W} {ws : va_W} (hr : va_Run p l e R s m args below meth c H locs cells slots mc ms (F0 m pc ls st0) rest (zQG cl dC dI post Wf (va_A ws H.size) a) (va_A ws H.size)) (hD : va_D A0 ws) (hS : va_S A0 H0 H locs) (hA : ∀ q, H0.size ≤ q → A0 q)
    (kk : ∀ (x : α) (H1 : Heap) (locs1 : List Loc), post x → va_P (dC, dI) cl (Wf x) H1 → va_D A0 (Wf x) → va_S A0 H0 H1 locs1 → W p l e R s m args below meth c H1 locs1 (cells + mc) (slots + ms) Q (F0 m (pc + 3) ls rest)) : W p l e R s m args below meth c H locs cells slots Q (F0 m pc ls st0) := by
  have hF : ∀ q, va_A ws H.size q → A0 q := fun q h => by
    rcases h with ⟨k, e, h⟩ | h
    · exact hD.2 k (q, e) h
    · exact hA q (Nat.le_trans hS.1 h)
  refine va_callv hr hS (fun q _ h => hF q h) hF (fun x t H1 locs1 ht _ hw hB hz hk hS1 => ?_)
  obtain ⟨hP1, hD1⟩ := hB
  rw [ht] at hP1
  exact kk x H1 locs1 hw hP1 (hD1.weaken (fun _ q _ h => hF q.1 h)) hS1
theorem zcI {α : Type} {post : Int32 → α → Prop} {Wf : α → va_W} {ws : va_W} (hr : va_Run p l e R s m args below meth c H locs cells slots mc ms (F0 m pc ls st0) rest (zQH cl dC dI post Wf (va_A ws H.size) a) (va_A ws H.size)) (hD : va_D A0 ws) (hS : va_S A0 H0 H locs) (hA : ∀ q, H0.size ≤ q → A0 q)
    (kk : ∀ (r : Int32) (x : α) (H1 : Heap) (locs1 : List Loc), post r x → va_P (dC, dI) cl (Wf x) H1 → va_D A0 (Wf x) → va_S A0 H0 H1 locs1 → W p l e R s m args below meth c H1 locs1 (cells + mc) (slots + ms) Q (F0 m (pc + 3) ls (.int r :: rest))) : W p l e R s m args below meth c H locs cells slots Q (F0 m pc ls st0) := by
  have hF : ∀ q, va_A ws H.size q → A0 q := fun q h => by
    rcases h with ⟨k, e, h⟩ | h
    · exact hD.2 k (q, e) h
    · exact hA q (Nat.le_trans hS.1 h)
  refine va_calli hr hS (fun q _ h => hF q h) hF (fun r x t H1 locs1 ht _ hw hB hz hk hS1 => ?_)
  obtain ⟨hP1, hD1⟩ := hB
  rw [ht] at hP1
  exact kk r x H1 locs1 hw hP1 (hD1.weaken (fun _ q _ h => hF q.1 h)) hS1
theorem z_iinc (hexec : p.tables.exec = Jvm.exec) (hb : c.code = cc) {i nL k : Nat} {n : Int} {x cst : Int32} {lv : List (Nat × Value)} {lv' : Int32 → List (Nat × Value)} (hdg : decode cc pc = .ok (.iinc i n, 3)) (h : lv_has ls nL lv) (hk : lv[k]? = some (i, .int x)) (hc : Int32.ofInt n = cst) (hn : i < nL) (hl : ∀ v : Int32, (i, Value.int v) :: lv.filter (fun q => !(q.1 == i) && !(q.1 + 1 == i && q.2.category == 2)) = lv' v) {f : Int32 → β} (E : t = zl (x + cst) f)
    (kk : ∀ (v : Int32) (ls' : Array Slot), v = x + cst → t = f v → lv_has ls' nL (lv' v) → W p l e R s m args below meth c H locs cells slots Q (F0 m (pc + 3) ls' rest)) : W p l e R s m args below meth c H locs cells slots Q (F0 m pc ls rest) := by
  subst hc
  exact lv_iinc hexec hb hdg h hk rfl hn (hl _) (fun ls' h' => kk _ ls' rfl E h')

theorem z_iadd (hexec : p.tables.exec = Jvm.exec) (hb : c.code = cc) {x y : Int32} (hdg : decode cc pc = .ok (.iadd, 1)) {f : Int32 → β} (E : t = zl (x + y) f) (k : ∀ v : Int32, v = x + y → t = f v → W p l e R s m args below meth c H locs cells slots Q (F0 m (pc + 1) ls (.int v :: rest))) : W p l e R s m args below meth c H locs cells slots Q (F0 m pc ls (.int y :: .int x :: rest)) := lv_iadd hexec hb hdg (k _ rfl E)
theorem z_isub (hexec : p.tables.exec = Jvm.exec) (hb : c.code = cc) {x y : Int32} (hdg : decode cc pc = .ok (.isub, 1)) {f : Int32 → β} (E : t = zl (x - y) f) (k : ∀ v : Int32, v = x - y → t = f v → W p l e R s m args below meth c H locs cells slots Q (F0 m (pc + 1) ls (.int v :: rest))) : W p l e R s m args below meth c H locs cells slots Q (F0 m pc ls (.int y :: .int x :: rest)) := lv_isub hexec hb hdg (k _ rfl E)
theorem z_imul (hexec : p.tables.exec = Jvm.exec) (hb : c.code = cc) {x y : Int32} (hdg : decode cc pc = .ok (.imul, 1)) {f : Int32 → β} (E : t = zl (x * y) f) (k : ∀ v : Int32, v = x * y → t = f v → W p l e R s m args below meth c H locs cells slots Q (F0 m (pc + 1) ls (.int v :: rest))) : W p l e R s m args below meth c H locs cells slots Q (F0 m pc ls (.int y :: .int x :: rest)) := lv_imul hexec hb hdg (k _ rfl E)
theorem z_iand (hexec : p.tables.exec = Jvm.exec) (hb : c.code = cc) {x y : Int32} (hdg : decode cc pc = .ok (.iand, 1)) {f : Int32 → β} (E : t = zl (x &&& y) f) (k : ∀ v : Int32, v = x &&& y → t = f v → W p l e R s m args below meth c H locs cells slots Q (F0 m (pc + 1) ls (.int v :: rest))) : W p l e R s m args below meth c H locs cells slots Q (F0 m pc ls (.int y :: .int x :: rest)) := lv_iand hexec hb hdg (k _ rfl E)
theorem z_ior (hexec : p.tables.exec = Jvm.exec) (hb : c.code = cc) {x y : Int32} (hdg : decode cc pc = .ok (.ior, 1)) {f : Int32 → β} (E : t = zl (x ||| y) f) (k : ∀ v : Int32, v = x ||| y → t = f v → W p l e R s m args below meth c H locs cells slots Q (F0 m (pc + 1) ls (.int v :: rest))) : W p l e R s m args below meth c H locs cells slots Q (F0 m pc ls (.int y :: .int x :: rest)) := lv_ior hexec hb hdg (k _ rfl E)
theorem z_ixor (hexec : p.tables.exec = Jvm.exec) (hb : c.code = cc) {x y : Int32} (hdg : decode cc pc = .ok (.ixor, 1)) {f : Int32 → β} (E : t = zl (x ^^^ y) f) (k : ∀ v : Int32, v = x ^^^ y → t = f v → W p l e R s m args below meth c H locs cells slots Q (F0 m (pc + 1) ls (.int v :: rest))) : W p l e R s m args below meth c H locs cells slots Q (F0 m pc ls (.int y :: .int x :: rest)) := lv_ixor hexec hb hdg (k _ rfl E)
theorem z_ishl (hexec : p.tables.exec = Jvm.exec) (hb : c.code = cc) {x y : Int32} (hdg : decode cc pc = .ok (.ishl, 1)) {f : Int32 → β} (E : t = zl (x <<< (y &&& 31)) f) (k : ∀ v : Int32, v = x <<< (y &&& 31) → t = f v → W p l e R s m args below meth c H locs cells slots Q (F0 m (pc + 1) ls (.int v :: rest))) : W p l e R s m args below meth c H locs cells slots Q (F0 m pc ls (.int y :: .int x :: rest)) := lv_ishl hexec hb hdg (k _ rfl E)
theorem z_ishr (hexec : p.tables.exec = Jvm.exec) (hb : c.code = cc) {x y : Int32} (hdg : decode cc pc = .ok (.ishr, 1)) {f : Int32 → β} (E : t = zl (x >>> (y &&& 31)) f) (k : ∀ v : Int32, v = x >>> (y &&& 31) → t = f v → W p l e R s m args below meth c H locs cells slots Q (F0 m (pc + 1) ls (.int v :: rest))) : W p l e R s m args below meth c H locs cells slots Q (F0 m pc ls (.int y :: .int x :: rest)) := lv_ishr hexec hb hdg (k _ rfl E)
theorem z_idiv (hexec : p.tables.exec = Jvm.exec) (hb : c.code = cc) {x y : Int32} (hdg : decode cc pc = .ok (.idiv, 1)) (hne : ¬ y = 0) {f : Int32 → β} (E : t = zl (x / y) f) (k : ∀ v : Int32, v = x / y → t = f v → W p l e R s m args below meth c H locs cells slots Q (F0 m (pc + 1) ls (.int v :: rest))) : W p l e R s m args below meth c H locs cells slots Q (F0 m pc ls (.int y :: .int x :: rest)) := lv_idiv hexec hb hdg hne (k _ rfl E)
theorem z_irem (hexec : p.tables.exec = Jvm.exec) (hb : c.code = cc) {x y : Int32} (hdg : decode cc pc = .ok (.irem, 1)) (hne : ¬ y = 0) {f : Int32 → β} (E : t = zl (x - x / y * y) f) (k : ∀ v : Int32, v = x - x / y * y → t = f v → W p l e R s m args below meth c H locs cells slots Q (F0 m (pc + 1) ls (.int v :: rest))) : W p l e R s m args below meth c H locs cells slots Q (F0 m pc ls (.int y :: .int x :: rest)) := lv_irem hexec hb hdg hne (k _ rfl E)
theorem z_iushr (hexec : p.tables.exec = Jvm.exec) (hb : c.code = cc) {x y : Int32} (hdg : decode cc pc = .ok (.iushr, 1)) {f : Int32 → β} (E : t = zl ((x.toUInt32 >>> (y.toUInt32 &&& Int32.toUInt32 31)).toInt32) f) (k : ∀ v : Int32, v = (x.toUInt32 >>> (y.toUInt32 &&& Int32.toUInt32 31)).toInt32 → t = f v → W p l e R s m args below meth c H locs cells slots Q (F0 m (pc + 1) ls (.int v :: rest))) : W p l e R s m args below meth c H locs cells slots Q (F0 m pc ls (.int y :: .int x :: rest)) := lv_iushr hexec hb hdg rfl (k _ rfl E)
theorem z_icmp_eq (hexec : p.tables.exec = Jvm.exec) (hb : c.code = cc) {x y : Int32} {off : Int} {tgt : Nat} (hdg : decode cc pc = .ok (.if_icmp .eq off, 3)) (ht : (pc : Int) + off = (tgt : Int)) {A B : β} (E : t = if x = y then A else B) (kt : x = y → t = A → W p l e R s m args below meth c H locs cells slots Q (F0 m tgt ls rest)) (kf : ¬ x = y → t = B → W p l e R s m args below meth c H locs cells slots Q (F0 m (pc + 3) ls rest)) : W p l e R s m args below meth c H locs cells slots Q (F0 m pc ls (.int y :: .int x :: rest)) := lv_icmp_eq hexec hb hdg ht (fun h => kt h (E.trans (if_pos h))) (fun h => kf h (E.trans (if_neg h)))
theorem z_if_eq (hexec : p.tables.exec = Jvm.exec) (hb : c.code = cc) {x : Int32} {off : Int} {tgt : Nat} (hdg : decode cc pc = .ok (.ifCond .eq off, 3)) (ht : (pc : Int) + off = (tgt : Int)) {A B : β} (E : t = if x = 0 then A else B) (kt : x = 0 → t = A → W p l e R s m args below meth c H locs cells slots Q (F0 m tgt ls rest)) (kf : ¬ x = 0 → t = B → W p l e R s m args below meth c H locs cells slots Q (F0 m (pc + 3) ls rest)) : W p l e R s m args below meth c H locs cells slots Q (F0 m pc ls (.int x :: rest)) := lv_if_eq hexec hb hdg ht (fun h => kt h (E.trans (if_pos h))) (fun h => kf h (E.trans (if_neg h)))
theorem z_icmp_ne (hexec : p.tables.exec = Jvm.exec) (hb : c.code = cc) {x y : Int32} {off : Int} {tgt : Nat} (hdg : decode cc pc = .ok (.if_icmp .ne off, 3)) (ht : (pc : Int) + off = (tgt : Int)) {A B : β} (E : t = if x = y then A else B) (kt : ¬ x = y → t = B → W p l e R s m args below meth c H locs cells slots Q (F0 m tgt ls rest)) (kf : x = y → t = A → W p l e R s m args below meth c H locs cells slots Q (F0 m (pc + 3) ls rest)) : W p l e R s m args below meth c H locs cells slots Q (F0 m pc ls (.int y :: .int x :: rest)) := lv_icmp_ne hexec hb hdg ht (fun h => kt h (E.trans (if_neg h))) (fun h => kf h (E.trans (if_pos h)))
theorem z_if_ne (hexec : p.tables.exec = Jvm.exec) (hb : c.code = cc) {x : Int32} {off : Int} {tgt : Nat} (hdg : decode cc pc = .ok (.ifCond .ne off, 3)) (ht : (pc : Int) + off = (tgt : Int)) {A B : β} (E : t = if x = 0 then A else B) (kt : ¬ x = 0 → t = B → W p l e R s m args below meth c H locs cells slots Q (F0 m tgt ls rest)) (kf : x = 0 → t = A → W p l e R s m args below meth c H locs cells slots Q (F0 m (pc + 3) ls rest)) : W p l e R s m args below meth c H locs cells slots Q (F0 m pc ls (.int x :: rest)) := lv_if_ne hexec hb hdg ht (fun h => kt h (E.trans (if_neg h))) (fun h => kf h (E.trans (if_pos h)))
theorem z_icmp_lt (hexec : p.tables.exec = Jvm.exec) (hb : c.code = cc) {x y : Int32} {off : Int} {tgt : Nat} (hdg : decode cc pc = .ok (.if_icmp .lt off, 3)) (ht : (pc : Int) + off = (tgt : Int)) {A B : β} (E : t = if x < y then A else B) (kt : x < y → t = A → W p l e R s m args below meth c H locs cells slots Q (F0 m tgt ls rest)) (kf : ¬ x < y → t = B → W p l e R s m args below meth c H locs cells slots Q (F0 m (pc + 3) ls rest)) : W p l e R s m args below meth c H locs cells slots Q (F0 m pc ls (.int y :: .int x :: rest)) := lv_icmp_lt hexec hb hdg ht (fun h => kt h (E.trans (if_pos h))) (fun h => kf h (E.trans (if_neg h)))
theorem z_if_lt (hexec : p.tables.exec = Jvm.exec) (hb : c.code = cc) {x : Int32} {off : Int} {tgt : Nat} (hdg : decode cc pc = .ok (.ifCond .lt off, 3)) (ht : (pc : Int) + off = (tgt : Int)) {A B : β} (E : t = if x < 0 then A else B) (kt : x < 0 → t = A → W p l e R s m args below meth c H locs cells slots Q (F0 m tgt ls rest)) (kf : ¬ x < 0 → t = B → W p l e R s m args below meth c H locs cells slots Q (F0 m (pc + 3) ls rest)) : W p l e R s m args below meth c H locs cells slots Q (F0 m pc ls (.int x :: rest)) := lv_if_lt hexec hb hdg ht (fun h => kt h (E.trans (if_pos h))) (fun h => kf h (E.trans (if_neg h)))
theorem z_icmp_ge (hexec : p.tables.exec = Jvm.exec) (hb : c.code = cc) {x y : Int32} {off : Int} {tgt : Nat} (hdg : decode cc pc = .ok (.if_icmp .ge off, 3)) (ht : (pc : Int) + off = (tgt : Int)) {A B : β} (E : t = if y ≤ x then A else B) (kt : y ≤ x → t = A → W p l e R s m args below meth c H locs cells slots Q (F0 m tgt ls rest)) (kf : ¬ y ≤ x → t = B → W p l e R s m args below meth c H locs cells slots Q (F0 m (pc + 3) ls rest)) : W p l e R s m args below meth c H locs cells slots Q (F0 m pc ls (.int y :: .int x :: rest)) := lv_icmp_ge hexec hb hdg ht (fun h => kt h (E.trans (if_pos h))) (fun h => kf h (E.trans (if_neg h)))
theorem z_if_ge (hexec : p.tables.exec = Jvm.exec) (hb : c.code = cc) {x : Int32} {off : Int} {tgt : Nat} (hdg : decode cc pc = .ok (.ifCond .ge off, 3)) (ht : (pc : Int) + off = (tgt : Int)) {A B : β} (E : t = if 0 ≤ x then A else B) (kt : 0 ≤ x → t = A → W p l e R s m args below meth c H locs cells slots Q (F0 m tgt ls rest)) (kf : ¬ 0 ≤ x → t = B → W p l e R s m args below meth c H locs cells slots Q (F0 m (pc + 3) ls rest)) : W p l e R s m args below meth c H locs cells slots Q (F0 m pc ls (.int x :: rest)) := lv_if_ge hexec hb hdg ht (fun h => kt h (E.trans (if_pos h))) (fun h => kf h (E.trans (if_neg h)))
theorem z_icmp_gt (hexec : p.tables.exec = Jvm.exec) (hb : c.code = cc) {x y : Int32} {off : Int} {tgt : Nat} (hdg : decode cc pc = .ok (.if_icmp .gt off, 3)) (ht : (pc : Int) + off = (tgt : Int)) {A B : β} (E : t = if y < x then A else B) (kt : y < x → t = A → W p l e R s m args below meth c H locs cells slots Q (F0 m tgt ls rest)) (kf : ¬ y < x → t = B → W p l e R s m args below meth c H locs cells slots Q (F0 m (pc + 3) ls rest)) : W p l e R s m args below meth c H locs cells slots Q (F0 m pc ls (.int y :: .int x :: rest)) := lv_icmp_gt hexec hb hdg ht (fun h => kt h (E.trans (if_pos h))) (fun h => kf h (E.trans (if_neg h)))
theorem z_if_gt (hexec : p.tables.exec = Jvm.exec) (hb : c.code = cc) {x : Int32} {off : Int} {tgt : Nat} (hdg : decode cc pc = .ok (.ifCond .gt off, 3)) (ht : (pc : Int) + off = (tgt : Int)) {A B : β} (E : t = if 0 < x then A else B) (kt : 0 < x → t = A → W p l e R s m args below meth c H locs cells slots Q (F0 m tgt ls rest)) (kf : ¬ 0 < x → t = B → W p l e R s m args below meth c H locs cells slots Q (F0 m (pc + 3) ls rest)) : W p l e R s m args below meth c H locs cells slots Q (F0 m pc ls (.int x :: rest)) := lv_if_gt hexec hb hdg ht (fun h => kt h (E.trans (if_pos h))) (fun h => kf h (E.trans (if_neg h)))
theorem z_icmp_le (hexec : p.tables.exec = Jvm.exec) (hb : c.code = cc) {x y : Int32} {off : Int} {tgt : Nat} (hdg : decode cc pc = .ok (.if_icmp .le off, 3)) (ht : (pc : Int) + off = (tgt : Int)) {A B : β} (E : t = if x ≤ y then A else B) (kt : x ≤ y → t = A → W p l e R s m args below meth c H locs cells slots Q (F0 m tgt ls rest)) (kf : ¬ x ≤ y → t = B → W p l e R s m args below meth c H locs cells slots Q (F0 m (pc + 3) ls rest)) : W p l e R s m args below meth c H locs cells slots Q (F0 m pc ls (.int y :: .int x :: rest)) := lv_icmp_le hexec hb hdg ht (fun h => kt h (E.trans (if_pos h))) (fun h => kf h (E.trans (if_neg h)))
theorem z_if_le (hexec : p.tables.exec = Jvm.exec) (hb : c.code = cc) {x : Int32} {off : Int} {tgt : Nat} (hdg : decode cc pc = .ok (.ifCond .le off, 3)) (ht : (pc : Int) + off = (tgt : Int)) {A B : β} (E : t = if x ≤ 0 then A else B) (kt : x ≤ 0 → t = A → W p l e R s m args below meth c H locs cells slots Q (F0 m tgt ls rest)) (kf : ¬ x ≤ 0 → t = B → W p l e R s m args below meth c H locs cells slots Q (F0 m (pc + 3) ls rest)) : W p l e R s m args below meth c H locs cells slots Q (F0 m pc ls (.int x :: rest)) := lv_if_le hexec hb hdg ht (fun h => kt h (E.trans (if_pos h))) (fun h => kf h (E.trans (if_neg h)))
theorem z_bind {α γ : Type} {g : JFrame} {t : Except Nat γ} {x : Except Nat α} {f : α → Except Nat γ} (E : t = zbind x f) (ke : ∀ k, x = .error k → t = .error k → W p l e R s m args below meth c H locs cells slots Q g) (ko : ∀ a, x = .ok a → t = f a → W p l e R s m args below meth c H locs cells slots Q g) : W p l e R s m args below meth c H locs cells slots Q g := by
  cases x with
  | error k => exact ke k rfl E
  | ok a => exact ko a rfl E
theorem z_case {g : JFrame} {x v : Int32} {A B : β} (E : t = if x = v then A else B) (kt : x = v → t = A → W p l e R s m args below meth c H locs cells slots Q g) (kf : ¬ x = v → t = B → W p l e R s m args below meth c H locs cells slots Q g) : W p l e R s m args below meth c H locs cells slots Q g := by
  by_cases h : x = v
  · exact kt h (E.trans (if_pos h))
  · exact kf h (E.trans (if_neg h))
theorem z_tabIn (hexec : p.tables.exec = Jvm.exec) (hb : c.code = cc) {dflt lo hi : Int} {offs : Array Int} {len : Nat} {x w : Int32} {off : Int} {tgt : Nat} (hdg : decode cc pc = .ok (.tableswitch dflt lo hi offs, len)) (hx : x = w) (h1 : ¬ w.toInt < lo) (h2 : ¬ hi < w.toInt) (ho : offs[(w.toInt - lo).toNat]? = some off) (ht : (pc : Int) + off = (tgt : Int)) (k : W p l e R s m args below meth c H locs cells slots Q (F0 m tgt ls rest)) : W p l e R s m args below meth c H locs cells slots Q (F0 m pc ls (.int x :: rest)) := by
  subst hx
  exact lv_tableIn hexec hb hdg h1 h2 ho ht k

end ZSt
theorem ztabOut3 {x : Int32} (h0 : ¬ x = 0) (h1 : ¬ x = 1) (h2 : ¬ x = 2) : x.toInt < 0 ∨ 2 < x.toInt := by
  have k0 := lv_neT (a := 0) h0 (by decide)
  have k1 := lv_neT (a := 1) h1 (by decide)
  have k2 := lv_neT (a := 2) h2 (by decide)
  omega
theorem ztabOut5 {x : Int32} (h0 : ¬ x = 0) (h1 : ¬ x = 1) (h2 : ¬ x = 2) (h3 : ¬ x = 3) (h4 : ¬ x = 4) : x.toInt < 0 ∨ 4 < x.toInt := by
  have k0 := lv_neT (a := 0) h0 (by decide)
  have k1 := lv_neT (a := 1) h1 (by decide)
  have k2 := lv_neT (a := 2) h2 (by decide)
  have k3 := lv_neT (a := 3) h3 (by decide)
  have k4 := lv_neT (a := 4) h4 (by decide)
  omega
