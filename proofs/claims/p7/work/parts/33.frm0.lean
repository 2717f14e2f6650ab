
/-- T is S but for the ints ws and the rows fs (rows from c on count as one) -/
def zfr (c : Nat) (ws fs : List Nat) (S T : ZS) : Prop := (∀ t, t ∉ ws → T.I t = S.I t) ∧ ∀ k, min k c ∉ fs → T.F k = S.F k
theorem zfr.rf {c : Nat} {ws fs : List Nat} {S : ZS} : zfr c ws fs S S := ⟨fun _ _ => rfl, fun _ _ => rfl⟩
theorem zfr.I {c : Nat} {ws fs : List Nat} {S X : ZS} {t : Nat} {v : Int32} (h : zfr c ws fs S X) (m : t ∈ ws) : zfr c ws fs S (X.setI t v) := ⟨fun q hq => by
  show (if q = t then v else X.I q) = _
  rw [if_neg (fun e => hq (by rw [e]; exact m))]
  exact h.1 q hq, h.2⟩
theorem zfr.R {c : Nat} {ws fs : List Nat} {S X : ZS} {k : Nat} {f : Nat → Int32} (h : zfr c ws fs S X) (m : min k c ∈ fs) : zfr c ws fs S (X.row k f) := ⟨h.1, fun q hq => by
  show (if q = k then f else X.F q) = _
  rw [if_neg (fun e => hq (by rw [e]; exact m))]
  exact h.2 q hq⟩
theorem zfr.F {c : Nat} {ws fs : List Nat} {S X : ZS} {k i : Nat} {v : Int32} (h : zfr c ws fs S X) (m : min k c ∈ fs) : zfr c ws fs S (X.setF k i v) := h.R m
theorem zfr.R8 {ws fs : List Nat} {S X : ZS} {n : Nat} {f : Nat → Int32} (h : zfr 28 ws fs S X) (m : 28 ∈ fs) : zfr 28 ws fs S (X.row (28 + n) f) := h.R (by rw [Nat.min_eq_right (Nat.le_add_right 28 n)]; exact m)
theorem zfr.F8 {ws fs : List Nat} {S X : ZS} {n i : Nat} {v : Int32} (h : zfr 28 ws fs S X) (m : 28 ∈ fs) : zfr 28 ws fs S (X.setF (28 + n) i v) := h.R8 m
theorem zfr.c {c : Nat} {ws fs wc fc : List Nat} {S X Y : ZS} (h : zfr c ws fs S X) (h2 : zfr c wc fc X Y) (m1 : ∀ x ∈ wc, x ∈ ws) (m2 : ∀ x ∈ fc, x ∈ fs) : zfr c ws fs S Y := ⟨fun t ht => (h2.1 t (fun q => ht (m1 t q))).trans (h.1 t ht), fun k hk => (h2.2 k (fun q => hk (m2 _ q))).trans (h.2 k hk)⟩
def zfrA (c : Nat) (ws fs : List Nat) (S : ZS) (y : ZS) : Prop := zfr c ws fs S y
def zfrB (c : Nat) (ws fs : List Nat) (S : ZS) (y : ZS × Int32) : Prop := zfr c ws fs S y.1
def zfrC (c : Nat) (ws fs : List Nat) (S : ZS) (y : ZS × ZS × Int32) : Prop := zfr c ws fs S y.2.1
def zfrD (c : Nat) (ws fs : List Nat) (S : ZS) (y : ZS × ZS) : Prop := zfr c ws fs S y.2
theorem zfrA_c {c : Nat} {ws fs : List Nat} {S X : ZS} {y : ZS} (h : zfr c ws fs S X) (h2 : zfrA c ws fs X y) : zfrA c ws fs S y := zfr.c h h2 (fun _ h => h) (fun _ h => h)
theorem zfrB_c {c : Nat} {ws fs : List Nat} {S X : ZS} {y : ZS × Int32} (h : zfr c ws fs S X) (h2 : zfrB c ws fs X y) : zfrB c ws fs S y := zfr.c h h2 (fun _ h => h) (fun _ h => h)
theorem zfrC_c {c : Nat} {ws fs : List Nat} {S X : ZS} {y : ZS × ZS × Int32} (h : zfr c ws fs S X) (h2 : zfrC c ws fs X y) : zfrC c ws fs S y := zfr.c h h2 (fun _ h => h) (fun _ h => h)
theorem zfrD_c {c : Nat} {ws fs : List Nat} {S X : ZS} {y : ZS × ZS} (h : zfr c ws fs S X) (h2 : zfrD c ws fs X y) : zfrD c ws fs S y := zfr.c h h2 (fun _ h => h) (fun _ h => h)
theorem zq_l {α β : Type} {Z : β → Prop} {v : α} {f : α → β} (h : ∀ x, Z (f x)) : Z (zl v f) := h v
theorem zq_s {β : Type} {Z : β → Prop} {c : Nat} {ws fs : List Nat} {S v : ZS} {f : ZS → β} (hv : zfr c ws fs S v) (h : ∀ x, zfr c ws fs S x → Z (f x)) : Z (zl v f) := h v hv
theorem zq_2 {β : Type} {Z : β → Prop} {c : Nat} {ws fs : List Nat} {S : ZS} {v : ZS × Int32} {f : ZS → Int32 → β} (hv : zfr c ws fs S v.1) (h : ∀ x k, zfr c ws fs S x → Z (f x k)) : Z (zl2 v f) := h _ _ hv
theorem zq_d {β : Type} {Z : β → Prop} {c : Nat} {ws fs : List Nat} {S : ZS} {v : ZS × ZS} {f : ZS → ZS → β} (hv : zfr c ws fs S v.2) (h : ∀ p x, zfr c ws fs S x → Z (f p x)) : Z (zl2 v f) := h _ _ hv
theorem zq_3 {β : Type} {Z : β → Prop} {c : Nat} {ws fs : List Nat} {S : ZS} {v : ZS × ZS × Int32} {f : ZS → ZS → Int32 → β} (hv : zfr c ws fs S v.2.1) (h : ∀ p x k, zfr c ws fs S x → Z (f p x k)) : Z (zl3 v f) := h _ _ _ hv
theorem zq_if {β : Type} {Z : β → Prop} {p : Prop} [Decidable p] {a b : β} (h1 : Z a) (h2 : Z b) : Z (if p then a else b) := by
  split
  · exact h1
  · exact h2
def zE {α : Type} (Z : α → Prop) (e : Except Nat α) : Prop := ∀ y, e = .ok y → Z y
theorem zE_b {α β : Type} {Z : β → Prop} {x : Except Nat α} {f : α → Except Nat β} (h : ∀ u, zE Z (f u)) : zE Z (zbind x f) := by
  cases x with
  | error k => intro y e; cases e
  | ok u => exact h u
theorem zE_e {α : Type} {Z : α → Prop} {k : Nat} : zE Z (.error k) := fun y e => by cases e
theorem zE_o {α : Type} {Z : α → Prop} {y : α} (h : Z y) : zE Z (.ok y) := fun z e => by cases e; exact h
theorem q_zturnf (P S : ZS) : zfrA 28 [] [9, 10, 11, 12] S (zturnf P S) := by
  refine ⟨fun _ _ => rfl, fun k hk => ?_⟩
  have h9 : k ≠ 9 := fun e => hk (by rw [e]; decide)
  have h10 : k ≠ 10 := fun e => hk (by rw [e]; decide)
  have h11 : k ≠ 11 := fun e => hk (by rw [e]; decide)
  have h12 : k ≠ 12 := fun e => hk (by rw [e]; decide)
  show (if k = 12 then (fun _ => 0) else zturnF S k) = S.F k
  rw [if_neg h12]
  unfold zturnF
  split
  · exact absurd rfl h9
  · exact absurd rfl h10
  · exact absurd rfl h11
  · exact absurd rfl h12
  · rfl
theorem q_fGR_separate_12 (P : ZS) (rc12 : ZS → Int32 → Int32 → (ZS)) (S_12 : ZS) (x12_1 : Int32) (x12_2 : Int32) (hrc12 : ∀ (a0 : ZS) (a1 : Int32) (a2 : Int32), zfrA 28 [] [27] a0 (rc12 a0 a1 a2)) : zfrA 28 [] [27] S_12 (fGR_separate_12 P rc12 S_12 x12_1 x12_2) := by
  unfold fGR_separate_12
  have hS_12 : zfr 28 [] [27] S_12 S_12 := zfr.rf
  refine zq_if ?_ ?_
  · skip
    exact hS_12
  · skip
    refine zq_s (hS_12.F (by decide)) (fun S1 hS1 => ?_)
    refine zq_l (fun k3 => ?_)
    exact zfr.c hS1 (hrc12 _ _ _) (fun _ h => h) (fun _ h => h)
theorem z_fGR_separate_12 (P : ZS) : ∀ (n : Nat) (S_12 : ZS) (x12_1 : Int32) (x12_2 : Int32), zfrA 28 [] [27] S_12 (zfix (fun S9 _ _ => S9) (fGR_separate_12 P) n S_12 x12_1 x12_2) := by
  intro n
  induction n with
  | zero => intro S_12 x12_1 x12_2; rw [zfix_0]; exact zfr.rf
  | succ n ih => intro S_12 x12_1 x12_2; rw [zfix_s]; exact q_fGR_separate_12 P _ _ _ _  ih
theorem q_fGR_separate (P S : ZS) (x0 : Int32) : zfrA 28 [14, 15] [27] S (fGR_separate P S x0) := by
  unfold fGR_separate
  have hS : zfr 28 [14, 15] [27] S S := zfr.rf
  refine zq_s (hS.I (by decide)) (fun S4 hS4 => ?_)
  refine zq_s (hS4.I (by decide)) (fun S6 hS6 => ?_)
  exact zfr.c hS6 (z_fGR_separate_12 P  49 _ _ _) (by decide) (by decide)
theorem q_fGR_join_55 (P : ZS) (rc26 : ZS → Int32 → Int32 → Int32 → (ZS × Int32)) (S_55 : ZS) (x55_3 : Int32) (x55_4 : Int32) (x55_5 : Int32) (hrc26 : ∀ (a0 : ZS) (a1 : Int32) (a2 : Int32) (a3 : Int32), zfrB 28 [14] [27] a0 (rc26 a0 a1 a2 a3)) : zfrB 28 [14] [27] S_55 (fGR_join_55 P rc26 S_55 x55_3 x55_4 x55_5) := by
  unfold fGR_join_55
  have hS_55 : zfr 28 [14] [27] S_55 S_55 := zfr.rf
  refine zq_l (fun k1 => ?_)
  exact zfr.c hS_55 (hrc26 _ _ _ _) (fun _ h => h) (fun _ h => h)
theorem q_fGR_join_26 (P : ZS) (rc26 : ZS → Int32 → Int32 → Int32 → (ZS × Int32)) (S_26 : ZS) (x26_3 : Int32) (x26_4 : Int32) (x26_5 : Int32) (hrc26 : ∀ (a0 : ZS) (a1 : Int32) (a2 : Int32) (a3 : Int32), zfrB 28 [14] [27] a0 (rc26 a0 a1 a2 a3)) : zfrB 28 [14] [27] S_26 (fGR_join_26 P rc26 S_26 x26_3 x26_4 x26_5) := by
  unfold fGR_join_26
  have hS_26 : zfr 28 [14] [27] S_26 S_26 := zfr.rf
  refine zq_l (fun k2 => ?_)
  refine zq_if ?_ ?_
  · skip
    refine zq_l (fun k3 => ?_)
    refine zq_l (fun k4 => ?_)
    refine zq_s (hS_26.I (by decide)) (fun S5 hS5 => ?_)
    exact hS5
  · skip
    refine zq_l (fun k7 => ?_)
    refine zq_if ?_ ?_
    · skip
      refine zq_s (hS_26.F (by decide)) (fun S8 hS8 => ?_)
      exact zfr.c hS8 (q_fGR_join_55 _ rc26 _ _ _ _ hrc26) (fun _ h => h) (fun _ h => h)
    · skip
      exact zfr.c hS_26 (q_fGR_join_55 _ rc26 _ _ _ _ hrc26) (fun _ h => h) (fun _ h => h)
theorem z_fGR_join_26 (P : ZS) : ∀ (n : Nat) (S_26 : ZS) (x26_3 : Int32) (x26_4 : Int32) (x26_5 : Int32), zfrB 28 [14] [27] S_26 (zfix (fun S9 _ _ _ => (S9, 0)) (fGR_join_26 P) n S_26 x26_3 x26_4 x26_5) := by
  intro n
  induction n with
  | zero => intro S_26 x26_3 x26_4 x26_5; rw [zfix_0]; exact zfr.rf
  | succ n ih => intro S_26 x26_3 x26_4 x26_5; rw [zfix_s]; exact q_fGR_join_26 P _ _ _ _ _  ih
theorem q_fGR_join (P S : ZS) (x0 : Int32) (x1 : Int32) : zfrB 28 [14] [27] S (fGR_join P S x0 x1) := by
  unfold fGR_join
  have hS : zfr 28 [14] [27] S S := zfr.rf
  refine zq_l (fun k10 => ?_)
  refine zq_l (fun k11 => ?_)
  refine zq_if ?_ ?_
  · skip
    exact hS
  · skip
    exact zfr.c hS (z_fGR_join_26 P  49 _ _ _ _) (fun _ h => h) (fun _ h => h)
theorem q_fPL_isOnePiece_50 (P : ZS) (rc11 : ZS → Int32 → Int32 → Int32 → (ZS × Int32)) (S_50 : ZS) (x50_1 : Int32) (x50_2 : Int32) (x50_4 : Int32) (hrc11 : ∀ (a0 : ZS) (a1 : Int32) (a2 : Int32) (a3 : Int32), zfrB 28 [14] [27] a0 (rc11 a0 a1 a2 a3)) : zfrB 28 [14] [27] S_50 (fPL_isOnePiece_50 P rc11 S_50 x50_1 x50_2 x50_4) := by
  unfold fPL_isOnePiece_50
  have hS_50 : zfr 28 [14] [27] S_50 S_50 := zfr.rf
  refine zq_l (fun k1 => ?_)
  exact zfr.c hS_50 (hrc11 _ _ _ _) (fun _ h => h) (fun _ h => h)
theorem q_fPL_isOnePiece_11 (P : ZS) (rc11 : ZS → Int32 → Int32 → Int32 → (ZS × Int32)) (S_11 : ZS) (x11_1 : Int32) (x11_2 : Int32) (x11_4 : Int32) (hrc11 : ∀ (a0 : ZS) (a1 : Int32) (a2 : Int32) (a3 : Int32), zfrB 28 [14] [27] a0 (rc11 a0 a1 a2 a3)) : zfrB 28 [14] [27] S_11 (fPL_isOnePiece_11 P rc11 S_11 x11_1 x11_2 x11_4) := by
  unfold fPL_isOnePiece_11
  have hS_11 : zfr 28 [14] [27] S_11 S_11 := zfr.rf
  refine zq_l (fun k2 => ?_)
  refine zq_if ?_ ?_
  · skip
    refine zq_l (fun k3 => ?_)
    refine zq_l (fun k4 => ?_)
    refine zq_l (fun k5 => ?_)
    refine zq_l (fun k6 => ?_)
    refine zq_if ?_ ?_
    · skip
      exact hS_11
    · skip
      exact hS_11
  · skip
    refine zq_l (fun k7 => ?_)
    refine zq_if ?_ ?_
    · skip
      refine zq_l (fun k8 => ?_)
      refine zq_l (fun k9 => ?_)
      refine zq_2 (hS_11.c (q_fGR_join _ _ _ _) (by decide) (by decide)) (fun S12 k11 hS12 => ?_)
      exact zfr.c hS12 (q_fPL_isOnePiece_50 _ rc11 _ _ _ _ hrc11) (fun _ h => h) (fun _ h => h)
    · skip
      exact zfr.c hS_11 (q_fPL_isOnePiece_50 _ rc11 _ _ _ _ hrc11) (fun _ h => h) (fun _ h => h)
theorem z_fPL_isOnePiece_11 (P : ZS) : ∀ (n : Nat) (S_11 : ZS) (x11_1 : Int32) (x11_2 : Int32) (x11_4 : Int32), zfrB 28 [14] [27] S_11 (zfix (fun S9 _ _ _ => (S9, 0)) (fPL_isOnePiece_11 P) n S_11 x11_1 x11_2 x11_4) := by
  intro n
  induction n with
  | zero => intro S_11 x11_1 x11_2 x11_4; rw [zfix_0]; exact zfr.rf
  | succ n ih => intro S_11 x11_1 x11_2 x11_4; rw [zfix_s]; exact q_fPL_isOnePiece_11 P _ _ _ _ _  ih
theorem q_fPL_isOnePiece (P S : ZS) (x0 : Int32) (x1 : Int32) : zfrB 28 [14, 15] [27] S (fPL_isOnePiece P S x0 x1) := by
  unfold fPL_isOnePiece
  have hS : zfr 28 [14, 15] [27] S S := zfr.rf
  refine zq_l (fun k14 => ?_)
  refine zq_s (hS.c (q_fGR_separate _ _ _) (by decide) (by decide)) (fun S16 hS16 => ?_)
  exact zfr.c hS16 (z_fPL_isOnePiece_11 P  61 _ _ _ _) (by decide) (by decide)
theorem q_fPL_hasRightShape_117 (P_117 : ZS) (S_117 : ZS) : zfrC 28 [] [] S_117 (fPL_hasRightShape_117 P_117 S_117) := by
  unfold fPL_hasRightShape_117
  have hS_117 : zfr 28 [] [] S_117 S_117 := zfr.rf
  exact hS_117
theorem q_fPL_hasRightShape_178 (P_178 : ZS) (S_178 : ZS) : zfrC 28 [] [] S_178 (fPL_hasRightShape_178 P_178 S_178) := by
  unfold fPL_hasRightShape_178
  have hS_178 : zfr 28 [] [] S_178 S_178 := zfr.rf
  exact hS_178
theorem q_fPL_hasRightShape_151 (P_151 : ZS) (S_151 : ZS) (y151_0 : Int32) (y151_1 : Int32) : zfrC 28 [] [] S_151 (fPL_hasRightShape_151 P_151 S_151 y151_0 y151_1) := by
  unfold fPL_hasRightShape_151
  have hS_151 : zfr 28 [] [] S_151 S_151 := zfr.rf
  refine zq_if ?_ ?_
  · skip
    exact hS_151
  · skip
    exact hS_151
theorem q_fPL_hasRightShape_134 (P_134 : ZS) (S_134 : ZS) (x134_1 : Int32) (x134_2 : Int32) (x134_5 : Int32) (x134_6 : Int32) (y134_0 : Int32) (y134_1 : Int32) : zfrC 28 [] [] S_134 (fPL_hasRightShape_134 P_134 S_134 x134_1 x134_2 x134_5 x134_6 y134_0 y134_1) := by
  unfold fPL_hasRightShape_134
  have hS_134 : zfr 28 [] [] S_134 S_134 := zfr.rf
  refine zq_l (fun P1 => ?_)
  refine zq_if ?_ ?_
  · skip
    refine zq_if ?_ ?_
    · skip
      exact zfr.c hS_134 (q_fPL_hasRightShape_151 _ _ _ _ ) (fun _ h => h) (fun _ h => h)
    · skip
      exact zfr.c hS_134 (q_fPL_hasRightShape_151 _ _ _ _ ) (fun _ h => h) (fun _ h => h)
  · skip
    refine zq_if ?_ ?_
    · skip
      refine zq_l (fun k4 => ?_)
      refine zq_if ?_ ?_
      · skip
        exact zfr.c hS_134 (q_fPL_hasRightShape_178 _ _ ) (fun _ h => h) (fun _ h => h)
      · skip
        exact hS_134
    · skip
      exact zfr.c hS_134 (q_fPL_hasRightShape_178 _ _ ) (fun _ h => h) (fun _ h => h)
theorem q_fPL_hasRightShape_91 (rc12 : ZS → ZS → Int32 → Int32 → Int32 → Int32 → Int32 → Int32 → (ZS × ZS × Int32)) (P_91 : ZS) (S_91 : ZS) (x91_1 : Int32) (x91_2 : Int32) (x91_4 : Int32) (x91_5 : Int32) (x91_7 : Int32) (y91_0 : Int32) (y91_1 : Int32) (hrc12 : ∀ (a0 : ZS) (a1 : ZS) (a2 : Int32) (a3 : Int32) (a4 : Int32) (a5 : Int32) (a6 : Int32) (a7 : Int32), zfrC 28 [14, 15] [27] a1 (rc12 a0 a1 a2 a3 a4 a5 a6 a7)) : zfrC 28 [14, 15] [27] S_91 (fPL_hasRightShape_91 rc12 P_91 S_91 x91_1 x91_2 x91_4 x91_5 x91_7 y91_0 y91_1) := by
  unfold fPL_hasRightShape_91
  have hS_91 : zfr 28 [14, 15] [27] S_91 S_91 := zfr.rf
  refine zq_l (fun k5 => ?_)
  refine zq_l (fun k6 => ?_)
  exact zfr.c hS_91 (hrc12 _ _ _ _ _ _ _ _) (fun _ h => h) (fun _ h => h)
theorem q_fPL_hasRightShape_90 (rc12 : ZS → ZS → Int32 → Int32 → Int32 → Int32 → Int32 → Int32 → (ZS × ZS × Int32)) (P_90 : ZS) (S_90 : ZS) (x90_1 : Int32) (x90_2 : Int32) (x90_4 : Int32) (x90_5 : Int32) (x90_7 : Int32) (y90_0 : Int32) (hrc12 : ∀ (a0 : ZS) (a1 : ZS) (a2 : Int32) (a3 : Int32) (a4 : Int32) (a5 : Int32) (a6 : Int32) (a7 : Int32), zfrC 28 [14, 15] [27] a1 (rc12 a0 a1 a2 a3 a4 a5 a6 a7)) : zfrC 28 [14, 15] [27] S_90 (fPL_hasRightShape_90 rc12 P_90 S_90 x90_1 x90_2 x90_4 x90_5 x90_7 y90_0) := by
  unfold fPL_hasRightShape_90
  have hS_90 : zfr 28 [14, 15] [27] S_90 S_90 := zfr.rf
  exact zfr.c hS_90 (q_fPL_hasRightShape_91 rc12 _ _ _ _ _ _ _ _ _ hrc12) (fun _ h => h) (fun _ h => h)
theorem q_fPL_hasRightShape_66 (rc12 : ZS → ZS → Int32 → Int32 → Int32 → Int32 → Int32 → Int32 → (ZS × ZS × Int32)) (P_66 : ZS) (S_66 : ZS) (x66_1 : Int32) (x66_2 : Int32) (x66_4 : Int32) (x66_6 : Int32) (x66_7 : Int32) (x66_8 : Int32) (y66_0 : Int32) (y66_1 : Int32) (hrc12 : ∀ (a0 : ZS) (a1 : ZS) (a2 : Int32) (a3 : Int32) (a4 : Int32) (a5 : Int32) (a6 : Int32) (a7 : Int32), zfrC 28 [14, 15] [27] a1 (rc12 a0 a1 a2 a3 a4 a5 a6 a7)) : zfrC 28 [14, 15] [27] S_66 (fPL_hasRightShape_66 rc12 P_66 S_66 x66_1 x66_2 x66_4 x66_6 x66_7 x66_8 y66_0 y66_1) := by
  unfold fPL_hasRightShape_66
  have hS_66 : zfr 28 [14, 15] [27] S_66 S_66 := zfr.rf
  refine zq_l (fun k7 => ?_)
  refine zq_if ?_ ?_
  · skip
    exact zfr.c hS_66 (q_fPL_hasRightShape_90 rc12 _ _ _ _ _ _ _ _ hrc12) (fun _ h => h) (fun _ h => h)
  · skip
    refine zq_l (fun k9 => ?_)
    refine zq_if ?_ ?_
    · skip
      exact zfr.c hS_66 (q_fPL_hasRightShape_90 rc12 _ _ _ _ _ _ _ _ hrc12) (fun _ h => h) (fun _ h => h)
    · skip
      exact zfr.c hS_66 (q_fPL_hasRightShape_91 rc12 _ _ _ _ _ _ _ _ _ hrc12) (fun _ h => h) (fun _ h => h)
theorem q_fPL_hasRightShape_50 (rc12 : ZS → ZS → Int32 → Int32 → Int32 → Int32 → Int32 → Int32 → (ZS × ZS × Int32)) (P_50 : ZS) (S_50 : ZS) (x50_1 : Int32) (x50_2 : Int32) (x50_5 : Int32) (x50_6 : Int32) (x50_7 : Int32) (x50_8 : Int32) (y50_0 : Int32) (y50_1 : Int32) (hrc12 : ∀ (a0 : ZS) (a1 : ZS) (a2 : Int32) (a3 : Int32) (a4 : Int32) (a5 : Int32) (a6 : Int32) (a7 : Int32), zfrC 28 [14, 15] [27] a1 (rc12 a0 a1 a2 a3 a4 a5 a6 a7)) : zfrC 28 [14, 15] [27] S_50 (fPL_hasRightShape_50 rc12 P_50 S_50 x50_1 x50_2 x50_5 x50_6 x50_7 x50_8 y50_0 y50_1) := by
  unfold fPL_hasRightShape_50
  have hS_50 : zfr 28 [14, 15] [27] S_50 S_50 := zfr.rf
  refine zq_l (fun k10 => ?_)
  refine zq_if ?_ ?_
  · skip
    exact zfr.c hS_50 (q_fPL_hasRightShape_66 rc12 _ _ _ _ _ _ _ _ _ _ hrc12) (fun _ h => h) (fun _ h => h)
  · skip
    exact zfr.c hS_50 (q_fPL_hasRightShape_66 rc12 _ _ _ _ _ _ _ _ _ _ hrc12) (fun _ h => h) (fun _ h => h)
theorem q_fPL_hasRightShape_12 (rc12 : ZS → ZS → Int32 → Int32 → Int32 → Int32 → Int32 → Int32 → (ZS × ZS × Int32)) (P_12 : ZS) (S_12 : ZS) (x12_1 : Int32) (x12_2 : Int32) (x12_4 : Int32) (x12_5 : Int32) (x12_6 : Int32) (x12_7 : Int32) (hrc12 : ∀ (a0 : ZS) (a1 : ZS) (a2 : Int32) (a3 : Int32) (a4 : Int32) (a5 : Int32) (a6 : Int32) (a7 : Int32), zfrC 28 [14, 15] [27] a1 (rc12 a0 a1 a2 a3 a4 a5 a6 a7)) : zfrC 28 [14, 15] [27] S_12 (fPL_hasRightShape_12 rc12 P_12 S_12 x12_1 x12_2 x12_4 x12_5 x12_6 x12_7) := by
  unfold fPL_hasRightShape_12
  have hS_12 : zfr 28 [14, 15] [27] S_12 S_12 := zfr.rf
  refine zq_l (fun k11 => ?_)
  refine zq_if ?_ ?_
  · skip
    refine zq_if ?_ ?_
    · skip
      exact zfr.c hS_12 (q_fPL_hasRightShape_117 _ _ ) (by decide) (by decide)
    · skip
      refine zq_2 (hS_12.c (q_fPL_isOnePiece _ _ _ _) (by decide) (by decide)) (fun S14 k13 hS14 => ?_)
      refine zq_if ?_ ?_
      · skip
        exact zfr.c hS14 (q_fPL_hasRightShape_117 _ _ ) (by decide) (by decide)
      · skip
        refine zq_if ?_ ?_
        · skip
          exact zfr.c hS14 (q_fPL_hasRightShape_134 _ _ _ _ _ _ _ _ ) (by decide) (by decide)
        · skip
          exact zfr.c hS14 (q_fPL_hasRightShape_134 _ _ _ _ _ _ _ _ ) (by decide) (by decide)
  · skip
    refine zq_l (fun k17 => ?_)
    refine zq_if ?_ ?_
    · skip
      refine zq_if ?_ ?_
      · skip
        exact zfr.c hS_12 (q_fPL_hasRightShape_50 rc12 _ _ _ _ _ _ _ _ _ _ hrc12) (fun _ h => h) (fun _ h => h)
      · skip
        exact zfr.c hS_12 (q_fPL_hasRightShape_50 rc12 _ _ _ _ _ _ _ _ _ _ hrc12) (fun _ h => h) (fun _ h => h)
    · skip
      exact hS_12
theorem z_fPL_hasRightShape_12  : ∀ (n : Nat) (P_12 : ZS) (S_12 : ZS) (x12_1 : Int32) (x12_2 : Int32) (x12_4 : Int32) (x12_5 : Int32) (x12_6 : Int32) (x12_7 : Int32), zfrC 28 [14, 15] [27] S_12 (zfix (fun P9 S9 _ _ _ _ _ _ => (P9, S9, 0)) (fPL_hasRightShape_12 ) n P_12 S_12 x12_1 x12_2 x12_4 x12_5 x12_6 x12_7) := by
  intro n
  induction n with
  | zero => intro P_12 S_12 x12_1 x12_2 x12_4 x12_5 x12_6 x12_7; rw [zfix_0]; exact zfr.rf
  | succ n ih => intro P_12 S_12 x12_1 x12_2 x12_4 x12_5 x12_6 x12_7; rw [zfix_s]; exact q_fPL_hasRightShape_12  _ _ _ _ _ _ _ _ _  ih
theorem q_fPL_hasRightShape (P S : ZS) (x0 : Int32) (x1 : Int32) : zfrC 28 [14, 15] [27] S (fPL_hasRightShape P S x0 x1) := by
  unfold fPL_hasRightShape
  have hS : zfr 28 [14, 15] [27] S S := zfr.rf
  exact zfr.c hS (z_fPL_hasRightShape_12   49 _ _ _ _ _ _ _ _) (fun _ h => h) (fun _ h => h)
theorem q_fPL_firstFault_14 (P_14 : ZS) (S_14 : ZS) : zfrC 28 [] [] S_14 (fPL_firstFault_14 P_14 S_14) := by
  unfold fPL_firstFault_14
  have hS_14 : zfr 28 [] [] S_14 S_14 := zfr.rf
  exact hS_14
theorem q_fPL_firstFault_56 (P_56 : ZS) (S_56 : ZS) (x56_3 : Int32) : zfrC 28 [] [] S_56 (fPL_firstFault_56 P_56 S_56 x56_3) := by
  unfold fPL_firstFault_56
  have hS_56 : zfr 28 [] [] S_56 S_56 := zfr.rf
  refine zq_l (fun k1 => ?_)
  exact hS_56
theorem q_fPL_firstFault_62 (rc21 : ZS → ZS → Int32 → Int32 → (ZS × ZS × Int32)) (P_62 : ZS) (S_62 : ZS) (x62_2 : Int32) (x62_3 : Int32) (hrc21 : ∀ (a0 : ZS) (a1 : ZS) (a2 : Int32) (a3 : Int32), zfrC 28 [14, 15] [27] a1 (rc21 a0 a1 a2 a3)) : zfrC 28 [14, 15] [27] S_62 (fPL_firstFault_62 rc21 P_62 S_62 x62_2 x62_3) := by
  unfold fPL_firstFault_62
  have hS_62 : zfr 28 [14, 15] [27] S_62 S_62 := zfr.rf
  refine zq_l (fun k2 => ?_)
  exact zfr.c hS_62 (hrc21 _ _ _ _) (fun _ h => h) (fun _ h => h)
theorem q_fPL_firstFault_21 (rc21 : ZS → ZS → Int32 → Int32 → (ZS × ZS × Int32)) (P_21 : ZS) (S_21 : ZS) (x21_2 : Int32) (x21_3 : Int32) (hrc21 : ∀ (a0 : ZS) (a1 : ZS) (a2 : Int32) (a3 : Int32), zfrC 28 [14, 15] [27] a1 (rc21 a0 a1 a2 a3)) : zfrC 28 [14, 15] [27] S_21 (fPL_firstFault_21 rc21 P_21 S_21 x21_2 x21_3) := by
  unfold fPL_firstFault_21
  have hS_21 : zfr 28 [14, 15] [27] S_21 S_21 := zfr.rf
  refine zq_if ?_ ?_
  · skip
    exact hS_21
  · skip
    refine zq_l (fun k4 => ?_)
    refine zq_if ?_ ?_
    · skip
      exact zfr.c hS_21 (q_fPL_firstFault_62 rc21 _ _ _ _ hrc21) (fun _ h => h) (fun _ h => h)
    · skip
      refine zq_3 (hS_21.c (q_fPL_hasRightShape _ _ _ _) (by decide) (by decide)) (fun P8 S7 k6 hS7 => ?_)
      refine zq_if ?_ ?_
      · skip
        exact zfr.c hS7 (q_fPL_firstFault_56 _ _ _ ) (by decide) (by decide)
      · skip
        refine zq_l (fun k11 => ?_)
        refine zq_if ?_ ?_
        · skip
          exact zfr.c hS7 (q_fPL_firstFault_56 _ _ _ ) (by decide) (by decide)
        · skip
          exact zfr.c hS7 (q_fPL_firstFault_62 rc21 _ _ _ _ hrc21) (fun _ h => h) (fun _ h => h)
theorem z_fPL_firstFault_21  : ∀ (n : Nat) (P_21 : ZS) (S_21 : ZS) (x21_2 : Int32) (x21_3 : Int32), zfrC 28 [14, 15] [27] S_21 (zfix (fun P9 S9 _ _ => (P9, S9, 0)) (fPL_firstFault_21 ) n P_21 S_21 x21_2 x21_3) := by
  intro n
  induction n with
  | zero => intro P_21 S_21 x21_2 x21_3; rw [zfix_0]; exact zfr.rf
  | succ n ih => intro P_21 S_21 x21_2 x21_3; rw [zfix_s]; exact q_fPL_firstFault_21  _ _ _ _ _  ih
theorem q_fPL_firstFault (P S : ZS) : zfrC 28 [14, 15] [27] S (fPL_firstFault P S) := by
  unfold fPL_firstFault
  have hS : zfr 28 [14, 15] [27] S S := zfr.rf
  refine zq_l (fun k12 => ?_)
  refine zq_if ?_ ?_
  · skip
    exact zfr.c hS (q_fPL_firstFault_14 _ _ ) (by decide) (by decide)
  · skip
    refine zq_l (fun k14 => ?_)
    refine zq_if ?_ ?_
    · skip
      exact zfr.c hS (z_fPL_firstFault_21   7 _ _ _ _) (fun _ h => h) (fun _ h => h)
    · skip
      exact zfr.c hS (q_fPL_firstFault_14 _ _ ) (by decide) (by decide)
theorem q_fPL_addLink (P S : ZS) (x0 : Int32) (x1 : Int32) (x2 : Int32) : zfrC 28 [] [] S (fPL_addLink P S x0 x1 x2) := by
  unfold fPL_addLink
  have hS : zfr 28 [] [] S S := zfr.rf
  refine zq_l (fun k1 => ?_)
  refine zq_l (fun P2 => ?_)
  refine zq_l (fun P4 => ?_)
  refine zq_l (fun P6 => ?_)
  refine zq_l (fun k8 => ?_)
  refine zq_l (fun k9 => ?_)
  refine zq_l (fun k10 => ?_)
  refine zq_l (fun P11 => ?_)
  refine zq_l (fun k13 => ?_)
  refine zq_l (fun k14 => ?_)
  refine zq_l (fun k15 => ?_)
  refine zq_l (fun k16 => ?_)
  refine zq_l (fun P17 => ?_)
  refine zq_l (fun k19 => ?_)
  refine zq_l (fun P20 => ?_)
  exact hS
theorem q_fWI_put (P S : ZS) (x0 : Int32) (x1 : Int32) : zfrA 28 [9] [11, 12] S (fWI_put P S x0 x1) := by
  unfold fWI_put
  have hS : zfr 28 [9] [11, 12] S S := zfr.rf
  refine zq_l (fun k1 => ?_)
  refine zq_if ?_ ?_
  · skip
    refine zq_l (fun k2 => ?_)
    refine zq_l (fun k3 => ?_)
    refine zq_s (hS.F (by decide)) (fun S4 hS4 => ?_)
    refine zq_l (fun k6 => ?_)
    refine zq_s (hS4.F (by decide)) (fun S7 hS7 => ?_)
    exact hS7
  · skip
    refine zq_l (fun k9 => ?_)
    refine zq_l (fun k10 => ?_)
    refine zq_s (hS.I (by decide)) (fun S11 hS11 => ?_)
    exact hS11
theorem q_fWI_losesOne (P S : ZS) (x0 : Int32) : zfrB 28 [9] [13] S (fWI_losesOne P S x0) := by
  unfold fWI_losesOne
  have hS : zfr 28 [9] [13] S S := zfr.rf
  refine zq_l (fun k1 => ?_)
  refine zq_if ?_ ?_
  · skip
    exact hS
  · skip
    refine zq_l (fun k2 => ?_)
    refine zq_l (fun k3 => ?_)
    refine zq_s (hS.F (by decide)) (fun S4 hS4 => ?_)
    refine zq_l (fun k6 => ?_)
    refine zq_l (fun k7 => ?_)
    refine zq_s (hS4.I (by decide)) (fun S8 hS8 => ?_)
    exact hS8
theorem q_fTA_learn (P S : ZS) (x0 : Int32) (x1 : Int32) (x2 : Int32) (x3 : Int32) (x4 : Int32) : zfrA 28 [] [28] S (fTA_learn P S x0 x1 x2 x3 x4) := by
  unfold fTA_learn
  have hS : zfr 28 [] [28] S S := zfr.rf
  refine zq_l (fun k1 => ?_)
  refine zq_l (fun k2 => ?_)
  refine zq_l (fun k3 => ?_)
  refine zq_l (fun k4 => ?_)
  refine zq_s (hS.F8 (by decide)) (fun S5 hS5 => ?_)
  exact hS5
theorem q_fTA_forgetHost_10 (P : ZS) (rc2 : ZS → Int32 → Int32 → (ZS)) (rc10 : ZS → Int32 → Int32 → Int32 → (ZS)) (S_10 : ZS) (x10_1 : Int32) (x10_2 : Int32) (x10_3 : Int32) (hrc2 : ∀ (a0 : ZS) (a1 : Int32) (a2 : Int32), zfrA 28 [] [28] a0 (rc2 a0 a1 a2)) (hrc10 : ∀ (a0 : ZS) (a1 : Int32) (a2 : Int32) (a3 : Int32), zfrA 28 [] [28] a0 (rc10 a0 a1 a2 a3)) : zfrA 28 [] [28] S_10 (fTA_forgetHost_10 P rc2 rc10 S_10 x10_1 x10_2 x10_3) := by
  unfold fTA_forgetHost_10
  have hS_10 : zfr 28 [] [28] S_10 S_10 := zfr.rf
  refine zq_if ?_ ?_
  · skip
    refine zq_l (fun k1 => ?_)
    exact zfr.c hS_10 (hrc2 _ _ _) (fun _ h => h) (fun _ h => h)
  · skip
    refine zq_l (fun k2 => ?_)
    refine zq_l (fun k3 => ?_)
    refine zq_s (hS_10.F8 (by decide)) (fun S4 hS4 => ?_)
    refine zq_l (fun k6 => ?_)
    exact zfr.c hS4 (hrc10 _ _ _ _) (fun _ h => h) (fun _ h => h)
theorem z_fTA_forgetHost_10 (P : ZS) (rc2 : ZS → Int32 → Int32 → (ZS)) (hrc2 : ∀ (a0 : ZS) (a1 : Int32) (a2 : Int32), zfrA 28 [] [28] a0 (rc2 a0 a1 a2)) : ∀ (n : Nat) (S_10 : ZS) (x10_1 : Int32) (x10_2 : Int32) (x10_3 : Int32), zfrA 28 [] [28] S_10 (zfix (fun S9 _ _ _ => S9) (fTA_forgetHost_10 P rc2) n S_10 x10_1 x10_2 x10_3) := by
  intro n
  induction n with
  | zero => intro S_10 x10_1 x10_2 x10_3; rw [zfix_0]; exact zfr.rf
  | succ n ih => intro S_10 x10_1 x10_2 x10_3; rw [zfix_s]; exact q_fTA_forgetHost_10 P rc2 _ _ _ _ _ hrc2 ih
theorem q_fTA_forgetHost_2 (P : ZS) (rc2 : ZS → Int32 → Int32 → (ZS)) (S_2 : ZS) (x2_1 : Int32) (x2_2 : Int32) (hrc2 : ∀ (a0 : ZS) (a1 : Int32) (a2 : Int32), zfrA 28 [] [28] a0 (rc2 a0 a1 a2)) : zfrA 28 [] [28] S_2 (fTA_forgetHost_2 P rc2 S_2 x2_1 x2_2) := by
  unfold fTA_forgetHost_2
  have hS_2 : zfr 28 [] [28] S_2 S_2 := zfr.rf
  refine zq_if ?_ ?_
  · skip
    exact hS_2
  · skip
    exact zfr.c hS_2 (z_fTA_forgetHost_10 P rc2 hrc2 5 _ _ _ _) (fun _ h => h) (fun _ h => h)
theorem z_fTA_forgetHost_2 (P : ZS) : ∀ (n : Nat) (S_2 : ZS) (x2_1 : Int32) (x2_2 : Int32), zfrA 28 [] [28] S_2 (zfix (fun S9 _ _ => S9) (fTA_forgetHost_2 P) n S_2 x2_1 x2_2) := by
  intro n
  induction n with
  | zero => intro S_2 x2_1 x2_2; rw [zfix_0]; exact zfr.rf
  | succ n ih => intro S_2 x2_1 x2_2; rw [zfix_s]; exact q_fTA_forgetHost_2 P _ _ _ _  ih
theorem q_fTA_forgetHost (P S : ZS) (x0 : Int32) : zfrA 28 [] [28] S (fTA_forgetHost P S x0) := by
  unfold fTA_forgetHost
  have hS : zfr 28 [] [28] S S := zfr.rf
  exact zfr.c hS (z_fTA_forgetHost_2 P  49 _ _ _) (fun _ h => h) (fun _ h => h)
theorem q_fTA_forgetAll (P S : ZS) (x0 : Int32) : zfrA 28 [] [28] S (fTA_forgetAll P S x0) := by
  unfold fTA_forgetAll
  have hS : zfr 28 [] [28] S S := zfr.rf
  refine zq_s (hS.R8 (by decide)) (fun S1 hS1 => ?_)
  exact hS1
theorem q_fPR_setHolds (P S : ZS) (x0 : Int32) (x1 : Int32) : zfrA 28 [11] [14, 16] S (fPR_setHolds P S x0 x1) := by
  unfold fPR_setHolds
  have hS : zfr 28 [11] [14, 16] S S := zfr.rf
  refine zq_l (fun k1 => ?_)
  refine zq_if ?_ ?_
  · skip
    exact hS
  · skip
    refine zq_s (hS.F (by decide)) (fun S2 hS2 => ?_)
    refine zq_l (fun k4 => ?_)
    refine zq_s (hS2.F (by decide)) (fun S5 hS5 => ?_)
    refine zq_s (hS5.I (by decide)) (fun S7 hS7 => ?_)
    exact hS7
theorem q_fPR_endHold (P S : ZS) (x0 : Int32) (x1 : Int32) : zfrA 28 [10, 11] [14, 15, 16] S (fPR_endHold P S x0 x1) := by
  unfold fPR_endHold
  have hS : zfr 28 [10, 11] [14, 15, 16] S S := zfr.rf
  refine zq_l (fun k1 => ?_)
  refine zq_l (fun k2 => ?_)
  refine zq_l (fun k3 => ?_)
  refine zq_l (fun k4 => ?_)
  refine zq_s (hS.c (q_fPR_setHolds _ _ _ _) (by decide) (by decide)) (fun S6 hS6 => ?_)
  refine zq_l (fun k8 => ?_)
  refine zq_l (fun k9 => ?_)
  refine zq_l (fun k10 => ?_)
  refine zq_l (fun k11 => ?_)
  refine zq_s (hS6.F (by decide)) (fun S12 hS12 => ?_)
  refine zq_l (fun k14 => ?_)
  refine zq_l (fun k15 => ?_)
  refine zq_s (hS12.I (by decide)) (fun S16 hS16 => ?_)
  exact hS16
theorem q_fPR_endCommand (P S : ZS) (x0 : Int32) : zfrB 28 [10, 11] [14, 15, 16] S (fPR_endCommand P S x0) := by
  unfold fPR_endCommand
  have hS : zfr 28 [10, 11] [14, 15, 16] S S := zfr.rf
  refine zq_l (fun k2 => ?_)
  refine zq_if ?_ ?_
  · skip
    exact hS
  · skip
    refine zq_l (fun k3 => ?_)
    refine zq_l (fun k4 => ?_)
    refine zq_s (hS.c (q_fPR_endHold _ _ _ _) (by decide) (by decide)) (fun S6 hS6 => ?_)
    exact hS6
theorem q_fPR_endOwnerHold (P S : ZS) (x0 : Int32) : zfrA 28 [11] [14, 16, 17] S (fPR_endOwnerHold P S x0) := by
  unfold fPR_endOwnerHold
  have hS : zfr 28 [11] [14, 16, 17] S S := zfr.rf
  refine zq_l (fun k2 => ?_)
  refine zq_if ?_ ?_
  · skip
    exact hS
  · skip
    refine zq_l (fun k3 => ?_)
    refine zq_l (fun k4 => ?_)
    refine zq_l (fun k5 => ?_)
    refine zq_l (fun k6 => ?_)
    refine zq_s (hS.c (q_fPR_setHolds _ _ _ _) (by decide) (by decide)) (fun S8 hS8 => ?_)
    refine zq_l (fun k10 => ?_)
    refine zq_s (hS8.F (by decide)) (fun S11 hS11 => ?_)
    exact hS11
theorem q_fPR_beginHold (P S : ZS) (x0 : Int32) (x1 : Int32) : zfrA 28 [10, 11] [14, 16, 17] S (fPR_beginHold P S x0 x1) := by
  unfold fPR_beginHold
  have hS : zfr 28 [10, 11] [14, 16, 17] S S := zfr.rf
  refine zq_l (fun k1 => ?_)
  refine zq_l (fun k2 => ?_)
  refine zq_s (hS.c (q_fPR_setHolds _ _ _ _) (by decide) (by decide)) (fun S4 hS4 => ?_)
  refine zq_l (fun k6 => ?_)
  refine zq_s (hS4.c (q_fPR_endOwnerHold _ _ _) (by decide) (by decide)) (fun S8 hS8 => ?_)
  refine zq_l (fun k10 => ?_)
  refine zq_l (fun k11 => ?_)
  refine zq_s (hS8.I (by decide)) (fun S12 hS12 => ?_)
  exact hS12
theorem q_fPR_endWaiting_42 (P : ZS) (rc4 : ZS → Int32 → Int32 → (ZS)) (S_42 : ZS) (x42_1 : Int32) (x42_2 : Int32) (hrc4 : ∀ (a0 : ZS) (a1 : Int32) (a2 : Int32), zfrA 28 [11] [14, 16] a0 (rc4 a0 a1 a2)) : zfrA 28 [11] [14, 16] S_42 (fPR_endWaiting_42 P rc4 S_42 x42_1 x42_2) := by
  unfold fPR_endWaiting_42
  have hS_42 : zfr 28 [11] [14, 16] S_42 S_42 := zfr.rf
  refine zq_l (fun k1 => ?_)
  exact zfr.c hS_42 (hrc4 _ _ _) (fun _ h => h) (fun _ h => h)
theorem q_fPR_endWaiting_4 (P : ZS) (rc4 : ZS → Int32 → Int32 → (ZS)) (S_4 : ZS) (x4_1 : Int32) (x4_2 : Int32) (hrc4 : ∀ (a0 : ZS) (a1 : Int32) (a2 : Int32), zfrA 28 [11] [14, 16] a0 (rc4 a0 a1 a2)) : zfrA 28 [11] [14, 16] S_4 (fPR_endWaiting_4 P rc4 S_4 x4_1 x4_2) := by
  unfold fPR_endWaiting_4
  have hS_4 : zfr 28 [11] [14, 16] S_4 S_4 := zfr.rf
  refine zq_l (fun k2 => ?_)
  refine zq_l (fun k3 => ?_)
  refine zq_if ?_ ?_
  · skip
    exact hS_4
  · skip
    refine zq_l (fun k4 => ?_)
    refine zq_if ?_ ?_
    · skip
      exact zfr.c hS_4 (q_fPR_endWaiting_42 _ rc4 _ _ _ hrc4) (fun _ h => h) (fun _ h => h)
    · skip
      refine zq_l (fun k5 => ?_)
      refine zq_l (fun k6 => ?_)
      refine zq_s (hS_4.c (q_fPR_setHolds _ _ _ _) (by decide) (by decide)) (fun S8 hS8 => ?_)
      exact zfr.c hS8 (q_fPR_endWaiting_42 _ rc4 _ _ _ hrc4) (fun _ h => h) (fun _ h => h)
theorem z_fPR_endWaiting_4 (P : ZS) : ∀ (n : Nat) (S_4 : ZS) (x4_1 : Int32) (x4_2 : Int32), zfrA 28 [11] [14, 16] S_4 (zfix (fun S9 _ _ => S9) (fPR_endWaiting_4 P) n S_4 x4_1 x4_2) := by
  intro n
  induction n with
  | zero => intro S_4 x4_1 x4_2; rw [zfix_0]; exact zfr.rf
  | succ n ih => intro S_4 x4_1 x4_2; rw [zfix_s]; exact q_fPR_endWaiting_4 P _ _ _ _  ih
theorem q_fPR_endWaiting (P S : ZS) (x0 : Int32) : zfrA 28 [11] [14, 16] S (fPR_endWaiting P S x0) := by
  unfold fPR_endWaiting
  have hS : zfr 28 [11] [14, 16] S S := zfr.rf
  refine zq_l (fun k10 => ?_)
  exact zfr.c hS (z_fPR_endWaiting_4 P  577 _ _ _) (fun _ h => h) (fun _ h => h)
theorem q_fPR_putFromPorts_51 (P : ZS) (rc4 : ZS → Int32 → Int32 → Int32 → (ZS)) (S_51 : ZS) (x51_1 : Int32) (x51_2 : Int32) (x51_3 : Int32) (hrc4 : ∀ (a0 : ZS) (a1 : Int32) (a2 : Int32) (a3 : Int32), zfrA 28 [9] [11, 12] a0 (rc4 a0 a1 a2 a3)) : zfrA 28 [9] [11, 12] S_51 (fPR_putFromPorts_51 P rc4 S_51 x51_1 x51_2 x51_3) := by
  unfold fPR_putFromPorts_51
  have hS_51 : zfr 28 [9] [11, 12] S_51 S_51 := zfr.rf
  refine zq_l (fun k1 => ?_)
  exact zfr.c hS_51 (hrc4 _ _ _ _) (fun _ h => h) (fun _ h => h)
theorem q_fPR_putFromPorts_4 (P : ZS) (rc4 : ZS → Int32 → Int32 → Int32 → (ZS)) (S_4 : ZS) (x4_1 : Int32) (x4_2 : Int32) (x4_3 : Int32) (hrc4 : ∀ (a0 : ZS) (a1 : Int32) (a2 : Int32) (a3 : Int32), zfrA 28 [9] [11, 12] a0 (rc4 a0 a1 a2 a3)) : zfrA 28 [9] [11, 12] S_4 (fPR_putFromPorts_4 P rc4 S_4 x4_1 x4_2 x4_3) := by
  unfold fPR_putFromPorts_4
  have hS_4 : zfr 28 [9] [11, 12] S_4 S_4 := zfr.rf
  refine zq_l (fun k2 => ?_)
  refine zq_l (fun k3 => ?_)
  refine zq_if ?_ ?_
  · skip
    exact hS_4
  · skip
    refine zq_l (fun k4 => ?_)
    refine zq_if ?_ ?_
    · skip
      exact zfr.c hS_4 (q_fPR_putFromPorts_51 _ rc4 _ _ _ _ hrc4) (fun _ h => h) (fun _ h => h)
    · skip
      refine zq_l (fun k6 => ?_)
      refine zq_if ?_ ?_
      · skip
        refine zq_l (fun k7 => ?_)
        refine zq_s (hS_4.c (q_fWI_put _ _ _ _) (by decide) (by decide)) (fun S9 hS9 => ?_)
        exact zfr.c hS9 (q_fPR_putFromPorts_51 _ rc4 _ _ _ _ hrc4) (fun _ h => h) (fun _ h => h)
      · skip
        exact zfr.c hS_4 (q_fPR_putFromPorts_51 _ rc4 _ _ _ _ hrc4) (fun _ h => h) (fun _ h => h)
theorem z_fPR_putFromPorts_4 (P : ZS) : ∀ (n : Nat) (S_4 : ZS) (x4_1 : Int32) (x4_2 : Int32) (x4_3 : Int32), zfrA 28 [9] [11, 12] S_4 (zfix (fun S9 _ _ _ => S9) (fPR_putFromPorts_4 P) n S_4 x4_1 x4_2 x4_3) := by
  intro n
  induction n with
  | zero => intro S_4 x4_1 x4_2 x4_3; rw [zfix_0]; exact zfr.rf
  | succ n ih => intro S_4 x4_1 x4_2 x4_3; rw [zfix_s]; exact q_fPR_putFromPorts_4 P _ _ _ _ _  ih
theorem q_fPR_putFromPorts (P S : ZS) (x0 : Int32) (x1 : Int32) : zfrA 28 [9] [11, 12] S (fPR_putFromPorts P S x0 x1) := by
  unfold fPR_putFromPorts
  have hS : zfr 28 [9] [11, 12] S S := zfr.rf
  refine zq_l (fun k11 => ?_)
  exact zfr.c hS (z_fPR_putFromPorts_4 P  577 _ _ _ _) (fun _ h => h) (fun _ h => h)
theorem q_fPR_takeNews_98 (P : ZS) (rc68 : ZS → Int32 → Int32 → Int32 → Int32 → (ZS)) (S_98 : ZS) (x98_1 : Int32) (x98_4 : Int32) (x98_6 : Int32) (x98_7 : Int32) (hrc68 : ∀ (a0 : ZS) (a1 : Int32) (a2 : Int32) (a3 : Int32) (a4 : Int32), zfrA 28 [9] [11, 12] a0 (rc68 a0 a1 a2 a3 a4)) : zfrA 28 [9] [11, 12] S_98 (fPR_takeNews_98 P rc68 S_98 x98_1 x98_4 x98_6 x98_7) := by
  unfold fPR_takeNews_98
  have hS_98 : zfr 28 [9] [11, 12] S_98 S_98 := zfr.rf
  refine zq_l (fun k1 => ?_)
  exact zfr.c hS_98 (hrc68 _ _ _ _ _) (fun _ h => h) (fun _ h => h)
theorem q_fPR_takeNews_68 (P : ZS) (rc68 : ZS → Int32 → Int32 → Int32 → Int32 → (ZS)) (S_68 : ZS) (x68_1 : Int32) (x68_4 : Int32) (x68_6 : Int32) (x68_7 : Int32) (hrc68 : ∀ (a0 : ZS) (a1 : Int32) (a2 : Int32) (a3 : Int32) (a4 : Int32), zfrA 28 [9] [11, 12] a0 (rc68 a0 a1 a2 a3 a4)) : zfrA 28 [9] [11, 12] S_68 (fPR_takeNews_68 P rc68 S_68 x68_1 x68_4 x68_6 x68_7) := by
  unfold fPR_takeNews_68
  have hS_68 : zfr 28 [9] [11, 12] S_68 S_68 := zfr.rf
  refine zq_if ?_ ?_
  · skip
    exact hS_68
  · skip
    refine zq_l (fun k2 => ?_)
    refine zq_if ?_ ?_
    · skip
      exact zfr.c hS_68 (q_fPR_takeNews_98 _ rc68 _ _ _ _ _ hrc68) (fun _ h => h) (fun _ h => h)
    · skip
      refine zq_l (fun k3 => ?_)
      refine zq_l (fun k4 => ?_)
      refine zq_s (hS_68.c (q_fPR_putFromPorts _ _ _ _) (by decide) (by decide)) (fun S6 hS6 => ?_)
      exact zfr.c hS6 (q_fPR_takeNews_98 _ rc68 _ _ _ _ _ hrc68) (fun _ h => h) (fun _ h => h)
theorem z_fPR_takeNews_68 (P : ZS) : ∀ (n : Nat) (S_68 : ZS) (x68_1 : Int32) (x68_4 : Int32) (x68_6 : Int32) (x68_7 : Int32), zfrA 28 [9] [11, 12] S_68 (zfix (fun S9 _ _ _ _ => S9) (fPR_takeNews_68 P) n S_68 x68_1 x68_4 x68_6 x68_7) := by
  intro n
  induction n with
  | zero => intro S_68 x68_1 x68_4 x68_6 x68_7; rw [zfix_0]; exact zfr.rf
  | succ n ih => intro S_68 x68_1 x68_4 x68_6 x68_7; rw [zfix_s]; exact q_fPR_takeNews_68 P _ _ _ _ _ _  ih
theorem q_fPR_takeNews (P S : ZS) (x0 : Int32) (x1 : Int32) (x2 : Int32) : zfrA 28 [9] [11, 12, 21, 22, 28] S (fPR_takeNews P S x0 x1 x2) := by
  unfold fPR_takeNews
  have hS : zfr 28 [9] [11, 12, 21, 22, 28] S S := zfr.rf
  refine zq_l (fun k8 => ?_)
  refine zq_l (fun k9 => ?_)
  refine zq_l (fun k10 => ?_)
  refine zq_l (fun k11 => ?_)
  refine zq_if ?_ ?_
  · skip
    refine zq_s (hS.F (by decide)) (fun S12 hS12 => ?_)
    refine zq_l (fun k14 => ?_)
    refine zq_l (fun k15 => ?_)
    refine zq_s (hS12.F (by decide)) (fun S16 hS16 => ?_)
    refine zq_s (hS16.c (q_fTA_forgetAll _ _ _) (by decide) (by decide)) (fun S19 hS19 => ?_)
    refine zq_l (fun k22 => ?_)
    exact zfr.c hS19 (z_fPR_takeNews_68 P  7 _ _ _ _ _) (by decide) (by decide)
  · skip
    exact hS
theorem q_fPR_takeHold (P S : ZS) (x0 : Int32) : zfrA 28 [9, 11] [11, 12, 14, 16, 18, 21, 22, 28] S (fPR_takeHold P S x0) := by
  unfold fPR_takeHold
  have hS : zfr 28 [9, 11] [11, 12, 14, 16, 18, 21, 22, 28] S S := zfr.rf
  refine zq_l (fun k1 => ?_)
  refine zq_l (fun k2 => ?_)
  refine zq_l (fun k3 => ?_)
  refine zq_s (hS.c (q_fPR_setHolds _ _ _ _) (by decide) (by decide)) (fun S5 hS5 => ?_)
  refine zq_l (fun k7 => ?_)
  refine zq_l (fun k8 => ?_)
  refine zq_s (hS5.F (by decide)) (fun S9 hS9 => ?_)
  refine zq_l (fun k11 => ?_)
  refine zq_l (fun k12 => ?_)
  refine zq_l (fun k13 => ?_)
  refine zq_s (hS9.c (q_fPR_takeNews _ _ _ _ _) (by decide) (by decide)) (fun S15 hS15 => ?_)
  exact hS15
theorem q_fPR_takeAllHolds_26 (P : ZS) (rc2 : ZS → Int32 → (ZS)) (S_26 : ZS) (x26_1 : Int32) (hrc2 : ∀ (a0 : ZS) (a1 : Int32), zfrA 28 [9, 11] [11, 12, 14, 16, 18, 21, 22, 28] a0 (rc2 a0 a1)) : zfrA 28 [9, 11] [11, 12, 14, 16, 18, 21, 22, 28] S_26 (fPR_takeAllHolds_26 P rc2 S_26 x26_1) := by
  unfold fPR_takeAllHolds_26
  have hS_26 : zfr 28 [9, 11] [11, 12, 14, 16, 18, 21, 22, 28] S_26 S_26 := zfr.rf
  refine zq_l (fun k1 => ?_)
  exact zfr.c hS_26 (hrc2 _ _) (fun _ h => h) (fun _ h => h)
theorem q_fPR_takeAllHolds_2 (P : ZS) (rc2 : ZS → Int32 → (ZS)) (S_2 : ZS) (x2_1 : Int32) (hrc2 : ∀ (a0 : ZS) (a1 : Int32), zfrA 28 [9, 11] [11, 12, 14, 16, 18, 21, 22, 28] a0 (rc2 a0 a1)) : zfrA 28 [9, 11] [11, 12, 14, 16, 18, 21, 22, 28] S_2 (fPR_takeAllHolds_2 P rc2 S_2 x2_1) := by
  unfold fPR_takeAllHolds_2
  have hS_2 : zfr 28 [9, 11] [11, 12, 14, 16, 18, 21, 22, 28] S_2 S_2 := zfr.rf
  refine zq_if ?_ ?_
  · skip
    exact hS_2
  · skip
    refine zq_l (fun k2 => ?_)
    refine zq_if ?_ ?_
    · skip
      exact zfr.c hS_2 (q_fPR_takeAllHolds_26 _ rc2 _ _ hrc2) (fun _ h => h) (fun _ h => h)
    · skip
      refine zq_s (hS_2.c (q_fPR_takeHold _ _ _) (by decide) (by decide)) (fun S4 hS4 => ?_)
      exact zfr.c hS4 (q_fPR_takeAllHolds_26 _ rc2 _ _ hrc2) (fun _ h => h) (fun _ h => h)
theorem z_fPR_takeAllHolds_2 (P : ZS) : ∀ (n : Nat) (S_2 : ZS) (x2_1 : Int32), zfrA 28 [9, 11] [11, 12, 14, 16, 18, 21, 22, 28] S_2 (zfix (fun S9 _ => S9) (fPR_takeAllHolds_2 P) n S_2 x2_1) := by
  intro n
  induction n with
  | zero => intro S_2 x2_1; rw [zfix_0]; exact zfr.rf
  | succ n ih => intro S_2 x2_1; rw [zfix_s]; exact q_fPR_takeAllHolds_2 P _ _ _  ih
theorem q_fPR_takeAllHolds (P S : ZS) : zfrA 28 [9, 11] [11, 12, 14, 16, 18, 21, 22, 28] S (fPR_takeAllHolds P S) := by
  unfold fPR_takeAllHolds
  have hS : zfr 28 [9, 11] [11, 12, 14, 16, 18, 21, 22, 28] S S := zfr.rf
  exact zfr.c hS (z_fPR_takeAllHolds_2 P  7 _ _) (fun _ h => h) (fun _ h => h)
theorem q_fPR_breakLink_14 (P : ZS) (rc14 : ZS → Int32 → Int32 → (ZS)) (S_14 : ZS) (x14_1 : Int32) (x14_2 : Int32) (hrc14 : ∀ (a0 : ZS) (a1 : Int32) (a2 : Int32), zfrA 28 [9, 10, 11] [11, 12, 14, 16, 17, 21, 22, 28] a0 (rc14 a0 a1 a2)) : zfrA 28 [9, 10, 11] [11, 12, 14, 16, 17, 21, 22, 28] S_14 (fPR_breakLink_14 P rc14 S_14 x14_1 x14_2) := by
  unfold fPR_breakLink_14
  have hS_14 : zfr 28 [9, 10, 11] [11, 12, 14, 16, 17, 21, 22, 28] S_14 S_14 := zfr.rf
  refine zq_l (fun k1 => ?_)
  refine zq_l (fun k2 => ?_)
  refine zq_if ?_ ?_
  · skip
    exact hS_14
  · skip
    refine zq_l (fun k3 => ?_)
    refine zq_l (fun k4 => ?_)
    refine zq_s (hS_14.c (q_fPR_setHolds _ _ _ _) (by decide) (by decide)) (fun S6 hS6 => ?_)
    refine zq_s (hS6.c (q_fPR_beginHold _ _ _ _) (by decide) (by decide)) (fun S9 hS9 => ?_)
    refine zq_l (fun k11 => ?_)
    refine zq_l (fun k12 => ?_)
    refine zq_s (hS9.c (q_fPR_takeNews _ _ _ _ _) (by decide) (by decide)) (fun S14 hS14 => ?_)
    refine zq_l (fun k16 => ?_)
    exact zfr.c hS14 (hrc14 _ _ _) (fun _ h => h) (fun _ h => h)
theorem z_fPR_breakLink_14 (P : ZS) : ∀ (n : Nat) (S_14 : ZS) (x14_1 : Int32) (x14_2 : Int32), zfrA 28 [9, 10, 11] [11, 12, 14, 16, 17, 21, 22, 28] S_14 (zfix (fun S9 _ _ => S9) (fPR_breakLink_14 P) n S_14 x14_1 x14_2) := by
  intro n
  induction n with
  | zero => intro S_14 x14_1 x14_2; rw [zfix_0]; exact zfr.rf
  | succ n ih => intro S_14 x14_1 x14_2; rw [zfix_s]; exact q_fPR_breakLink_14 P _ _ _ _  ih
theorem q_fPR_breakLink (P S : ZS) (x0 : Int32) : zfrA 28 [9, 10, 11] [11, 12, 14, 16, 17, 19, 21, 22, 28] S (fPR_breakLink P S x0) := by
  unfold fPR_breakLink
  have hS : zfr 28 [9, 10, 11] [11, 12, 14, 16, 17, 19, 21, 22, 28] S S := zfr.rf
  refine zq_l (fun k17 => ?_)
  refine zq_l (fun k18 => ?_)
  refine zq_s (hS.F (by decide)) (fun S19 hS19 => ?_)
  refine zq_l (fun k21 => ?_)
  exact zfr.c hS19 (z_fPR_breakLink_14 P  121 _ _ _) (by decide) (by decide)
theorem q_fPR_mendLink (P S : ZS) (x0 : Int32) : zfrA 28 [10, 11] [14, 15, 16] S (fPR_mendLink P S x0) := by
  unfold fPR_mendLink
  have hS : zfr 28 [10, 11] [14, 15, 16] S S := zfr.rf
  refine zq_l (fun k1 => ?_)
  refine zq_s (hS.c (q_fPR_endHold _ _ _ _) (by decide) (by decide)) (fun S3 hS3 => ?_)
  refine zq_l (fun k5 => ?_)
  refine zq_l (fun k6 => ?_)
  refine zq_s (hS3.c (q_fPR_endHold _ _ _ _) (by decide) (by decide)) (fun S8 hS8 => ?_)
  exact hS8
theorem q_fPR_giveCommand (P S : ZS) (x0 : Int32) (x1 : Int32) : zfrB 28 [9, 10, 11] [11, 12, 14, 15, 16, 17, 20, 21, 22, 28] S (fPR_giveCommand P S x0 x1) := by
  unfold fPR_giveCommand
  have hS : zfr 28 [9, 10, 11] [11, 12, 14, 15, 16, 17, 20, 21, 22, 28] S S := zfr.rf
  refine zq_l (fun k1 => ?_)
  refine zq_l (fun k2 => ?_)
  refine zq_if ?_ ?_
  · skip
    refine zq_l (fun k3 => ?_)
    refine zq_l (fun k4 => ?_)
    refine zq_2 (hS.c (q_fPR_endCommand _ _ _) (by decide) (by decide)) (fun S7 k6 hS7 => ?_)
    refine zq_s (hS7.c (q_fPR_beginHold _ _ _ _) (by decide) (by decide)) (fun S10 hS10 => ?_)
    refine zq_l (fun k12 => ?_)
    refine zq_l (fun k13 => ?_)
    refine zq_s (hS10.F (by decide)) (fun S14 hS14 => ?_)
    refine zq_l (fun k16 => ?_)
    refine zq_l (fun k17 => ?_)
    refine zq_s (hS14.c (q_fPR_takeNews _ _ _ _ _) (by decide) (by decide)) (fun S19 hS19 => ?_)
    exact hS19
  · skip
    exact hS
theorem q_fPR_hearOfBlock_80 (P : ZS) (S_80 : ZS) (x80_4 : Int32) : zfrA 28 [10, 11] [14, 15, 16] S_80 (fPR_hearOfBlock_80 P S_80 x80_4) := by
  unfold fPR_hearOfBlock_80
  have hS_80 : zfr 28 [10, 11] [14, 15, 16] S_80 S_80 := zfr.rf
  refine zq_l (fun k1 => ?_)
  refine zq_l (fun k2 => ?_)
  refine zq_s (hS_80.c (q_fPR_endHold _ _ _ _) (by decide) (by decide)) (fun S4 hS4 => ?_)
  exact hS4
theorem q_fPR_hearOfBlock_59 (P : ZS) (S_59 : ZS) (x59_1 : Int32) (x59_2 : Int32) (x59_3 : Int32) (x59_4 : Int32) (x59_5 : Int32) (y59_0 : Int32) : zfrA 28 [10, 11] [14, 15, 16] S_59 (fPR_hearOfBlock_59 P S_59 x59_1 x59_2 x59_3 x59_4 x59_5 y59_0) := by
  unfold fPR_hearOfBlock_59
  have hS_59 : zfr 28 [10, 11] [14, 15, 16] S_59 S_59 := zfr.rf
  refine zq_if ?_ ?_
  · skip
    refine zq_if ?_ ?_
    · skip
      refine zq_l (fun k6 => ?_)
      refine zq_if ?_ ?_
      · skip
        exact hS_59
      · skip
        exact zfr.c hS_59 (q_fPR_hearOfBlock_80 _ _ _ ) (fun _ h => h) (fun _ h => h)
    · skip
      exact hS_59
  · skip
    exact zfr.c hS_59 (q_fPR_hearOfBlock_80 _ _ _ ) (fun _ h => h) (fun _ h => h)
theorem q_fPR_hearOfBlock_58 (P : ZS) (S_58 : ZS) (x58_1 : Int32) (x58_2 : Int32) (x58_3 : Int32) (x58_4 : Int32) (x58_5 : Int32) : zfrA 28 [10, 11] [14, 15, 16] S_58 (fPR_hearOfBlock_58 P S_58 x58_1 x58_2 x58_3 x58_4 x58_5) := by
  unfold fPR_hearOfBlock_58
  have hS_58 : zfr 28 [10, 11] [14, 15, 16] S_58 S_58 := zfr.rf
  exact zfr.c hS_58 (q_fPR_hearOfBlock_59 _ _ _ _ _ _ _ _ ) (fun _ h => h) (fun _ h => h)
theorem q_fPR_hearOfBlock_41 (P : ZS) (S_41 : ZS) (x41_1 : Int32) (x41_2 : Int32) (x41_3 : Int32) (x41_4 : Int32) (y41_0 : Int32) : zfrA 28 [10, 11] [14, 15, 16] S_41 (fPR_hearOfBlock_41 P S_41 x41_1 x41_2 x41_3 x41_4 y41_0) := by
  unfold fPR_hearOfBlock_41
  have hS_41 : zfr 28 [10, 11] [14, 15, 16] S_41 S_41 := zfr.rf
  refine zq_if ?_ ?_
  · skip
    refine zq_if ?_ ?_
    · skip
      exact zfr.c hS_41 (q_fPR_hearOfBlock_58 _ _ _ _ _ _ _ ) (fun _ h => h) (fun _ h => h)
    · skip
      exact zfr.c hS_41 (q_fPR_hearOfBlock_59 _ _ _ _ _ _ _ _ ) (fun _ h => h) (fun _ h => h)
  · skip
    exact zfr.c hS_41 (q_fPR_hearOfBlock_58 _ _ _ _ _ _ _ ) (fun _ h => h) (fun _ h => h)
theorem q_fPR_hearOfBlock (P S : ZS) (x0 : Int32) (x1 : Int32) (x2 : Int32) : zfrA 28 [10, 11] [14, 15, 16, 17] S (fPR_hearOfBlock P S x0 x1 x2) := by
  unfold fPR_hearOfBlock
  have hS : zfr 28 [10, 11] [14, 15, 16, 17] S S := zfr.rf
  refine zq_s (hS.c (q_fPR_endOwnerHold _ _ _) (by decide) (by decide)) (fun S8 hS8 => ?_)
  refine zq_s (hS8.c (q_fPR_endWaiting _ _ _) (by decide) (by decide)) (fun S11 hS11 => ?_)
  refine zq_l (fun k14 => ?_)
  refine zq_if ?_ ?_
  · skip
    exact hS11
  · skip
    refine zq_l (fun k15 => ?_)
    refine zq_l (fun k16 => ?_)
    refine zq_if ?_ ?_
    · skip
      exact zfr.c hS11 (q_fPR_hearOfBlock_41 _ _ _ _ _ _ _ ) (by decide) (by decide)
    · skip
      exact zfr.c hS11 (q_fPR_hearOfBlock_41 _ _ _ _ _ _ _ ) (by decide) (by decide)
theorem q_fPR_hearOfHealing_21 (P : ZS) (S_21 : ZS) (x21_1 : Int32) (x21_2 : Int32) (y21_0 : Int32) : zfrA 28 [] [17] S_21 (fPR_hearOfHealing_21 P S_21 x21_1 x21_2 y21_0) := by
  unfold fPR_hearOfHealing_21
  have hS_21 : zfr 28 [] [17] S_21 S_21 := zfr.rf
  refine zq_l (fun k2 => ?_)
  refine zq_if ?_ ?_
  · skip
    exact hS_21
  · skip
    refine zq_if ?_ ?_
    · skip
      refine zq_l (fun k3 => ?_)
      refine zq_if ?_ ?_
      · skip
        refine zq_s (hS_21.F (by decide)) (fun S4 hS4 => ?_)
        exact hS4
      · skip
        exact hS_21
    · skip
      exact hS_21
theorem q_fPR_hearOfHealing (P S : ZS) (x0 : Int32) : zfrA 28 [] [17] S (fPR_hearOfHealing P S x0) := by
  unfold fPR_hearOfHealing
  have hS : zfr 28 [] [17] S S := zfr.rf
  refine zq_l (fun k6 => ?_)
  refine zq_l (fun k8 => ?_)
  refine zq_l (fun k9 => ?_)
  refine zq_if ?_ ?_
  · skip
    exact zfr.c hS (q_fPR_hearOfHealing_21 _ _ _ _ _ ) (fun _ h => h) (fun _ h => h)
  · skip
    exact zfr.c hS (q_fPR_hearOfHealing_21 _ _ _ _ _ ) (fun _ h => h) (fun _ h => h)
theorem q_fPR_hear_23 (P : ZS) (S_23 : ZS) (x23_1 : Int32) (x23_2 : Int32) (x23_3 : Int32) : zfrA 28 [10, 11] [14, 15, 16, 17] S_23 (fPR_hear_23 P S_23 x23_1 x23_2 x23_3) := by
  unfold fPR_hear_23
  have hS_23 : zfr 28 [10, 11] [14, 15, 16, 17] S_23 S_23 := zfr.rf
  refine zq_l (fun k1 => ?_)
  refine zq_if ?_ ?_
  · skip
    refine zq_if ?_ ?_
    · skip
      refine zq_l (fun k3 => ?_)
      refine zq_s (hS_23.c (q_fPR_hearOfBlock _ _ _ _ _) (by decide) (by decide)) (fun S5 hS5 => ?_)
      exact hS5
    · skip
      refine zq_if ?_ ?_
      · skip
        refine zq_l (fun k8 => ?_)
        refine zq_s (hS_23.c (q_fPR_hearOfBlock _ _ _ _ _) (by decide) (by decide)) (fun S10 hS10 => ?_)
        exact hS10
      · skip
        refine zq_if ?_ ?_
        · skip
          refine zq_l (fun k13 => ?_)
          refine zq_s (hS_23.c (q_fPR_hearOfBlock _ _ _ _ _) (by decide) (by decide)) (fun S15 hS15 => ?_)
          exact hS15
        · skip
          refine zq_if ?_ ?_
          · skip
            refine zq_s (hS_23.c (q_fPR_hearOfHealing _ _ _) (by decide) (by decide)) (fun S18 hS18 => ?_)
            exact hS18
          · skip
            refine zq_if ?_ ?_
            · skip
              refine zq_s (hS_23.c (q_fPR_endWaiting _ _ _) (by decide) (by decide)) (fun S21 hS21 => ?_)
              exact hS21
            · skip
              exact hS_23
  · skip
    exact hS_23
theorem q_fPR_hear (P S : ZS) (x0 : Int32) (x1 : Int32) : zfrA 28 [9, 10, 11] [11, 12, 14, 15, 16, 17, 21, 22, 28] S (fPR_hear P S x0 x1) := by
  unfold fPR_hear
  have hS : zfr 28 [9, 10, 11] [11, 12, 14, 15, 16, 17, 21, 22, 28] S S := zfr.rf
  refine zq_l (fun k24 => ?_)
  refine zq_if ?_ ?_
  · skip
    exact zfr.c hS (q_fPR_hear_23 _ _ _ _ _ ) (by decide) (by decide)
  · skip
    refine zq_l (fun k26 => ?_)
    refine zq_l (fun k28 => ?_)
    refine zq_s (hS.c (q_fPR_takeNews _ _ _ _ _) (by decide) (by decide)) (fun S30 hS30 => ?_)
    exact zfr.c hS30 (q_fPR_hear_23 _ _ _ _ _ ) (by decide) (by decide)
theorem q_fPR_arrive (P S : ZS) (x0 : Int32) (x1 : Int32) : zfrA 28 [9, 10, 11] [11, 12, 13, 14, 15, 16, 17, 21, 22, 28] S (fPR_arrive P S x0 x1) := by
  unfold fPR_arrive
  have hS : zfr 28 [9, 10, 11] [11, 12, 13, 14, 15, 16, 17, 21, 22, 28] S S := zfr.rf
  refine zq_l (fun k2 => ?_)
  refine zq_if ?_ ?_
  · skip
    refine zq_l (fun k3 => ?_)
    refine zq_2 (hS.c (q_fWI_losesOne _ _ _) (by decide) (by decide)) (fun S6 k5 hS6 => ?_)
    refine zq_if ?_ ?_
    · skip
      refine zq_l (fun k8 => ?_)
      refine zq_l (fun k10 => ?_)
      refine zq_l (fun k11 => ?_)
      refine zq_if ?_ ?_
      · skip
        exact hS6
      · skip
        refine zq_s (hS6.c (q_fPR_hear _ _ _ _) (by decide) (by decide)) (fun S13 hS13 => ?_)
        refine zq_l (fun k16 => ?_)
        refine zq_if ?_ ?_
        · skip
          exact hS13
        · skip
          refine zq_l (fun k18 => ?_)
          refine zq_if ?_ ?_
          · skip
            refine zq_l (fun k19 => ?_)
            refine zq_s (hS13.c (q_fWI_put _ _ _ _) (by decide) (by decide)) (fun S21 hS21 => ?_)
            exact hS21
          · skip
            exact hS13
    · skip
      exact hS6
  · skip
    exact hS
theorem q_fPR_arriveAll_33 (P : ZS) (rc9 : ZS → Int32 → (ZS)) (rc33 : ZS → Int32 → Int32 → Int32 → (ZS)) (S_33 : ZS) (x33_1 : Int32) (x33_2 : Int32) (x33_3 : Int32) (hrc9 : ∀ (a0 : ZS) (a1 : Int32), zfrA 28 [9, 10, 11] [11, 12, 13, 14, 15, 16, 17, 21, 22, 28] a0 (rc9 a0 a1)) (hrc33 : ∀ (a0 : ZS) (a1 : Int32) (a2 : Int32) (a3 : Int32), zfrA 28 [9, 10, 11] [11, 12, 13, 14, 15, 16, 17, 21, 22, 28] a0 (rc33 a0 a1 a2 a3)) : zfrA 28 [9, 10, 11] [11, 12, 13, 14, 15, 16, 17, 21, 22, 28] S_33 (fPR_arriveAll_33 P rc9 rc33 S_33 x33_1 x33_2 x33_3) := by
  unfold fPR_arriveAll_33
  have hS_33 : zfr 28 [9, 10, 11] [11, 12, 13, 14, 15, 16, 17, 21, 22, 28] S_33 S_33 := zfr.rf
  refine zq_if ?_ ?_
  · skip
    refine zq_l (fun k1 => ?_)
    exact zfr.c hS_33 (hrc9 _ _) (fun _ h => h) (fun _ h => h)
  · skip
    refine zq_l (fun k3 => ?_)
    refine zq_s (hS_33.c (q_fPR_arrive _ _ _ _) (by decide) (by decide)) (fun S5 hS5 => ?_)
    refine zq_l (fun k7 => ?_)
    exact zfr.c hS5 (hrc33 _ _ _ _) (fun _ h => h) (fun _ h => h)
theorem z_fPR_arriveAll_33 (P : ZS) (rc9 : ZS → Int32 → (ZS)) (hrc9 : ∀ (a0 : ZS) (a1 : Int32), zfrA 28 [9, 10, 11] [11, 12, 13, 14, 15, 16, 17, 21, 22, 28] a0 (rc9 a0 a1)) : ∀ (n : Nat) (S_33 : ZS) (x33_1 : Int32) (x33_2 : Int32) (x33_3 : Int32), zfrA 28 [9, 10, 11] [11, 12, 13, 14, 15, 16, 17, 21, 22, 28] S_33 (zfix (fun S9 _ _ _ => S9) (fPR_arriveAll_33 P rc9) n S_33 x33_1 x33_2 x33_3) := by
  intro n
  induction n with
  | zero => intro S_33 x33_1 x33_2 x33_3; rw [zfix_0]; exact zfr.rf
  | succ n ih => intro S_33 x33_1 x33_2 x33_3; rw [zfix_s]; exact q_fPR_arriveAll_33 P rc9 _ _ _ _ _ hrc9 ih
theorem q_fPR_arriveAll_9 (P : ZS) (rc9 : ZS → Int32 → (ZS)) (S_9 : ZS) (x9_1 : Int32) (hrc9 : ∀ (a0 : ZS) (a1 : Int32), zfrA 28 [9, 10, 11] [11, 12, 13, 14, 15, 16, 17, 21, 22, 28] a0 (rc9 a0 a1)) : zfrA 28 [9, 10, 11] [11, 12, 13, 14, 15, 16, 17, 21, 22, 28] S_9 (fPR_arriveAll_9 P rc9 S_9 x9_1) := by
  unfold fPR_arriveAll_9
  have hS_9 : zfr 28 [9, 10, 11] [11, 12, 13, 14, 15, 16, 17, 21, 22, 28] S_9 S_9 := zfr.rf
  refine zq_l (fun k8 => ?_)
  refine zq_l (fun k9 => ?_)
  refine zq_if ?_ ?_
  · skip
    exact hS_9
  · skip
    refine zq_l (fun k11 => ?_)
    exact zfr.c hS_9 (z_fPR_arriveAll_33 P rc9 hrc9 65 _ _ _ _) (fun _ h => h) (fun _ h => h)
theorem z_fPR_arriveAll_9 (P : ZS) : ∀ (n : Nat) (S_9 : ZS) (x9_1 : Int32), zfrA 28 [9, 10, 11] [11, 12, 13, 14, 15, 16, 17, 21, 22, 28] S_9 (zfix (fun S9 _ => S9) (fPR_arriveAll_9 P) n S_9 x9_1) := by
  intro n
  induction n with
  | zero => intro S_9 x9_1; rw [zfix_0]; exact zfr.rf
  | succ n ih => intro S_9 x9_1; rw [zfix_s]; exact q_fPR_arriveAll_9 P _ _ _  ih
theorem q_fPR_arriveAll (P S : ZS) : zfrA 28 [9, 10, 11] [9, 10, 11, 12, 13, 14, 15, 16, 17, 21, 22, 28] S (fPR_arriveAll P S) := by
  unfold fPR_arriveAll
  have hS : zfr 28 [9, 10, 11] [9, 10, 11, 12, 13, 14, 15, 16, 17, 21, 22, 28] S S := zfr.rf
  refine zq_s (hS.c (q_zturnf _ _) (by decide) (by decide)) (fun S13 hS13 => ?_)
  exact zfr.c hS13 (z_fPR_arriveAll_9 P  121 _ _) (by decide) (by decide)
theorem q_fPR_runClock_46 (P : ZS) (S_46 : ZS) (y46_0 : Int32) (y46_1 : Int32) : zfrA 28 [] [17] S_46 (fPR_runClock_46 P S_46 y46_0 y46_1) := by
  unfold fPR_runClock_46
  have hS_46 : zfr 28 [] [17] S_46 S_46 := zfr.rf
  refine zq_s (hS_46.F (by decide)) (fun S1 hS1 => ?_)
  exact hS1
theorem q_fPR_runClock (P S : ZS) (x0 : Int32) : zfrA 28 [9, 11] [11, 12, 14, 16, 17, 18, 21, 22, 28] S (fPR_runClock P S x0) := by
  unfold fPR_runClock
  have hS : zfr 28 [9, 11] [11, 12, 14, 16, 17, 18, 21, 22, 28] S S := zfr.rf
  refine zq_l (fun k3 => ?_)
  refine zq_l (fun k5 => ?_)
  refine zq_l (fun k6 => ?_)
  refine zq_if ?_ ?_
  · skip
    refine zq_l (fun k7 => ?_)
    refine zq_if ?_ ?_
    · skip
      refine zq_l (fun k16 => ?_)
      refine zq_if ?_ ?_
      · skip
        exact zfr.c hS (q_fPR_runClock_46 _ _ _ _ ) (by decide) (by decide)
      · skip
        exact zfr.c hS (q_fPR_runClock_46 _ _ _ _ ) (by decide) (by decide)
    · skip
      refine zq_l (fun k8 => ?_)
      refine zq_l (fun k9 => ?_)
      refine zq_s (hS.F (by decide)) (fun S10 hS10 => ?_)
      refine zq_l (fun k12 => ?_)
      refine zq_if ?_ ?_
      · skip
        refine zq_s (hS10.c (q_fPR_takeHold _ _ _) (by decide) (by decide)) (fun S14 hS14 => ?_)
        exact hS14
      · skip
        exact hS10
  · skip
    exact hS
theorem q_fPR_speak (P S : ZS) (x0 : Int32) : zfrA 28 [9] [11, 12] S (fPR_speak P S x0) := by
  unfold fPR_speak
  have hS : zfr 28 [9] [11, 12] S S := zfr.rf
  refine zq_l (fun k2 => ?_)
  refine zq_if ?_ ?_
  · skip
    exact hS
  · skip
    refine zq_s (hS.c (q_fPR_putFromPorts _ _ _ _) (by decide) (by decide)) (fun S4 hS4 => ?_)
    exact hS4
theorem q_fPR_turnAll_121 (P : ZS) (rc2 : ZS → Int32 → (ZS)) (S_121 : ZS) (x121_1 : Int32) (hrc2 : ∀ (a0 : ZS) (a1 : Int32), zfrA 28 [9, 11] [11, 12, 14, 15, 16, 17, 18, 21, 22, 28] a0 (rc2 a0 a1)) : zfrA 28 [9, 11] [11, 12, 14, 15, 16, 17, 18, 21, 22, 28] S_121 (fPR_turnAll_121 P rc2 S_121 x121_1) := by
  unfold fPR_turnAll_121
  have hS_121 : zfr 28 [9, 11] [11, 12, 14, 15, 16, 17, 18, 21, 22, 28] S_121 S_121 := zfr.rf
  refine zq_l (fun k1 => ?_)
  exact zfr.c hS_121 (hrc2 _ _) (fun _ h => h) (fun _ h => h)
theorem q_fPR_turnAll_94 (P : ZS) (rc2 : ZS → Int32 → (ZS)) (S_94 : ZS) (x94_1 : Int32) (hrc2 : ∀ (a0 : ZS) (a1 : Int32), zfrA 28 [9, 11] [11, 12, 14, 15, 16, 17, 18, 21, 22, 28] a0 (rc2 a0 a1)) : zfrA 28 [9, 11] [11, 12, 14, 15, 16, 17, 18, 21, 22, 28] S_94 (fPR_turnAll_94 P rc2 S_94 x94_1) := by
  unfold fPR_turnAll_94
  have hS_94 : zfr 28 [9, 11] [11, 12, 14, 15, 16, 17, 18, 21, 22, 28] S_94 S_94 := zfr.rf
  refine zq_l (fun k2 => ?_)
  refine zq_l (fun k3 => ?_)
  refine zq_s (hS_94.F (by decide)) (fun S4 hS4 => ?_)
  refine zq_l (fun k6 => ?_)
  refine zq_l (fun k8 => ?_)
  refine zq_if ?_ ?_
  · skip
    exact zfr.c hS4 (q_fPR_turnAll_121 _ rc2 _ _ hrc2) (fun _ h => h) (fun _ h => h)
  · skip
    refine zq_s (hS4.c (q_fPR_speak _ _ _) (by decide) (by decide)) (fun S10 hS10 => ?_)
    exact zfr.c hS10 (q_fPR_turnAll_121 _ rc2 _ _ hrc2) (fun _ h => h) (fun _ h => h)
theorem q_fPR_turnAll_69 (P : ZS) (rc2 : ZS → Int32 → (ZS)) (S_69 : ZS) (x69_1 : Int32) (hrc2 : ∀ (a0 : ZS) (a1 : Int32), zfrA 28 [9, 11] [11, 12, 14, 15, 16, 17, 18, 21, 22, 28] a0 (rc2 a0 a1)) : zfrA 28 [9, 11] [11, 12, 14, 15, 16, 17, 18, 21, 22, 28] S_69 (fPR_turnAll_69 P rc2 S_69 x69_1) := by
  unfold fPR_turnAll_69
  have hS_69 : zfr 28 [9, 11] [11, 12, 14, 15, 16, 17, 18, 21, 22, 28] S_69 S_69 := zfr.rf
  refine zq_l (fun k12 => ?_)
  refine zq_if ?_ ?_
  · skip
    refine zq_l (fun k14 => ?_)
    refine zq_l (fun k15 => ?_)
    refine zq_if ?_ ?_
    · skip
      exact zfr.c hS_69 (q_fPR_turnAll_94 _ rc2 _ _ hrc2) (fun _ h => h) (fun _ h => h)
    · skip
      refine zq_s (hS_69.c (q_fPR_endWaiting _ _ _) (by decide) (by decide)) (fun S17 hS17 => ?_)
      exact zfr.c hS17 (q_fPR_turnAll_94 _ rc2 _ _ hrc2) (fun _ h => h) (fun _ h => h)
  · skip
    exact zfr.c hS_69 (q_fPR_turnAll_94 _ rc2 _ _ hrc2) (fun _ h => h) (fun _ h => h)
theorem q_fPR_turnAll_53 (P : ZS) (rc2 : ZS → Int32 → (ZS)) (S_53 : ZS) (x53_1 : Int32) (hrc2 : ∀ (a0 : ZS) (a1 : Int32), zfrA 28 [9, 11] [11, 12, 14, 15, 16, 17, 18, 21, 22, 28] a0 (rc2 a0 a1)) : zfrA 28 [9, 11] [11, 12, 14, 15, 16, 17, 18, 21, 22, 28] S_53 (fPR_turnAll_53 P rc2 S_53 x53_1) := by
  unfold fPR_turnAll_53
  have hS_53 : zfr 28 [9, 11] [11, 12, 14, 15, 16, 17, 18, 21, 22, 28] S_53 S_53 := zfr.rf
  refine zq_l (fun k20 => ?_)
  refine zq_if ?_ ?_
  · skip
    exact zfr.c hS_53 (q_fPR_turnAll_69 _ rc2 _ _ hrc2) (fun _ h => h) (fun _ h => h)
  · skip
    refine zq_s (hS_53.c (q_fPR_runClock _ _ _) (by decide) (by decide)) (fun S22 hS22 => ?_)
    exact zfr.c hS22 (q_fPR_turnAll_69 _ rc2 _ _ hrc2) (fun _ h => h) (fun _ h => h)
theorem q_fPR_turnAll_2 (P : ZS) (rc2 : ZS → Int32 → (ZS)) (S_2 : ZS) (x2_1 : Int32) (hrc2 : ∀ (a0 : ZS) (a1 : Int32), zfrA 28 [9, 11] [11, 12, 14, 15, 16, 17, 18, 21, 22, 28] a0 (rc2 a0 a1)) : zfrA 28 [9, 11] [11, 12, 14, 15, 16, 17, 18, 21, 22, 28] S_2 (fPR_turnAll_2 P rc2 S_2 x2_1) := by
  unfold fPR_turnAll_2
  have hS_2 : zfr 28 [9, 11] [11, 12, 14, 15, 16, 17, 18, 21, 22, 28] S_2 S_2 := zfr.rf
  refine zq_l (fun k24 => ?_)
  refine zq_l (fun k25 => ?_)
  refine zq_if ?_ ?_
  · skip
    exact hS_2
  · skip
    refine zq_l (fun k26 => ?_)
    refine zq_l (fun k27 => ?_)
    refine zq_if ?_ ?_
    · skip
      exact zfr.c hS_2 (q_fPR_turnAll_121 _ rc2 _ _ hrc2) (fun _ h => h) (fun _ h => h)
    · skip
      refine zq_l (fun k28 => ?_)
      refine zq_if ?_ ?_
      · skip
        exact zfr.c hS_2 (q_fPR_turnAll_53 _ rc2 _ _ hrc2) (fun _ h => h) (fun _ h => h)
      · skip
        refine zq_l (fun k29 => ?_)
        refine zq_l (fun k30 => ?_)
        refine zq_s (hS_2.F (by decide)) (fun S31 hS31 => ?_)
        exact zfr.c hS31 (q_fPR_turnAll_53 _ rc2 _ _ hrc2) (fun _ h => h) (fun _ h => h)
theorem z_fPR_turnAll_2 (P : ZS) : ∀ (n : Nat) (S_2 : ZS) (x2_1 : Int32), zfrA 28 [9, 11] [11, 12, 14, 15, 16, 17, 18, 21, 22, 28] S_2 (zfix (fun S9 _ => S9) (fPR_turnAll_2 P) n S_2 x2_1) := by
  intro n
  induction n with
  | zero => intro S_2 x2_1; rw [zfix_0]; exact zfr.rf
  | succ n ih => intro S_2 x2_1; rw [zfix_s]; exact q_fPR_turnAll_2 P _ _ _  ih
theorem q_fPR_turnAll (P S : ZS) : zfrA 28 [9, 11] [11, 12, 14, 15, 16, 17, 18, 21, 22, 28] S (fPR_turnAll P S) := by
  unfold fPR_turnAll
  have hS : zfr 28 [9, 11] [11, 12, 14, 15, 16, 17, 18, 21, 22, 28] S S := zfr.rf
  exact zfr.c hS (z_fPR_turnAll_2 P  289 _ _) (fun _ h => h) (fun _ h => h)
theorem q_fFR_addStep (P S : ZS) (x0 : Int32) (x1 : Int32) : zfrA 28 [12] [24, 25] S (fFR_addStep P S x0 x1) := by
  unfold fFR_addStep
  have hS : zfr 28 [12] [24, 25] S S := zfr.rf
  refine zq_l (fun k1 => ?_)
  refine zq_if ?_ ?_
  · skip
    exact hS
  · skip
    refine zq_l (fun k2 => ?_)
    refine zq_s (hS.F (by decide)) (fun S3 hS3 => ?_)
    refine zq_l (fun k5 => ?_)
    refine zq_s (hS3.F (by decide)) (fun S6 hS6 => ?_)
    refine zq_l (fun k8 => ?_)
    refine zq_l (fun k9 => ?_)
    refine zq_s (hS6.I (by decide)) (fun S10 hS10 => ?_)
    exact hS10
theorem q_fFR_goOver (P S : ZS) (x0 : Int32) : zfrA 28 [12, 13] [24, 25, 26] S (fFR_goOver P S x0) := by
  unfold fFR_goOver
  have hS : zfr 28 [12, 13] [24, 25, 26] S S := zfr.rf
  refine zq_l (fun k1 => ?_)
  refine zq_l (fun k2 => ?_)
  refine zq_s (hS.F (by decide)) (fun S3 hS3 => ?_)
  refine zq_l (fun k5 => ?_)
  refine zq_l (fun k6 => ?_)
  refine zq_l (fun k7 => ?_)
  refine zq_s (hS3.I (by decide)) (fun S8 hS8 => ?_)
  refine zq_l (fun k10 => ?_)
  refine zq_l (fun k11 => ?_)
  refine zq_l (fun k12 => ?_)
  refine zq_l (fun k13 => ?_)
  refine zq_s (hS8.c (q_fFR_addStep _ _ _ _) (by decide) (by decide)) (fun S15 hS15 => ?_)
  exact hS15
theorem q_fFR_goOn_80 (P : ZS) (rc3 : ZS → Int32 → Int32 → Int32 → Int32 → (ZS)) (S_80 : ZS) (x80_1 : Int32) (x80_2 : Int32) (x80_3 : Int32) (x80_4 : Int32) (hrc3 : ∀ (a0 : ZS) (a1 : Int32) (a2 : Int32) (a3 : Int32) (a4 : Int32), zfrA 28 [12, 13] [24, 25, 26] a0 (rc3 a0 a1 a2 a3 a4)) : zfrA 28 [12, 13] [24, 25, 26] S_80 (fFR_goOn_80 P rc3 S_80 x80_1 x80_2 x80_3 x80_4) := by
  unfold fFR_goOn_80
  have hS_80 : zfr 28 [12, 13] [24, 25, 26] S_80 S_80 := zfr.rf
  refine zq_l (fun k1 => ?_)
  exact zfr.c hS_80 (hrc3 _ _ _ _ _) (fun _ h => h) (fun _ h => h)
theorem q_fFR_goOn_43 (P : ZS) (rc3 : ZS → Int32 → Int32 → Int32 → Int32 → (ZS)) (S_43 : ZS) (x43_1 : Int32) (x43_2 : Int32) (x43_3 : Int32) (x43_4 : Int32) (x43_5 : Int32) (y43_0 : Int32) (hrc3 : ∀ (a0 : ZS) (a1 : Int32) (a2 : Int32) (a3 : Int32) (a4 : Int32), zfrA 28 [12, 13] [24, 25, 26] a0 (rc3 a0 a1 a2 a3 a4)) : zfrA 28 [12, 13] [24, 25, 26] S_43 (fFR_goOn_43 P rc3 S_43 x43_1 x43_2 x43_3 x43_4 x43_5 y43_0) := by
  unfold fFR_goOn_43
  have hS_43 : zfr 28 [12, 13] [24, 25, 26] S_43 S_43 := zfr.rf
  refine zq_if ?_ ?_
  · skip
    exact zfr.c hS_43 (q_fFR_goOn_80 _ rc3 _ _ _ _ _ hrc3) (fun _ h => h) (fun _ h => h)
  · skip
    refine zq_if ?_ ?_
    · skip
      exact zfr.c hS_43 (q_fFR_goOn_80 _ rc3 _ _ _ _ _ hrc3) (fun _ h => h) (fun _ h => h)
    · skip
      refine zq_if ?_ ?_
      · skip
        exact zfr.c hS_43 (q_fFR_goOn_80 _ rc3 _ _ _ _ _ hrc3) (fun _ h => h) (fun _ h => h)
      · skip
        refine zq_l (fun k3 => ?_)
        refine zq_if ?_ ?_
        · skip
          exact zfr.c hS_43 (q_fFR_goOn_80 _ rc3 _ _ _ _ _ hrc3) (fun _ h => h) (fun _ h => h)
        · skip
          refine zq_s (hS_43.c (q_fFR_goOver _ _ _) (by decide) (by decide)) (fun S5 hS5 => ?_)
          exact zfr.c hS5 (q_fFR_goOn_80 _ rc3 _ _ _ _ _ hrc3) (fun _ h => h) (fun _ h => h)
theorem q_fFR_goOn_38 (P : ZS) (rc3 : ZS → Int32 → Int32 → Int32 → Int32 → (ZS)) (S_38 : ZS) (x38_1 : Int32) (x38_2 : Int32) (x38_3 : Int32) (x38_4 : Int32) (x38_5 : Int32) (hrc3 : ∀ (a0 : ZS) (a1 : Int32) (a2 : Int32) (a3 : Int32) (a4 : Int32), zfrA 28 [12, 13] [24, 25, 26] a0 (rc3 a0 a1 a2 a3 a4)) : zfrA 28 [12, 13] [24, 25, 26] S_38 (fFR_goOn_38 P rc3 S_38 x38_1 x38_2 x38_3 x38_4 x38_5) := by
  unfold fFR_goOn_38
  have hS_38 : zfr 28 [12, 13] [24, 25, 26] S_38 S_38 := zfr.rf
  exact zfr.c hS_38 (q_fFR_goOn_43 _ rc3 _ _ _ _ _ _ _ hrc3) (fun _ h => h) (fun _ h => h)
theorem q_fFR_goOn_3 (P : ZS) (rc3 : ZS → Int32 → Int32 → Int32 → Int32 → (ZS)) (S_3 : ZS) (x3_1 : Int32) (x3_2 : Int32) (x3_3 : Int32) (x3_4 : Int32) (hrc3 : ∀ (a0 : ZS) (a1 : Int32) (a2 : Int32) (a3 : Int32) (a4 : Int32), zfrA 28 [12, 13] [24, 25, 26] a0 (rc3 a0 a1 a2 a3 a4)) : zfrA 28 [12, 13] [24, 25, 26] S_3 (fFR_goOn_3 P rc3 S_3 x3_1 x3_2 x3_3 x3_4) := by
  unfold fFR_goOn_3
  have hS_3 : zfr 28 [12, 13] [24, 25, 26] S_3 S_3 := zfr.rf
  refine zq_l (fun k7 => ?_)
  refine zq_if ?_ ?_
  · skip
    exact hS_3
  · skip
    refine zq_l (fun k9 => ?_)
    refine zq_if ?_ ?_
    · skip
      exact zfr.c hS_3 (q_fFR_goOn_38 _ rc3 _ _ _ _ _ _ hrc3) (fun _ h => h) (fun _ h => h)
    · skip
      refine zq_if ?_ ?_
      · skip
        exact zfr.c hS_3 (q_fFR_goOn_38 _ rc3 _ _ _ _ _ _ hrc3) (fun _ h => h) (fun _ h => h)
      · skip
        exact zfr.c hS_3 (q_fFR_goOn_43 _ rc3 _ _ _ _ _ _ _ hrc3) (fun _ h => h) (fun _ h => h)
theorem z_fFR_goOn_3 (P : ZS) : ∀ (n : Nat) (S_3 : ZS) (x3_1 : Int32) (x3_2 : Int32) (x3_3 : Int32) (x3_4 : Int32), zfrA 28 [12, 13] [24, 25, 26] S_3 (zfix (fun S9 _ _ _ _ => S9) (fFR_goOn_3 P) n S_3 x3_1 x3_2 x3_3 x3_4) := by
  intro n
  induction n with
  | zero => intro S_3 x3_1 x3_2 x3_3 x3_4; rw [zfix_0]; exact zfr.rf
  | succ n ih => intro S_3 x3_1 x3_2 x3_3 x3_4; rw [zfix_s]; exact q_fFR_goOn_3 P _ _ _ _ _ _  ih
theorem q_fFR_goOn (P S : ZS) (x0 : Int32) (x1 : Int32) (x2 : Int32) : zfrA 28 [12, 13] [24, 25, 26] S (fFR_goOn P S x0 x1 x2) := by
  unfold fFR_goOn
  have hS : zfr 28 [12, 13] [24, 25, 26] S S := zfr.rf
  exact zfr.c hS (z_fFR_goOn_3 P  61 _ _ _ _ _) (fun _ h => h) (fun _ h => h)
theorem q_fFR_carry_135 (P : ZS) (S_135 : ZS) (x135_5 : Int32) : zfrB 28 [] [] S_135 (fFR_carry_135 P S_135 x135_5) := by
  unfold fFR_carry_135
  have hS_135 : zfr 28 [] [] S_135 S_135 := zfr.rf
  exact hS_135
theorem q_fFR_carry_129 (P : ZS) (rc35 : ZS → Int32 → Int32 → Int32 → Int32 → Int32 → Int32 → (ZS × Int32)) (S_129 : ZS) (x129_1 : Int32) (x129_2 : Int32) (x129_3 : Int32) (x129_4 : Int32) (x129_5 : Int32) (x129_6 : Int32) (hrc35 : ∀ (a0 : ZS) (a1 : Int32) (a2 : Int32) (a3 : Int32) (a4 : Int32) (a5 : Int32) (a6 : Int32), zfrB 28 [12, 13] [24, 25, 26, 28] a0 (rc35 a0 a1 a2 a3 a4 a5 a6)) : zfrB 28 [12, 13] [24, 25, 26, 28] S_129 (fFR_carry_129 P rc35 S_129 x129_1 x129_2 x129_3 x129_4 x129_5 x129_6) := by
  unfold fFR_carry_129
  have hS_129 : zfr 28 [12, 13] [24, 25, 26, 28] S_129 S_129 := zfr.rf
  refine zq_l (fun k1 => ?_)
  exact zfr.c hS_129 (hrc35 _ _ _ _ _ _ _) (fun _ h => h) (fun _ h => h)
theorem q_fFR_carry_91 (P : ZS) (rc35 : ZS → Int32 → Int32 → Int32 → Int32 → Int32 → Int32 → (ZS × Int32)) (S_91 : ZS) (x91_1 : Int32) (x91_2 : Int32) (x91_3 : Int32) (x91_4 : Int32) (x91_5 : Int32) (x91_6 : Int32) (x91_7 : Int32) (x91_8 : Int32) (hrc35 : ∀ (a0 : ZS) (a1 : Int32) (a2 : Int32) (a3 : Int32) (a4 : Int32) (a5 : Int32) (a6 : Int32), zfrB 28 [12, 13] [24, 25, 26, 28] a0 (rc35 a0 a1 a2 a3 a4 a5 a6)) : zfrB 28 [12, 13] [24, 25, 26, 28] S_91 (fFR_carry_91 P rc35 S_91 x91_1 x91_2 x91_3 x91_4 x91_5 x91_6 x91_7 x91_8) := by
  unfold fFR_carry_91
  have hS_91 : zfr 28 [12, 13] [24, 25, 26, 28] S_91 S_91 := zfr.rf
  refine zq_l (fun k2 => ?_)
  refine zq_if ?_ ?_
  · skip
    refine zq_l (fun k8 => ?_)
    exact zfr.c hS_91 (q_fFR_carry_129 _ rc35 _ _ _ _ _ _ _ hrc35) (fun _ h => h) (fun _ h => h)
  · skip
    refine zq_l (fun k4 => ?_)
    refine zq_s (hS_91.c (q_fFR_goOn _ _ _ _ _) (by decide) (by decide)) (fun S6 hS6 => ?_)
    exact zfr.c hS6 (q_fFR_carry_129 _ rc35 _ _ _ _ _ _ _ hrc35) (fun _ h => h) (fun _ h => h)
theorem q_fFR_carry_35 (P : ZS) (rc35 : ZS → Int32 → Int32 → Int32 → Int32 → Int32 → Int32 → (ZS × Int32)) (S_35 : ZS) (x35_1 : Int32) (x35_2 : Int32) (x35_3 : Int32) (x35_4 : Int32) (x35_5 : Int32) (x35_6 : Int32) (hrc35 : ∀ (a0 : ZS) (a1 : Int32) (a2 : Int32) (a3 : Int32) (a4 : Int32) (a5 : Int32) (a6 : Int32), zfrB 28 [12, 13] [24, 25, 26, 28] a0 (rc35 a0 a1 a2 a3 a4 a5 a6)) : zfrB 28 [12, 13] [24, 25, 26, 28] S_35 (fFR_carry_35 P rc35 S_35 x35_1 x35_2 x35_3 x35_4 x35_5 x35_6) := by
  unfold fFR_carry_35
  have hS_35 : zfr 28 [12, 13] [24, 25, 26, 28] S_35 S_35 := zfr.rf
  refine zq_if ?_ ?_
  · skip
    exact zfr.c hS_35 (q_fFR_carry_135 _ _ _ ) (by decide) (by decide)
  · skip
    refine zq_l (fun k9 => ?_)
    refine zq_if ?_ ?_
    · skip
      exact zfr.c hS_35 (q_fFR_carry_135 _ _ _ ) (by decide) (by decide)
    · skip
      refine zq_l (fun k10 => ?_)
      refine zq_l (fun k11 => ?_)
      refine zq_if ?_ ?_
      · skip
        exact zfr.c hS_35 (q_fFR_carry_91 _ rc35 _ _ _ _ _ _ _ _ _ hrc35) (fun _ h => h) (fun _ h => h)
      · skip
        refine zq_s (hS_35.c (q_fTA_learn _ _ _ _ _ _ _) (by decide) (by decide)) (fun S13 hS13 => ?_)
        exact zfr.c hS13 (q_fFR_carry_91 _ rc35 _ _ _ _ _ _ _ _ _ hrc35) (fun _ h => h) (fun _ h => h)
theorem z_fFR_carry_35 (P : ZS) : ∀ (n : Nat) (S_35 : ZS) (x35_1 : Int32) (x35_2 : Int32) (x35_3 : Int32) (x35_4 : Int32) (x35_5 : Int32) (x35_6 : Int32), zfrB 28 [12, 13] [24, 25, 26, 28] S_35 (zfix (fun S9 _ _ _ _ _ _ => (S9, 0)) (fFR_carry_35 P) n S_35 x35_1 x35_2 x35_3 x35_4 x35_5 x35_6) := by
  intro n
  induction n with
  | zero => intro S_35 x35_1 x35_2 x35_3 x35_4 x35_5 x35_6; rw [zfix_0]; exact zfr.rf
  | succ n ih => intro S_35 x35_1 x35_2 x35_3 x35_4 x35_5 x35_6; rw [zfix_s]; exact q_fFR_carry_35 P _ _ _ _ _ _ _ _  ih
theorem q_fFR_carry (P S : ZS) (x0 : Int32) (x1 : Int32) (x2 : Int32) (x3 : Int32) : zfrB 28 [12, 13] [24, 25, 26, 28] S (fFR_carry P S x0 x1 x2 x3) := by
  unfold fFR_carry
  have hS : zfr 28 [12, 13] [24, 25, 26, 28] S S := zfr.rf
  refine zq_s (hS.R (by decide)) (fun S15 hS15 => ?_)
  refine zq_s (hS15.I (by decide)) (fun S17 hS17 => ?_)
  refine zq_s (hS17.I (by decide)) (fun S19 hS19 => ?_)
  refine zq_l (fun k21 => ?_)
  refine zq_s (hS19.c (q_fFR_addStep _ _ _ _) (by decide) (by decide)) (fun S23 hS23 => ?_)
  exact zfr.c hS23 (z_fFR_carry_35 P  402 _ _ _ _ _ _ _) (fun _ h => h) (fun _ h => h)
theorem q_fRG_groupByOpenLinks_76 (P : ZS) (rc21 : ZS → Int32 → (ZS)) (S_76 : ZS) (x76_1 : Int32) (hrc21 : ∀ (a0 : ZS) (a1 : Int32), zfrA 28 [6, 14] [27] a0 (rc21 a0 a1)) : zfrA 28 [6, 14] [27] S_76 (fRG_groupByOpenLinks_76 P rc21 S_76 x76_1) := by
  unfold fRG_groupByOpenLinks_76
  have hS_76 : zfr 28 [6, 14] [27] S_76 S_76 := zfr.rf
  refine zq_l (fun k1 => ?_)
  exact zfr.c hS_76 (hrc21 _ _) (fun _ h => h) (fun _ h => h)
theorem q_fRG_groupByOpenLinks_21 (P : ZS) (rc21 : ZS → Int32 → (ZS)) (S_21 : ZS) (x21_1 : Int32) (hrc21 : ∀ (a0 : ZS) (a1 : Int32), zfrA 28 [6, 14] [27] a0 (rc21 a0 a1)) : zfrA 28 [6, 14] [27] S_21 (fRG_groupByOpenLinks_21 P rc21 S_21 x21_1) := by
  unfold fRG_groupByOpenLinks_21
  have hS_21 : zfr 28 [6, 14] [27] S_21 S_21 := zfr.rf
  refine zq_l (fun k2 => ?_)
  refine zq_if ?_ ?_
  · skip
    exact hS_21
  · skip
    refine zq_l (fun k4 => ?_)
    refine zq_if ?_ ?_
    · skip
      exact zfr.c hS_21 (q_fRG_groupByOpenLinks_76 _ rc21 _ _ hrc21) (fun _ h => h) (fun _ h => h)
    · skip
      refine zq_l (fun k5 => ?_)
      refine zq_l (fun k6 => ?_)
      refine zq_2 (hS_21.c (q_fGR_join _ _ _ _) (by decide) (by decide)) (fun S9 k8 hS9 => ?_)
      refine zq_if ?_ ?_
      · skip
        refine zq_s (hS9.I (by decide)) (fun S11 hS11 => ?_)
        exact zfr.c hS11 (q_fRG_groupByOpenLinks_76 _ rc21 _ _ hrc21) (fun _ h => h) (fun _ h => h)
      · skip
        exact zfr.c hS9 (q_fRG_groupByOpenLinks_76 _ rc21 _ _ hrc21) (fun _ h => h) (fun _ h => h)
theorem z_fRG_groupByOpenLinks_21 (P : ZS) : ∀ (n : Nat) (S_21 : ZS) (x21_1 : Int32), zfrA 28 [6, 14] [27] S_21 (zfix (fun S9 _ => S9) (fRG_groupByOpenLinks_21 P) n S_21 x21_1) := by
  intro n
  induction n with
  | zero => intro S_21 x21_1; rw [zfix_0]; exact zfr.rf
  | succ n ih => intro S_21 x21_1; rw [zfix_s]; exact q_fRG_groupByOpenLinks_21 P _ _ _  ih
theorem q_fRG_groupByOpenLinks (P S : ZS) : zfrA 28 [6, 14, 15] [27] S (fRG_groupByOpenLinks P S) := by
  unfold fRG_groupByOpenLinks
  have hS : zfr 28 [6, 14, 15] [27] S S := zfr.rf
  refine zq_l (fun k13 => ?_)
  refine zq_s (hS.c (q_fGR_separate _ _ _) (by decide) (by decide)) (fun S15 hS15 => ?_)
  refine zq_s (hS15.I (by decide)) (fun S17 hS17 => ?_)
  exact zfr.c hS17 (z_fRG_groupByOpenLinks_21 P  61 _ _) (by decide) (by decide)
theorem q_fRG_countCircle_22 (P : ZS) (S_22 : ZS) : zfrA 28 [7] [] S_22 (fRG_countCircle_22 P S_22) := by
  unfold fRG_countCircle_22
  have hS_22 : zfr 28 [7] [] S_22 S_22 := zfr.rf
  refine zq_l (fun k1 => ?_)
  refine zq_if ?_ ?_
  · skip
    exact hS_22
  · skip
    refine zq_l (fun k2 => ?_)
    refine zq_l (fun k3 => ?_)
    refine zq_s (hS_22.I (by decide)) (fun S4 hS4 => ?_)
    exact hS4
theorem q_fRG_countCircle (P S : ZS) : zfrA 28 [6, 7, 11, 14, 15] [27] S (fRG_countCircle P S) := by
  unfold fRG_countCircle
  have hS : zfr 28 [6, 7, 11, 14, 15] [27] S S := zfr.rf
  refine zq_l (fun k6 => ?_)
  refine zq_if ?_ ?_
  · skip
    exact zfr.c hS (q_fRG_countCircle_22 _ _ ) (by decide) (by decide)
  · skip
    refine zq_s (hS.c (q_fRG_groupByOpenLinks _ _) (by decide) (by decide)) (fun S8 hS8 => ?_)
    refine zq_s (hS8.I (by decide)) (fun S10 hS10 => ?_)
    exact zfr.c hS10 (q_fRG_countCircle_22 _ _ ) (by decide) (by decide)
theorem q_fRG_countApart (P S : ZS) : zfrA 28 [8] [] S (fRG_countApart P S) := by
  unfold fRG_countApart
  have hS : zfr 28 [8] [] S S := zfr.rf
  refine zq_l (fun k1 => ?_)
  refine zq_if ?_ ?_
  · skip
    exact hS
  · skip
    refine zq_l (fun k2 => ?_)
    refine zq_l (fun k3 => ?_)
    refine zq_l (fun k4 => ?_)
    refine zq_l (fun k5 => ?_)
    refine zq_if ?_ ?_
    · skip
      exact hS
    · skip
      refine zq_l (fun k7 => ?_)
      refine zq_if ?_ ?_
      · skip
        refine zq_l (fun k9 => ?_)
        refine zq_if ?_ ?_
        · skip
          refine zq_l (fun k10 => ?_)
          refine zq_l (fun k11 => ?_)
          refine zq_s (hS.I (by decide)) (fun S12 hS12 => ?_)
          exact hS12
        · skip
          exact hS
      · skip
        exact hS
theorem q_fRG_bridge (P S : ZS) : zE (zfrC 28 [] [] S) (fRG_bridge P S) := by
  unfold fRG_bridge
  have hS : zfr 28 [] [] S S := zfr.rf
  refine zE_b (fun u1 => ?_)
  refine zq_l (fun k4 => ?_)
  refine zq_if ?_ ?_
  · skip
    refine zE_o ?_
    refine zq_l (fun k5 => ?_)
    refine zq_l (fun k6 => ?_)
    refine zq_l (fun P7 => ?_)
    exact hS
  · skip
    exact zE_e
theorem q_fRG_link (P S : ZS) (x0 : Int32) (x1 : Int32) (x2 : Int32) : zE (zfrC 28 [] [] S) (fRG_link P S x0 x1 x2) := by
  unfold fRG_link
  have hS : zfr 28 [] [] S S := zfr.rf
  refine zE_b (fun u1 => ?_)
  refine zE_b (fun u4 => ?_)
  refine zE_b (fun u7 => ?_)
  refine zq_if ?_ ?_
  · skip
    exact zE_e
  · skip
    refine zE_b (fun u10 => ?_)
    refine zq_l (fun k13 => ?_)
    refine zq_if ?_ ?_
    · skip
      refine zE_o ?_
      refine zq_3 (hS.c (q_fPL_addLink _ _ _ _ _) (by decide) (by decide)) (fun P17 S16 k15 hS16 => ?_)
      exact hS16
    · skip
      exact zE_e
theorem q_fRG_owner (P S : ZS) (x0 : Int32) (x1 : Int32) (x2 : Int32) : zE (zfrD 28 [] [] S) (fRG_owner P S x0 x1 x2) := by
  unfold fRG_owner
  have hS : zfr 28 [] [] S S := zfr.rf
  refine zE_b (fun u1 => ?_)
  refine zE_b (fun u4 => ?_)
  refine zE_b (fun u7 => ?_)
  refine zE_b (fun u10 => ?_)
  refine zE_o ?_
  refine zq_l (fun P13 => ?_)
  refine zq_l (fun P15 => ?_)
  exact hS
theorem q_fRG_fail_30 (P : ZS) (S_30 : ZS) (x30_2 : Int32) : zfrB 28 [6, 7, 11, 14, 15] [27] S_30 (fRG_fail_30 P S_30 x30_2) := by
  unfold fRG_fail_30
  have hS_30 : zfr 28 [6, 7, 11, 14, 15] [27] S_30 S_30 := zfr.rf
  refine zq_s (hS_30.c (q_fRG_countCircle _ _) (by decide) (by decide)) (fun S2 hS2 => ?_)
  refine zq_if ?_ ?_
  · skip
    exact hS2
  · skip
    exact hS2
theorem q_fRG_fail (P S : ZS) (x0 : Int32) : zE (zfrB 28 [6, 7, 9, 10, 11, 14, 15] [11, 12, 14, 16, 17, 19, 21, 22, 27, 28] S) (fRG_fail P S x0) := by
  unfold fRG_fail
  have hS : zfr 28 [6, 7, 9, 10, 11, 14, 15] [11, 12, 14, 16, 17, 19, 21, 22, 27, 28] S S := zfr.rf
  refine zE_b (fun u4 => ?_)
  refine zE_b (fun u7 => ?_)
  refine zE_o ?_
  refine zq_l (fun k11 => ?_)
  refine zq_if ?_ ?_
  · skip
    refine zq_s (hS.c (q_fPR_breakLink _ _ _) (by decide) (by decide)) (fun S13 hS13 => ?_)
    exact zfr.c hS13 (q_fRG_fail_30 _ _ _ ) (by decide) (by decide)
  · skip
    exact zfr.c hS (q_fRG_fail_30 _ _ _ ) (by decide) (by decide)
theorem q_fRG_heal_30 (P : ZS) (S_30 : ZS) (x30_2 : Int32) : zfrB 28 [6, 7, 11, 14, 15] [27] S_30 (fRG_heal_30 P S_30 x30_2) := by
  unfold fRG_heal_30
  have hS_30 : zfr 28 [6, 7, 11, 14, 15] [27] S_30 S_30 := zfr.rf
  refine zq_s (hS_30.c (q_fRG_countCircle _ _) (by decide) (by decide)) (fun S2 hS2 => ?_)
  exact hS2
theorem q_fRG_heal (P S : ZS) (x0 : Int32) : zE (zfrB 28 [6, 7, 10, 11, 14, 15] [14, 15, 16, 27] S) (fRG_heal P S x0) := by
  unfold fRG_heal
  have hS : zfr 28 [6, 7, 10, 11, 14, 15] [14, 15, 16, 27] S S := zfr.rf
  refine zE_b (fun u4 => ?_)
  refine zE_b (fun u7 => ?_)
  refine zE_o ?_
  refine zq_l (fun k11 => ?_)
  refine zq_if ?_ ?_
  · skip
    exact zfr.c hS (q_fRG_heal_30 _ _ _ ) (by decide) (by decide)
  · skip
    refine zq_s (hS.c (q_fPR_mendLink _ _ _) (by decide) (by decide)) (fun S13 hS13 => ?_)
    exact zfr.c hS13 (q_fRG_heal_30 _ _ _ ) (by decide) (by decide)
theorem q_fRG_lose_16 (P : ZS) (S_16 : ZS) : zE (zfrB 28 [] [] S_16) (fRG_lose_16 P S_16) := by
  unfold fRG_lose_16
  have hS_16 : zfr 28 [] [] S_16 S_16 := zfr.rf
  exact zE_e
theorem q_fRG_lose (P S : ZS) (x0 : Int32) (x1 : Int32) : zE (zfrB 28 [] [13] S) (fRG_lose P S x0 x1) := by
  unfold fRG_lose
  have hS : zfr 28 [] [13] S S := zfr.rf
  refine zE_b (fun u1 => ?_)
  refine zq_if ?_ ?_
  · skip
    exact fun y9 e9 => zfr.c hS ((q_fRG_lose_16 _ _ ) y9 e9) (by decide) (by decide)
  · skip
    refine zq_if ?_ ?_
    · skip
      refine zE_b (fun u4 => ?_)
      refine zE_o ?_
      refine zq_l (fun k7 => ?_)
      refine zq_s (hS.F (by decide)) (fun S8 hS8 => ?_)
      exact hS8
    · skip
      exact fun y9 e9 => zfr.c hS ((q_fRG_lose_16 _ _ ) y9 e9) (by decide) (by decide)
theorem q_fRG_order_32 (P : ZS) (S_32 : ZS) (y32_0 : Int32) (y32_1 : Int32) : zfrB 28 [6, 7, 9, 10, 11, 14, 15] [11, 12, 14, 15, 16, 17, 20, 21, 22, 27, 28] S_32 (fRG_order_32 P S_32 y32_0 y32_1) := by
  unfold fRG_order_32
  have hS_32 : zfr 28 [6, 7, 9, 10, 11, 14, 15] [11, 12, 14, 15, 16, 17, 20, 21, 22, 27, 28] S_32 S_32 := zfr.rf
  refine zq_2 (hS_32.c (q_fPR_giveCommand _ _ _ _) (by decide) (by decide)) (fun S3 k2 hS3 => ?_)
  refine zq_s (hS3.c (q_fRG_countCircle _ _) (by decide) (by decide)) (fun S6 hS6 => ?_)
  exact hS6
theorem q_fRG_order (P S : ZS) (x0 : Int32) (x1 : Int32) (x2 : Int32) : zE (zfrB 28 [6, 7, 9, 10, 11, 14, 15] [11, 12, 14, 15, 16, 17, 20, 21, 22, 27, 28] S) (fRG_order P S x0 x1 x2) := by
  unfold fRG_order
  have hS : zfr 28 [6, 7, 9, 10, 11, 14, 15] [11, 12, 14, 15, 16, 17, 20, 21, 22, 27, 28] S S := zfr.rf
  refine zE_b (fun u8 => ?_)
  refine zE_b (fun u11 => ?_)
  refine zE_o ?_
  refine zq_l (fun k15 => ?_)
  refine zq_if ?_ ?_
  · skip
    exact zfr.c hS (q_fRG_order_32 _ _ _ _ ) (fun _ h => h) (fun _ h => h)
  · skip
    exact zfr.c hS (q_fRG_order_32 _ _ _ _ ) (fun _ h => h) (fun _ h => h)
theorem q_fRG_clear (P S : ZS) (x0 : Int32) (x1 : Int32) : zE (zfrB 28 [6, 7, 10, 11, 14, 15] [14, 15, 16, 27] S) (fRG_clear P S x0 x1) := by
  unfold fRG_clear
  have hS : zfr 28 [6, 7, 10, 11, 14, 15] [14, 15, 16, 27] S S := zfr.rf
  refine zE_b (fun u1 => ?_)
  refine zE_b (fun u4 => ?_)
  refine zE_b (fun u7 => ?_)
  refine zE_o ?_
  refine zq_l (fun k10 => ?_)
  refine zq_l (fun k11 => ?_)
  refine zq_2 (hS.c (q_fPR_endCommand _ _ _) (by decide) (by decide)) (fun S14 k13 hS14 => ?_)
  refine zq_s (hS14.c (q_fRG_countCircle _ _) (by decide) (by decide)) (fun S17 hS17 => ?_)
  exact hS17
theorem q_fRG_ticks_12 (P : ZS) (S_12 : ZS) : zE (zfrB 28 [] [] S_12) (fRG_ticks_12 P S_12) := by
  unfold fRG_ticks_12
  have hS_12 : zfr 28 [] [] S_12 S_12 := zfr.rf
  exact zE_e
theorem q_fRG_ticks_124 (P : ZS) (rc50 : ZS → Int32 → Int32 → (ZS × Int32)) (S_124 : ZS) (x124_1 : Int32) (x124_2 : Int32) (y124_0 : Int32) (hrc50 : ∀ (a0 : ZS) (a1 : Int32) (a2 : Int32), zfrB 28 [3, 4, 5, 6, 7, 8, 9, 10, 11, 14, 15] [9, 10, 11, 12, 13, 14, 15, 16, 17, 18, 21, 22, 27, 28] a0 (rc50 a0 a1 a2)) : zfrB 28 [3, 4, 5, 6, 7, 8, 9, 10, 11, 14, 15] [9, 10, 11, 12, 13, 14, 15, 16, 17, 18, 21, 22, 27, 28] S_124 (fRG_ticks_124 P rc50 S_124 x124_1 x124_2 y124_0) := by
  unfold fRG_ticks_124
  have hS_124 : zfr 28 [3, 4, 5, 6, 7, 8, 9, 10, 11, 14, 15] [9, 10, 11, 12, 13, 14, 15, 16, 17, 18, 21, 22, 27, 28] S_124 S_124 := zfr.rf
  refine zq_s (hS_124.I (by decide)) (fun S1 hS1 => ?_)
  refine zq_s (hS1.c (q_fRG_countCircle _ _) (by decide) (by decide)) (fun S4 hS4 => ?_)
  refine zq_s (hS4.c (q_fRG_countApart _ _) (by decide) (by decide)) (fun S7 hS7 => ?_)
  refine zq_l (fun k9 => ?_)
  exact zfr.c hS7 (hrc50 _ _ _) (fun _ h => h) (fun _ h => h)
theorem q_fRG_ticks_73 (P : ZS) (rc50 : ZS → Int32 → Int32 → (ZS × Int32)) (S_73 : ZS) (x73_1 : Int32) (x73_2 : Int32) (x73_3 : Int32) (hrc50 : ∀ (a0 : ZS) (a1 : Int32) (a2 : Int32), zfrB 28 [3, 4, 5, 6, 7, 8, 9, 10, 11, 14, 15] [9, 10, 11, 12, 13, 14, 15, 16, 17, 18, 21, 22, 27, 28] a0 (rc50 a0 a1 a2)) : zfrB 28 [3, 4, 5, 6, 7, 8, 9, 10, 11, 14, 15] [9, 10, 11, 12, 13, 14, 15, 16, 17, 18, 21, 22, 27, 28] S_73 (fRG_ticks_73 P rc50 S_73 x73_1 x73_2 x73_3) := by
  unfold fRG_ticks_73
  have hS_73 : zfr 28 [3, 4, 5, 6, 7, 8, 9, 10, 11, 14, 15] [9, 10, 11, 12, 13, 14, 15, 16, 17, 18, 21, 22, 27, 28] S_73 S_73 := zfr.rf
  refine zq_l (fun k10 => ?_)
  refine zq_l (fun k11 => ?_)
  refine zq_s (hS_73.I (by decide)) (fun S12 hS12 => ?_)
  refine zq_s (hS12.c (q_fPR_arriveAll _ _) (by decide) (by decide)) (fun S15 hS15 => ?_)
  refine zq_s (hS15.c (q_fPR_turnAll _ _) (by decide) (by decide)) (fun S18 hS18 => ?_)
  refine zq_l (fun k21 => ?_)
  refine zq_s (hS18.I (by decide)) (fun S22 hS22 => ?_)
  refine zq_l (fun k24 => ?_)
  refine zq_if ?_ ?_
  · skip
    refine zq_l (fun k25 => ?_)
    refine zq_l (fun k26 => ?_)
    exact zfr.c hS22 (q_fRG_ticks_124 _ rc50 _ _ _ _ hrc50) (fun _ h => h) (fun _ h => h)
  · skip
    exact zfr.c hS22 (q_fRG_ticks_124 _ rc50 _ _ _ _ hrc50) (fun _ h => h) (fun _ h => h)
theorem q_fRG_ticks_50 (P : ZS) (rc50 : ZS → Int32 → Int32 → (ZS × Int32)) (S_50 : ZS) (x50_1 : Int32) (x50_2 : Int32) (hrc50 : ∀ (a0 : ZS) (a1 : Int32) (a2 : Int32), zfrB 28 [3, 4, 5, 6, 7, 8, 9, 10, 11, 14, 15] [9, 10, 11, 12, 13, 14, 15, 16, 17, 18, 21, 22, 27, 28] a0 (rc50 a0 a1 a2)) : zfrB 28 [3, 4, 5, 6, 7, 8, 9, 10, 11, 14, 15] [9, 10, 11, 12, 13, 14, 15, 16, 17, 18, 21, 22, 27, 28] S_50 (fRG_ticks_50 P rc50 S_50 x50_1 x50_2) := by
  unfold fRG_ticks_50
  have hS_50 : zfr 28 [3, 4, 5, 6, 7, 8, 9, 10, 11, 14, 15] [9, 10, 11, 12, 13, 14, 15, 16, 17, 18, 21, 22, 27, 28] S_50 S_50 := zfr.rf
  refine zq_if ?_ ?_
  · skip
    refine zq_l (fun k27 => ?_)
    exact hS_50
  · skip
    refine zq_l (fun k29 => ?_)
    refine zq_l (fun k30 => ?_)
    refine zq_if ?_ ?_
    · skip
      exact zfr.c hS_50 (q_fRG_ticks_73 _ rc50 _ _ _ _ hrc50) (fun _ h => h) (fun _ h => h)
    · skip
      refine zq_s (hS_50.I (by decide)) (fun S31 hS31 => ?_)
      exact zfr.c hS31 (q_fRG_ticks_73 _ rc50 _ _ _ _ hrc50) (fun _ h => h) (fun _ h => h)
theorem z_fRG_ticks_50 (P : ZS) : ∀ (n : Nat) (S_50 : ZS) (x50_1 : Int32) (x50_2 : Int32), zfrB 28 [3, 4, 5, 6, 7, 8, 9, 10, 11, 14, 15] [9, 10, 11, 12, 13, 14, 15, 16, 17, 18, 21, 22, 27, 28] S_50 (zfix (fun S9 _ _ => (S9, 0)) (fRG_ticks_50 P) n S_50 x50_1 x50_2) := by
  intro n
  induction n with
  | zero => intro S_50 x50_1 x50_2; rw [zfix_0]; exact zfr.rf
  | succ n ih => intro S_50 x50_1 x50_2; rw [zfix_s]; exact q_fRG_ticks_50 P _ _ _ _  ih
theorem q_fRG_ticks (P S : ZS) (x0 : Int32) : zE (zfrB 28 [3, 4, 5, 6, 7, 8, 9, 10, 11, 14, 15] [9, 10, 11, 12, 13, 14, 15, 16, 17, 18, 21, 22, 27, 28] S) (fRG_ticks P S x0) := by
  unfold fRG_ticks
  have hS : zfr 28 [3, 4, 5, 6, 7, 8, 9, 10, 11, 14, 15] [9, 10, 11, 12, 13, 14, 15, 16, 17, 18, 21, 22, 27, 28] S S := zfr.rf
  refine zq_if ?_ ?_
  · skip
    exact fun y9 e9 => zfr.c hS ((q_fRG_ticks_12 _ _ ) y9 e9) (by decide) (by decide)
  · skip
    refine zq_if ?_ ?_
    · skip
      refine zE_b (fun u33 => ?_)
      refine zq_l (fun k36 => ?_)
      refine zq_l (fun k37 => ?_)
      refine zq_if ?_ ?_
      · skip
        refine zE_o ?_
        exact zfr.c hS (z_fRG_ticks_50 P  258 _ _ _) (fun _ h => h) (fun _ h => h)
      · skip
        exact zE_e
    · skip
      exact fun y9 e9 => zfr.c hS ((q_fRG_ticks_12 _ _ ) y9 e9) (by decide) (by decide)
theorem q_fRG_host (P S : ZS) (x0 : Int32) (x1 : Int32) : zE (zfrB 28 [] [23, 28] S) (fRG_host P S x0 x1) := by
  unfold fRG_host
  have hS : zfr 28 [] [23, 28] S S := zfr.rf
  refine zE_b (fun u1 => ?_)
  refine zE_b (fun u4 => ?_)
  refine zE_b (fun u7 => ?_)
  refine zE_o ?_
  refine zq_l (fun k10 => ?_)
  refine zq_s (hS.F (by decide)) (fun S11 hS11 => ?_)
  refine zq_s (hS11.c (q_fTA_forgetHost _ _ _) (by decide) (by decide)) (fun S14 hS14 => ?_)
  exact hS14
theorem q_fRG_joined (P S : ZS) (x0 : Int32) (x1 : Int32) : zE (zfrB 28 [6, 14, 15] [27] S) (fRG_joined P S x0 x1) := by
  unfold fRG_joined
  have hS : zfr 28 [6, 14, 15] [27] S S := zfr.rf
  refine zE_b (fun u1 => ?_)
  refine zE_b (fun u4 => ?_)
  refine zE_o ?_
  refine zq_s (hS.c (q_fRG_groupByOpenLinks _ _) (by decide) (by decide)) (fun S8 hS8 => ?_)
  refine zq_l (fun k10 => ?_)
  refine zq_l (fun k11 => ?_)
  refine zq_if ?_ ?_
  · skip
    exact hS8
  · skip
    exact hS8
theorem q_fRG_send_46 (P : ZS) (S_46 : ZS) : zE (zfrB 28 [] [] S_46) (fRG_send_46 P S_46) := by
  unfold fRG_send_46
  have hS_46 : zfr 28 [] [] S_46 S_46 := zfr.rf
  exact zE_e
theorem q_fRG_send (P S : ZS) (x0 : Int32) (x1 : Int32) (x2 : Int32) : zE (zfrB 28 [12, 13] [24, 25, 26, 28] S) (fRG_send P S x0 x1 x2) := by
  unfold fRG_send
  have hS : zfr 28 [12, 13] [24, 25, 26, 28] S S := zfr.rf
  refine zE_b (fun u1 => ?_)
  refine zE_b (fun u4 => ?_)
  refine zE_b (fun u7 => ?_)
  refine zq_if ?_ ?_
  · skip
    exact fun y9 e9 => zfr.c hS ((q_fRG_send_46 _ _ ) y9 e9) (by decide) (by decide)
  · skip
    refine zq_l (fun k10 => ?_)
    refine zq_if ?_ ?_
    · skip
      exact fun y9 e9 => zfr.c hS ((q_fRG_send_46 _ _ ) y9 e9) (by decide) (by decide)
    · skip
      refine zq_l (fun k11 => ?_)
      refine zq_if ?_ ?_
      · skip
        exact fun y9 e9 => zfr.c hS ((q_fRG_send_46 _ _ ) y9 e9) (by decide) (by decide)
      · skip
        refine zE_b (fun u12 => ?_)
        refine zE_o ?_
        refine zq_l (fun k15 => ?_)
        refine zq_2 (hS.c (q_fFR_carry _ _ _ _ _ _) (by decide) (by decide)) (fun S18 k17 hS18 => ?_)
        exact hS18
theorem q_fPL_layPorts_91 (rc52 : ZS → ZS → Int32 → (ZS × ZS)) (P_91 : ZS) (S_91 : ZS) (x91_1 : Int32) (y91_0 : Int32) (y91_1 : Int32) (hrc52 : ∀ (a0 : ZS) (a1 : ZS) (a2 : Int32), zfrD 28 [] [] a1 (rc52 a0 a1 a2)) : zfrD 28 [] [] S_91 (fPL_layPorts_91 rc52 P_91 S_91 x91_1 y91_0 y91_1) := by
  unfold fPL_layPorts_91
  have hS_91 : zfr 28 [] [] S_91 S_91 := zfr.rf
  refine zq_l (fun P1 => ?_)
  refine zq_l (fun k3 => ?_)
  exact zfr.c hS_91 (hrc52 _ _ _) (fun _ h => h) (fun _ h => h)
theorem q_fPL_layPorts_52 (rc52 : ZS → ZS → Int32 → (ZS × ZS)) (P_52 : ZS) (S_52 : ZS) (x52_1 : Int32) (hrc52 : ∀ (a0 : ZS) (a1 : ZS) (a2 : Int32), zfrD 28 [] [] a1 (rc52 a0 a1 a2)) : zfrD 28 [] [] S_52 (fPL_layPorts_52 rc52 P_52 S_52 x52_1) := by
  unfold fPL_layPorts_52
  have hS_52 : zfr 28 [] [] S_52 S_52 := zfr.rf
  refine zq_if ?_ ?_
  · skip
    exact hS_52
  · skip
    refine zq_l (fun k5 => ?_)
    refine zq_if ?_ ?_
    · skip
      exact zfr.c hS_52 (q_fPL_layPorts_91 rc52 _ _ _ _ _ hrc52) (fun _ h => h) (fun _ h => h)
    · skip
      refine zq_l (fun k6 => ?_)
      refine zq_l (fun k7 => ?_)
      refine zq_l (fun k9 => ?_)
      exact zfr.c hS_52 (q_fPL_layPorts_91 rc52 _ _ _ _ _ hrc52) (fun _ h => h) (fun _ h => h)
theorem z_fPL_layPorts_52  : ∀ (n : Nat) (P_52 : ZS) (S_52 : ZS) (x52_1 : Int32), zfrD 28 [] [] S_52 (zfix (fun P9 S9 _ => (P9, S9)) (fPL_layPorts_52 ) n P_52 S_52 x52_1) := by
  intro n
  induction n with
  | zero => intro P_52 S_52 x52_1; rw [zfix_0]; exact zfr.rf
  | succ n ih => intro P_52 S_52 x52_1; rw [zfix_s]; exact q_fPL_layPorts_52  _ _ _ _  ih
theorem q_fPL_layPorts_42 (rc2 : ZS → ZS → Int32 → (ZS × ZS)) (P_42 : ZS) (S_42 : ZS) (x42_1 : Int32) (y42_0 : Int32) (hrc2 : ∀ (a0 : ZS) (a1 : ZS) (a2 : Int32), zfrD 28 [] [] a1 (rc2 a0 a1 a2)) : zfrD 28 [] [] S_42 (fPL_layPorts_42 rc2 P_42 S_42 x42_1 y42_0) := by
  unfold fPL_layPorts_42
  have hS_42 : zfr 28 [] [] S_42 S_42 := zfr.rf
  refine zq_l (fun P10 => ?_)
  refine zq_l (fun k12 => ?_)
  exact zfr.c hS_42 (hrc2 _ _ _) (fun _ h => h) (fun _ h => h)
theorem q_fPL_layPorts_2 (rc2 : ZS → ZS → Int32 → (ZS × ZS)) (P_2 : ZS) (S_2 : ZS) (x2_1 : Int32) (hrc2 : ∀ (a0 : ZS) (a1 : ZS) (a2 : Int32), zfrD 28 [] [] a1 (rc2 a0 a1 a2)) : zfrD 28 [] [] S_2 (fPL_layPorts_2 rc2 P_2 S_2 x2_1) := by
  unfold fPL_layPorts_2
  have hS_2 : zfr 28 [] [] S_2 S_2 := zfr.rf
  refine zq_l (fun k13 => ?_)
  refine zq_l (fun k14 => ?_)
  refine zq_if ?_ ?_
  · skip
    exact zfr.c hS_2 (z_fPL_layPorts_52   7 _ _ _) (fun _ h => h) (fun _ h => h)
  · skip
    refine zq_l (fun k15 => ?_)
    refine zq_l (fun k16 => ?_)
    refine zq_l (fun k17 => ?_)
    refine zq_if ?_ ?_
    · skip
      exact zfr.c hS_2 (q_fPL_layPorts_42 rc2 _ _ _ _ hrc2) (fun _ h => h) (fun _ h => h)
    · skip
      refine zq_l (fun k18 => ?_)
      exact zfr.c hS_2 (q_fPL_layPorts_42 rc2 _ _ _ _ hrc2) (fun _ h => h) (fun _ h => h)
theorem z_fPL_layPorts_2  : ∀ (n : Nat) (P_2 : ZS) (S_2 : ZS) (x2_1 : Int32), zfrD 28 [] [] S_2 (zfix (fun P9 S9 _ => (P9, S9)) (fPL_layPorts_2 ) n P_2 S_2 x2_1) := by
  intro n
  induction n with
  | zero => intro P_2 S_2 x2_1; rw [zfix_0]; exact zfr.rf
  | succ n ih => intro P_2 S_2 x2_1; rw [zfix_s]; exact q_fPL_layPorts_2  _ _ _ _  ih
theorem q_fPL_layPorts (P S : ZS) : zfrD 28 [] [] S (fPL_layPorts P S) := by
  unfold fPL_layPorts
  have hS : zfr 28 [] [] S S := zfr.rf
  exact zfr.c hS (z_fPL_layPorts_2   121 _ _ _) (fun _ h => h) (fun _ h => h)
theorem q_fRG_start_39 (P_39 : ZS) (S_39 : ZS) (x39_1 : Int32) : zfrC 28 [] [] S_39 (fRG_start_39 P_39 S_39 x39_1) := by
  unfold fRG_start_39
  have hS_39 : zfr 28 [] [] S_39 S_39 := zfr.rf
  exact hS_39
theorem q_fRG_start (P S : ZS) : zE (zfrC 28 [9, 11, 14, 15] [11, 12, 14, 16, 18, 21, 22, 27, 28] S) (fRG_start P S) := by
  unfold fRG_start
  have hS : zfr 28 [9, 11, 14, 15] [11, 12, 14, 16, 18, 21, 22, 27, 28] S S := zfr.rf
  refine zE_b (fun u1 => ?_)
  refine zE_o ?_
  refine zq_3 (hS.c (q_fPL_firstFault _ _) (by decide) (by decide)) (fun P7 S6 k5 hS6 => ?_)
  refine zq_if ?_ ?_
  · skip
    refine zq_l (fun P9 => ?_)
    refine zq_d (hS6.c (q_fPL_layPorts _ _) (by decide) (by decide)) (fun P13 S12 hS12 => ?_)
    refine zq_s (hS12.c (q_fPR_takeAllHolds _ _) (by decide) (by decide)) (fun S16 hS16 => ?_)
    exact zfr.c hS16 (q_fRG_start_39 _ _ _ ) (by decide) (by decide)
  · skip
    exact zfr.c hS6 (q_fRG_start_39 _ _ _ ) (by decide) (by decide)
