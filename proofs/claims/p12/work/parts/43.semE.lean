
/-! start: both refuse, or both say the same and go on alike -/
theorem zff_nn : ∀ (n : Nat) (P S : ZS) (f r : Int32), zr 0 6 r → 0 ≤ (zfix (fun P9 S9 _ _ => (P9, S9, 0)) fPL_firstFault_21 n P S f r).2.2.toInt := by
  have z0 : (0 : Int32).toInt = 0 := by decide
  have z6 : (6 : Int32).toInt = 6 := by decide
  intro n
  induction n with
  | zero => intro P S f r h; rw [zfix_0]; exact Int.le_of_eq z0.symm
  | succ n ih =>
    intro P S f r h
    have h1 := h.1
    rw [zfix_s]
    generalize zfix (fun P9 S9 _ _ => (P9, S9, 0)) fPL_firstFault_21 n = rc at ih ⊢
    simp only [fPL_firstFault_21, fPL_firstFault_62, fPL_firstFault_56, zl, zl3]
    by_cases c : 6 ≤ r
    · rw [if_pos c]; exact Int.le_of_eq z0.symm
    · rw [if_neg c]
      have c' := Int32.lt_iff_toInt_lt.mp (znle c)
      have e1 : (r + 1).toInt = r.toInt + 1 := zx1 (a := 0) (b := 6) h (by decide)
      have e2 : (1 + r).toInt = r.toInt + 1 := by rw [Int32.add_comm]; exact e1
      have out : ∀ A B : ZS, 0 ≤ (A, B, 1 + r).2.2.toInt := fun A B => by show 0 ≤ (1 + r).toInt; omega
      have rn : zr 0 6 (r + 1) := ⟨by omega, by omega⟩
      generalize fPL_hasRightShape P S r f = R
      split
      · exact ih P S f (r + 1) rn
      · split
        · exact out _ _
        · split
          · exact out _ _
          · exact ih R.1 R.2.1 0 (r + 1) rn
theorem zff_pos (P S : ZS) : 0 ≤ (fPL_firstFault P S).2.2.toInt := by
  simp only [fPL_firstFault, fPL_firstFault_14, zl]
  split
  · show 0 ≤ (7 : Int32).toInt; decide
  · split
    · exact zff_nn 7 P S 1 0 (by decide)
    · show 0 ≤ (7 : Int32).toInt; decide
theorem zlay_fr {P S : ZS} (h : zr 0 60 (P.I 1)) (h5 : ∀ j, zr 0 287 (P.F 5 j)) : (fPL_layPorts P S).1.I = P.I ∧ ∀ q, q ≠ 6 → q ≠ 7 → (fPL_layPorts P S).1.F q = P.F q := by
  have k1 : ∀ (n : Nat) (Q S : ZS) (x : Int32), Q.I = P.I → (∀ q, q ≠ 6 → q ≠ 7 → Q.F q = P.F q) → (zfix (fun P9 S9 _ => (P9, S9)) fPL_layPorts_52 n Q S x).1.I = P.I ∧ ∀ q, q ≠ 6 → q ≠ 7 → (zfix (fun P9 S9 _ => (P9, S9)) fPL_layPorts_52 n Q S x).1.F q = P.F q := by
    intro n
    induction n with
    | zero => intro Q S x a b; rw [zfix_0]; exact ⟨a, b⟩
    | succ n ih =>
      intro Q S x a b
      rw [zfix_s]
      generalize zfix (fun P9 S9 _ => (P9, S9)) fPL_layPorts_52 n = rc at ih ⊢
      simp only [fPL_layPorts_52, fPL_layPorts_91, zl]
      split
      · exact ⟨a, b⟩
      · split
        · exact ih _ S _ a (fun q h6 h7 => by rw [zset_ne h6]; exact b q h6 h7)
        · exact ih _ S _ a (fun q h6 h7 => by rw [zset_ne h6]; exact b q h6 h7)
  have k2 : ∀ (n : Nat) (Q S : ZS) (x : Int32), Q.I = P.I → (∀ q, q ≠ 6 → q ≠ 7 → Q.F q = P.F q) → (zfix (fun P9 S9 _ => (P9, S9)) fPL_layPorts_2 n Q S x).1.I = P.I ∧ ∀ q, q ≠ 6 → q ≠ 7 → (zfix (fun P9 S9 _ => (P9, S9)) fPL_layPorts_2 n Q S x).1.F q = P.F q := by
    intro n
    induction n with
    | zero => intro Q S x a b; rw [zfix_0]; exact ⟨a, b⟩
    | succ n ih =>
      intro Q S x a b
      rw [zfix_s]
      generalize zfix (fun P9 S9 _ => (P9, S9)) fPL_layPorts_2 n = rc at ih ⊢
      simp only [fPL_layPorts_2, fPL_layPorts_42, zl]
      split
      · exact k1 7 Q S 0 a b
      · split
        · exact ih _ S _ a (fun q h6 h7 => by rw [zset_ne h7]; exact b q h6 h7)
        · exact ih _ S _ a (fun q h6 h7 => by rw [zset_ne h7]; exact b q h6 h7)
  exact k2 121 P S 0 rfl (fun _ _ _ => rfl)
theorem zms125 : ∀ (n : Nat) (P S : ZS) (x : Int32), (zfix (fun P9 S9 _ => (P9, S9, 0)) fMO_start_125 n P S x).1 = P ∧ (zfix (fun P9 S9 _ => (P9, S9, 0)) fMO_start_125 n P S x).2.2 = 0 := by
  intro n
  induction n with
  | zero => intro P S x; rw [zfix_0]; exact ⟨rfl, rfl⟩
  | succ n ih =>
    intro P S x
    rw [zfix_s]
    generalize zfix (fun P9 S9 _ => (P9, S9, 0)) fMO_start_125 n = rc at ih ⊢
    simp only [fMO_start_125, fMO_start_144, zl]
    split
    · exact ⟨rfl, rfl⟩
    · split
      · exact ih P _ _
      · exact ih P _ _
theorem zms43 : ∀ (n : Nat) (P S : ZS) (x : Int32), zk 6 P (zfix (fun P9 S9 _ => (P9, S9, 0)) fMO_start_43 n P S x).1 ∧ (zfix (fun P9 S9 _ => (P9, S9, 0)) fMO_start_43 n P S x).2.2 = 0 := by
  have inner : ∀ (rc : ZS → ZS → Int32 → (ZS × ZS × Int32)), (∀ P S x, zk 6 P (rc P S x).1 ∧ (rc P S x).2.2 = 0) → ∀ (n : Nat) (P S : ZS) (x y : Int32), zk 6 P (zfix (fun P9 S9 _ _ => (P9, S9, 0)) (fMO_start_53 rc) n P S x y).1 ∧ (zfix (fun P9 S9 _ _ => (P9, S9, 0)) (fMO_start_53 rc) n P S x y).2.2 = 0 := by
    intro rc hrc n
    induction n with
    | zero => intro P S x y; rw [zfix_0]; exact ⟨zk.rf, rfl⟩
    | succ n ih =>
      intro P S x y
      rw [zfix_s]
      generalize zfix (fun P9 S9 _ _ => (P9, S9, 0)) (fMO_start_53 rc) n = rc2 at ih ⊢
      simp only [fMO_start_53, fMO_start_109, fMO_start_111, zl]
      split
      · exact hrc P S _
      · split
        · exact ih P S _ _
        · split
          · obtain ⟨a1, a2⟩ := ih (P.setF 6 (2 * (6 * x + P.F 2 y.toNatClampNeg)).toNatClampNeg y) S x (y + 1)
            exact ⟨zk.set.tr a1, a2⟩
          · obtain ⟨a1, a2⟩ := ih (P.setF 6 (2 * (6 * x + P.F 2 y.toNatClampNeg) + 1).toNatClampNeg y) S x (y + 1)
            exact ⟨zk.set.tr a1, a2⟩
  intro n
  induction n with
  | zero => intro P S x; rw [zfix_0]; exact ⟨zk.rf, rfl⟩
  | succ n ih =>
    intro P S x
    rw [zfix_s]
    generalize zfix (fun P9 S9 _ => (P9, S9, 0)) fMO_start_43 n = rc at ih ⊢
    unfold fMO_start_43
    simp only [zl]
    split
    · obtain ⟨a1, a2⟩ := zms125 7 P S 0
      rw [a1]
      exact ⟨zk.rf, a2⟩
    · exact inner rc ih 61 P S x 0
