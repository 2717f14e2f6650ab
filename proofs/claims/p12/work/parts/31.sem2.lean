
theorem zie_iff {P S : ZS} {b : Int32} {r nl : Nat} (hI : P.I 2 = nI nl) (hn : nl ≤ 60) (hr : r ≤ 5) : (¬ fMO_isEarlier P S b (nI r) = 0) ↔ ∃ q, q < r ∧ 0 < zdg P b (nI q) nl := by
  have n1 : ¬ (1 : Int32) = 0 := by decide
  have key : ∀ (n q : Nat) (y : Int32), q ≤ r → r - q < n → ((¬ zfix (fun _ _ _ _ => 0) (fMO_isEarlier_5 P S) n b (nI r) y (nI q) = 0) ↔ (¬ y = 0 ∨ ∃ j, q ≤ j ∧ j < r ∧ 0 < zdg P b (nI j) nl)) := by
    intro n
    induction n with
    | zero => intro q y h1 h2; omega
    | succ n ih =>
      intro q y h1 h2
      rw [zfix_s]
      generalize zfix (fun _ _ _ _ => 0) (fMO_isEarlier_5 P S) n = rc at ih ⊢
      simp only [fMO_isEarlier_5, fMO_isEarlier_25, fMO_isEarlier_30, zl]
      by_cases c : r ≤ q
      · rw [if_pos (nI_le c (by omega))]
        exact ⟨Or.inl, fun h => h.elim id (fun ⟨j, a, q, _⟩ => by omega)⟩
      · rw [if_neg (nI_ge (by omega) (by omega)), zdi_eq hI hn, nI_1]
        have dl := zdg_le (P := P) (b := b) (r := nI q) nl
        by_cases c2 : y = 0
        · rw [if_pos c2]
          by_cases c3 : 0 < zdg P b (nI q) nl
          · rw [if_neg (nI_nle c3 (by omega)), ih (q + 1) 1 (by omega) (by omega)]
            exact ⟨fun _ => Or.inr ⟨q, Nat.le_refl _, by omega, c3⟩, fun _ => Or.inl n1⟩
          · have e : zdg P b (nI q) nl = 0 := by omega
            rw [e, if_pos (by decide : nI 0 ≤ 0), ih (q + 1) 0 (by omega) (by omega)]
            refine ⟨fun h => h.elim (fun h => absurd rfl h) (fun ⟨j, a, q9⟩ => Or.inr ⟨j, by omega, q9⟩), fun h => h.elim (fun h => absurd c2 h) (fun ⟨j, a, q9⟩ => Or.inr ⟨j, Nat.lt_of_le_of_ne a (fun e9 => ?_), q9⟩)⟩
            subst e9
            exact c3 q9.2
        · rw [if_neg c2, ih (q + 1) 1 (by omega) (by omega)]
          exact ⟨fun _ => Or.inl c2, fun _ => Or.inl n1⟩
  have h := key 6 0 0 (Nat.zero_le _) (by omega)
  refine h.trans ⟨fun h => h.elim (fun h => absurd rfl h) (fun ⟨j, _, q⟩ => ⟨j, q⟩), fun ⟨j, q⟩ => Or.inr ⟨j, Nat.zero_le _, q⟩⟩
theorem zbef_iff {P : ZS} {b : Int32} {r nl : Nat} (g : ∀ j, zr 0 5 (P.F 2 j)) : zbef P b r nl ↔ ∃ q, q < r ∧ 0 < zdg P b (nI q) nl := by
  constructor
  · rintro ⟨l, h1, h2, h3⟩
    exact ⟨_, h2, (zdg_pos nl).mpr ⟨l, h1, znI (g l), h3⟩⟩
  · rintro ⟨q, h1, h2⟩
    obtain ⟨l, a1, a2, a3⟩ := (zdg_pos nl).mp h2
    have t := ztn (g l) (by decide)
    have u := (g l).2
    refine ⟨l, a1, ?_, a3⟩
    rcases Nat.lt_or_ge q 100 with h9 | h9
    · rw [a2, nI_clamp (by omega)]; exact h1
    · omega
theorem zbb_iff {P S : ZS} {nb nl : Nat} (hB : P.I 0 = nI nb) (hb : nb ≤ 48) (hI : P.I 1 = nI nl) (hn : nl ≤ 60) (g : ∀ j, zr 0 5 (P.F 2 j)) : (¬ fPL_hasBareBridge P S = 0) ↔ ∃ b, b < nb ∧ ¬ zbef P (nI b) 6 nl := by
  have n1 : ¬ (1 : Int32) = 0 := by decide
  have z6 : (6 : Int32) = nI 6 := by decide
  have key : ∀ (n b : Nat), b ≤ nb → nb - b < n → ((¬ zfix (fun _ => 0) (fPL_hasBareBridge_2 P S) n (nI b) = 0) ↔ ∃ j, b ≤ j ∧ j < nb ∧ ¬ zbef P (nI j) 6 nl) := by
    intro n
    induction n with
    | zero => intro b h1 h2; omega
    | succ n ih =>
      intro b h1 h2
      rw [zfix_s]
      generalize zfix (fun _ => 0) (fPL_hasBareBridge_2 P S) n = rc at ih ⊢
      simp only [fPL_hasBareBridge_2, zl]
      rw [hB]
      by_cases c : nb ≤ b
      · rw [if_pos (nI_le c (by omega))]
        exact ⟨fun h => absurd rfl h, fun ⟨j, a, q, _⟩ => by omega⟩
      · rw [if_neg (nI_ge (by omega) (by omega)), z6]
        have hi := zib_iff (S := S) (b := nI b) (r := 6) hI hn (Nat.le_refl _) g
        by_cases c2 : fPL_isInRingBefore P S (nI b) (nI 6) = 0
        · rw [if_pos c2]
          exact ⟨fun _ => ⟨b, Nat.le_refl _, by omega, fun h => hi.mpr h c2⟩, fun _ => n1⟩
        · rw [if_neg c2, nI_1, ih (b + 1) (by omega) (by omega)]
          have hz := hi.mp c2
          refine ⟨fun ⟨j, a, q⟩ => ⟨j, by omega, q⟩, fun ⟨j, a, q⟩ => ⟨j, Nat.lt_of_le_of_ne a (fun e => ?_), q⟩⟩
          subst e
          exact q.2 hz
  have h := key 49 0 (Nat.zero_le _) (by omega)
  exact h.trans ⟨fun ⟨j, _, q⟩ => ⟨j, q⟩, fun ⟨j, q⟩ => ⟨j, Nat.zero_le _, q⟩⟩
/-- how many of the first n have p -/
noncomputable def zct (p : Nat → Prop) : Nat → Nat
  | 0 => 0
  | n + 1 => zct p n + @ite Nat (p n) (Classical.propDecidable _) 1 0
theorem zct_1 {p : Nat → Prop} {n : Nat} (h : p n) : zct p (n + 1) = zct p n + 1 := by
  show zct p n + _ = _
  rw [if_pos h]
theorem zct_0 {p : Nat → Prop} {n : Nat} (h : ¬ p n) : zct p (n + 1) = zct p n := by
  show zct p n + _ = _
  rw [if_neg h, Nat.add_zero]
theorem zct_le {p : Nat → Prop} : ∀ n, zct p n ≤ n
  | 0 => Nat.le_refl _
  | n + 1 => by
    have := zct_le (p := p) n
    by_cases h : p n
    · rw [zct_1 h]; omega
    · rw [zct_0 h]; omega
theorem zct_congr {p q : Nat → Prop} : ∀ n, (∀ j, j < n → (p j ↔ q j)) → zct p n = zct q n
  | 0, _ => rfl
  | n + 1, h => by
    have ih := zct_congr (p := p) (q := q) n (fun j hj => h j (by omega))
    have hn := h n (Nat.lt_succ_self n)
    by_cases c : p n
    · rw [zct_1 c, zct_1 (hn.mp c), ih]
    · rw [zct_0 c, zct_0 (fun q => c (hn.mpr q)), ih]
/-- the members, ends and shared bridges of ring r, as the shapes are looked at -/
abbrev zpM (P : ZS) (r : Int32) (nl : Nat) : Nat → Prop := fun j => 0 < zdg P (nI j) r nl
abbrev zpE (P : ZS) (r : Int32) (nl : Nat) : Nat → Prop := fun j => zdg P (nI j) r nl = 1
abbrev zpI (P : ZS) (r : Int32) (nl : Nat) : Nat → Prop := fun j => zdg P (nI j) r nl = 2
abbrev zpS (P : ZS) (r nl : Nat) : Nat → Prop := fun j => 0 < zdg P (nI j) (nI r) nl ∧ zbef P (nI j) r nl
