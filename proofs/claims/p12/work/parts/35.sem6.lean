
/-- what the reference does with a ring whose degrees are at most two -/
noncomputable def ztM (P S : ZS) (r f e i j : Int32) : ZS × ZS × Int32 := zl2 (fMO_isOne P S r) (fun S8 k7 => (if k7 = 0 then (P, S8, 0) else (if e = 0 then (if i < 3 then (P.setF 5 r.toNatClampNeg 1, S8, 0) else (if f = 0 then fMO_isRight_148 (P.setF 5 r.toNatClampNeg 1) S8 1 j else fMO_isRight_148 (P.setF 5 r.toNatClampNeg 1) S8 0 j)) else (if e = 2 then (if i ≤ 0 then (P, S8, 0) else (if j = 2 then (if fMO_isHung P S8 r = 0 then (P, S8, 0) else (P, S8, 1)) else (P, S8, 0))) else (P, S8, 0)))))
theorem zshM {P P' S : ZS} {f : Int32} {r nb nl : Nat} (hp : zPn P nb nl) (hr : zRP P P') (hr6 : r ≤ 5) :
    ((∀ j, j < nb → zdg P (nI j) (nI r) nl ≤ 2) → fMO_isRight P' S (nI r) f = ztM P' S (nI r) f (nI (zct (zpE P (nI r) nl) nb)) (nI (zct (zpI P (nI r) nl) nb)) (nI (zct (zpS P r nl) nb))) ∧
    ((∃ j, j < nb ∧ 2 < zdg P (nI j) (nI r) nl) → fMO_isRight P' S (nI r) f = (P', S, 0)) := by
  have hr2 := hr
  obtain ⟨hB, hb, hI, hn, hg, hL⟩ := hp
  obtain ⟨r1, r2, r3, r4, r5, -⟩ := hr
  have hB' : P'.I 1 = nI nb := r1.trans hB
  have hI' : P'.I 2 = nI nl := r2.trans hI
  have a0 : ∀ n : Nat, nI n + 0 = nI n := fun n => Int32.add_zero _
  have z2 : (2 : Int32) = nI 2 := by decide
  have z1 : (1 : Int32) = nI 1 := by decide
  have n10 : ¬ (1 : Int32) = 0 := by decide
  have key : ∀ (n b : Nat), b ≤ nb → nb - b < n →
      ((∀ j, b ≤ j → j < nb → zdg P (nI j) (nI r) nl ≤ 2) → zfix (fun P9 S9 _ _ _ _ _ _ => (P9, S9, 0)) fMO_isRight_11 n P' S (nI r) f (nI (zct (zpE P (nI r) nl) b)) (nI (zct (zpI P (nI r) nl) b)) (nI (zct (zpS P r nl) b)) (nI b) = ztM P' S (nI r) f (nI (zct (zpE P (nI r) nl) nb)) (nI (zct (zpI P (nI r) nl) nb)) (nI (zct (zpS P r nl) nb))) ∧
      ((∃ j, b ≤ j ∧ j < nb ∧ 2 < zdg P (nI j) (nI r) nl) → zfix (fun P9 S9 _ _ _ _ _ _ => (P9, S9, 0)) fMO_isRight_11 n P' S (nI r) f (nI (zct (zpE P (nI r) nl) b)) (nI (zct (zpI P (nI r) nl) b)) (nI (zct (zpS P r nl) b)) (nI b) = (P', S, 0)) := by
    intro n
    induction n with
    | zero => intro b h1 h2; omega
    | succ n ih =>
      intro b h1 h2
      rw [zfix_s]
      generalize zfix (fun P9 S9 _ _ _ _ _ _ => (P9, S9, 0)) fMO_isRight_11 n = rc at ih ⊢
      by_cases c : nb ≤ b
      · have e : b = nb := by omega
        unfold fMO_isRight_11
        simp only [zl]
        rw [hB', if_pos (nI_le c (by omega)), e]
        exact ⟨fun _ => rfl, fun ⟨j, a, q, _⟩ => by omega⟩
      · simp only [fMO_isRight_11, fMO_isRight_48, fMO_isRight_49, fMO_isRight_71, fMO_isRight_86, fMO_isRight_101, zl]
        rw [hB', if_neg (nI_ge (by omega) (by omega)), zdi_eq hI' hn, zdg_RP hr2]
        have dl := zdg_le (P := P) (b := nI b) (r := nI r) nl
        have hib : (¬ fMO_isEarlier P' S (nI b) (nI r) = 0) ↔ zbef P (nI b) r nl := by
          rw [zie_iff (S := S) hI' hn hr6, zbef_iff hg]
          exact ⟨fun ⟨q, a, w⟩ => ⟨q, a, by rw [← zdg_RP hr2]; exact w⟩, fun ⟨q, a, w⟩ => ⟨q, a, by rw [zdg_RP hr2]; exact w⟩⟩
        obtain ⟨i1, i2⟩ := ih (b + 1) (by omega) (by omega)
        have fin : ∀ X : ZS × ZS × Int32, X = rc P' S (nI r) f (nI (zct (zpE P (nI r) nl) (b + 1))) (nI (zct (zpI P (nI r) nl) (b + 1))) (nI (zct (zpS P r nl) (b + 1))) (nI (b + 1)) → zdg P (nI b) (nI r) nl ≤ 2 →
            ((∀ j, b ≤ j → j < nb → zdg P (nI j) (nI r) nl ≤ 2) → X = ztM P' S (nI r) f (nI (zct (zpE P (nI r) nl) nb)) (nI (zct (zpI P (nI r) nl) nb)) (nI (zct (zpS P r nl) nb))) ∧ ((∃ j, b ≤ j ∧ j < nb ∧ 2 < zdg P (nI j) (nI r) nl) → X = (P', S, 0)) := by
          intro X hX hd
          rw [hX]
          refine ⟨fun h => i1 (fun j a q => h j (by omega) q), fun ⟨j, a, q, w⟩ => i2 ⟨j, Nat.lt_of_le_of_ne a (fun e => ?_), q, w⟩⟩
          subst e
          omega
        have out : 2 < zdg P (nI b) (nI r) nl → ((∀ j, b ≤ j → j < nb → zdg P (nI j) (nI r) nl ≤ 2) → (P', S, (0 : Int32)) = ztM P' S (nI r) f (nI (zct (zpE P (nI r) nl) nb)) (nI (zct (zpI P (nI r) nl) nb)) (nI (zct (zpS P r nl) nb))) ∧ ((∃ j, b ≤ j ∧ j < nb ∧ 2 < zdg P (nI j) (nI r) nl) → (P', S, (0 : Int32)) = (P', S, 0)) := fun hd => ⟨fun h => absurd (h b (Nat.le_refl _) (by omega)) (by omega), fun _ => rfl⟩
        generalize hd : zdg P (nI b) (nI r) nl = d at dl fin out ⊢
        by_cases c0 : 0 < d
        · have pm : 0 < zdg P (nI b) (nI r) nl := by omega
          rw [if_neg (nI_nle c0 (by omega))]
          by_cases c2 : d ≤ 2
          · have cond2 : nI d ≤ 2 := by rw [z2]; exact nI_le c2 (by omega)
            rw [if_pos cond2, if_pos cond2]
            by_cases cE : d = 1
            · have pe : zpE P (nI r) nl b := by show zdg P (nI b) (nI r) nl = 1; omega
              have pi : ¬ zpI P (nI r) nl b := by show ¬ zdg P (nI b) (nI r) nl = 2; omega
              have k1 : nI d = 1 := by rw [cE]; decide
              have k2 : ¬ nI d = 2 := by rw [cE]; decide
              rw [if_pos k1, if_pos k1, if_neg k2, if_neg k2, if_pos trivial, if_neg n10]
              by_cases cS : fMO_isEarlier P' S (nI b) (nI r) = 0
              · have ps : ¬ zpS P r nl b := fun h => hib.mpr h.2 cS
                rw [if_pos cS]
                refine fin _ ?_ c2
                rw [zct_1 pe, zct_0 pi, zct_0 ps, nI_1, a0, a0, nI_1]
              · have ps : zpS P r nl b := ⟨pm, hib.mp cS⟩
                rw [if_neg cS]
                refine fin _ ?_ c2
                rw [zct_1 pe, zct_0 pi, zct_1 ps, nI_1, a0, nI_1, nI_1]
            · have cI : d = 2 := by omega
              have pe : ¬ zpE P (nI r) nl b := by show ¬ zdg P (nI b) (nI r) nl = 1; omega
              have pi : zpI P (nI r) nl b := by show zdg P (nI b) (nI r) nl = 2; omega
              have k1 : ¬ nI d = 1 := by rw [cI]; decide
              have k2 : nI d = 2 := by rw [cI]; decide
              rw [if_neg k1, if_neg k1, if_pos k2, if_pos k2, if_pos trivial, if_neg n10]
              by_cases cS : fMO_isEarlier P' S (nI b) (nI r) = 0
              · have ps : ¬ zpS P r nl b := fun h => hib.mpr h.2 cS
                rw [if_pos cS]
                refine fin _ ?_ c2
                rw [zct_0 pe, zct_1 pi, zct_0 ps, a0, nI_1, a0, nI_1]
              · have ps : zpS P r nl b := ⟨pm, hib.mp cS⟩
                rw [if_neg cS]
                refine fin _ ?_ c2
                rw [zct_0 pe, zct_1 pi, zct_1 ps, a0, nI_1, nI_1, nI_1]
          · have cond2 : ¬ nI d ≤ 2 := by rw [z2]; exact nI_ge (by omega) (by omega)
            rw [if_neg cond2, if_neg cond2]
            by_cases cS : fMO_isEarlier P' S (nI b) (nI r) = 0
            · rw [if_pos cS]
              exact out (by omega)
            · rw [if_neg cS]
              exact out (by omega)
        · have e0 : d = 0 := by omega
          have pe : ¬ zpE P (nI r) nl b := by show ¬ zdg P (nI b) (nI r) nl = 1; omega
          have pi : ¬ zpI P (nI r) nl b := by show ¬ zdg P (nI b) (nI r) nl = 2; omega
          have ps : ¬ zpS P r nl b := fun h => by have := h.1; omega
          have k0 : nI d ≤ 0 := by rw [e0]; decide
          have k1 : ¬ nI d = 1 := by rw [e0]; decide
          have k2 : ¬ nI d = 2 := by rw [e0]; decide
          have k3 : nI d ≤ 2 := by rw [e0]; decide
          rw [if_pos k0, if_pos k3, if_neg k1, if_neg k2, if_pos trivial]
          refine fin _ ?_ (by omega)
          rw [zct_0 pe, zct_0 pi, zct_0 ps, a0, a0, a0, nI_1]
  have h := key 49 0 (Nat.zero_le _) (by omega)
  exact ⟨fun q => h.1 (fun j _ w => q j w), fun ⟨j, a, q⟩ => h.2 ⟨j, Nat.zero_le _, a, q⟩⟩
theorem zct_mei {P : ZS} {r : Int32} {nl : Nat} : ∀ n, (∀ j, j < n → zdg P (nI j) r nl ≤ 2) → zct (zpM P r nl) n = zct (zpE P r nl) n + zct (zpI P r nl) n
  | 0, _ => rfl
  | n + 1, h => by
    have ih := zct_mei (P := P) (r := r) (nl := nl) n (fun j hj => h j (by omega))
    have hn := h n (Nat.lt_succ_self n)
    by_cases c0 : 0 < zdg P (nI n) r nl
    · rw [zct_1 (p := zpM P r nl) c0]
      by_cases c1 : zdg P (nI n) r nl = 1
      · rw [zct_1 (p := zpE P r nl) c1, zct_0 (p := zpI P r nl) (by show ¬ _ = 2; omega)]; omega
      · rw [zct_0 (p := zpE P r nl) c1, zct_1 (p := zpI P r nl) (by show _ = 2; omega)]; omega
    · rw [zct_0 (p := zpM P r nl) c0, zct_0 (p := zpE P r nl) (by show ¬ _ = 1; omega), zct_0 (p := zpI P r nl) (by show ¬ _ = 2; omega)]; exact ih
/-- the sum of the degrees of the first n bridges -/
def zsd (P : ZS) (r : Int32) (nl : Nat) : Nat → Nat
  | 0 => 0
  | n + 1 => zsd P r nl n + zdg P (nI n) r nl
theorem zsd_ei {P : ZS} {r : Int32} {nl : Nat} : ∀ n, (∀ j, j < n → zdg P (nI j) r nl ≤ 2) → zsd P r nl n = zct (zpE P r nl) n + 2 * zct (zpI P r nl) n
  | 0, _ => rfl
  | n + 1, h => by
    have ih := zsd_ei (P := P) (r := r) (nl := nl) n (fun j hj => h j (by omega))
    have hn := h n (Nat.lt_succ_self n)
    show zsd P r nl n + zdg P (nI n) r nl = _
    by_cases c1 : zdg P (nI n) r nl = 1
    · rw [zct_1 (p := zpE P r nl) c1, zct_0 (p := zpI P r nl) (by show ¬ _ = 2; omega)]; omega
    · by_cases c2 : zdg P (nI n) r nl = 2
      · rw [zct_0 (p := zpE P r nl) c1, zct_1 (p := zpI P r nl) c2]; omega
      · rw [zct_0 (p := zpE P r nl) c1, zct_0 (p := zpI P r nl) c2]; omega
theorem zsd_s {P : ZS} {r : Int32} {l : Nat} : ∀ n, zsd P r (l + 1) n = zsd P r l n + (if P.F 2 l = r then zct (fun b => P.F 0 l = nI b ∨ P.F 1 l = nI b) n else 0)
  | 0 => by
    show 0 = 0 + _
    split <;> rfl
  | n + 1 => by
    have ih := zsd_s (P := P) (r := r) (l := l) n
    show zsd P r (l + 1) n + zdg P (nI n) r (l + 1) = zsd P r l n + zdg P (nI n) r l + _
    by_cases c : P.F 2 l = r
    · rw [if_pos c] at ih ⊢
      by_cases d : P.F 0 l = nI n ∨ P.F 1 l = nI n
      · rw [zdg_1 c d, zct_1 (p := fun b => P.F 0 l = nI b ∨ P.F 1 l = nI b) d]; omega
      · rw [zdg_0 (fun h => d h.2), zct_0 (p := fun b => P.F 0 l = nI b ∨ P.F 1 l = nI b) d]; omega
    · rw [if_neg c] at ih ⊢
      rw [zdg_0 (fun h => c h.1)]; omega
theorem zct_two {A B : Nat} (hne : A ≠ B) : ∀ n, zct (fun b => A = b ∨ B = b) n = (if A < n then 1 else 0) + (if B < n then 1 else 0)
  | 0 => rfl
  | n + 1 => by
    have ih := zct_two hne n
    by_cases c : A = n ∨ B = n
    · rw [zct_1 (p := fun b => A = b ∨ B = b) c, ih]
      rcases c with rfl | rfl
      · rw [if_neg (Nat.lt_irrefl _), if_pos (Nat.lt_succ_self _)]
        by_cases d : B < A
        · rw [if_pos d, if_pos (by omega)]
        · rw [if_neg d, if_neg (by omega)]
      · rw [if_neg (Nat.lt_irrefl B), if_pos (Nat.lt_succ_self B)]
        by_cases d : A < B
        · rw [if_pos d, if_pos (by omega)]
        · rw [if_neg d, if_neg (by omega)]
    · rw [zct_0 (p := fun b => A = b ∨ B = b) c, ih]
      have c1 : A ≠ n := fun h => c (Or.inl h)
      have c2 : B ≠ n := fun h => c (Or.inr h)
      by_cases d : A < n <;> by_cases d2 : B < n
      · rw [if_pos d, if_pos d2, if_pos (by omega), if_pos (by omega)]
      · rw [if_pos d, if_neg d2, if_pos (by omega), if_neg (by omega)]
      · rw [if_neg d, if_pos d2, if_neg (by omega), if_pos (by omega)]
      · rw [if_neg d, if_neg d2, if_neg (by omega), if_neg (by omega)]
theorem zsd_eq {P : ZS} {r : Int32} {nb nl : Nat} (hp : zPn P nb nl) : ∀ l, l ≤ nl → zsd P r l nb = 2 * zcn P r l := by
  obtain ⟨hB, hb, hI, hn, hg, hL⟩ := hp
  intro l
  induction l with
  | zero =>
    intro _
    have h : ∀ n, zsd P r 0 n = 0 := by
      intro n
      induction n with
      | zero => rfl
      | succ n ih => show zsd P r 0 n + 0 = 0; rw [ih]
    rw [h]; rfl
  | succ l ih =>
    intro h
    have ih := ih (by omega)
    rw [zsd_s]
    by_cases c : P.F 2 l = r
    · rw [if_pos c, zcn_1 c, ih]
      obtain ⟨la, lb, ne, ra, rb⟩ := hL l (by omega)
      have ea := znI ra
      have eb := znI rb
      have hne : (P.F 0 l).toNatClampNeg ≠ (P.F 1 l).toNatClampNeg := fun q => ne (by rw [ea, eb, q])
      have hc := zct_congr (p := fun b => P.F 0 l = nI b ∨ P.F 1 l = nI b) (q := fun b => (P.F 0 l).toNatClampNeg = b ∨ (P.F 1 l).toNatClampNeg = b) nb (fun j hj => by
        have i1 : P.F 0 l = nI j ↔ (P.F 0 l).toNatClampNeg = j := ⟨fun q => by rw [q, nI_clamp (by omega)], fun q => by rw [ea, q]⟩
        have i2 : P.F 1 l = nI j ↔ (P.F 1 l).toNatClampNeg = j := ⟨fun q => by rw [q, nI_clamp (by omega)], fun q => by rw [eb, q]⟩
        show (P.F 0 l = nI j ∨ P.F 1 l = nI j) ↔ _
        rw [i1, i2])
      rw [hc, zct_two hne, if_pos la, if_pos lb]
      omega
    · rw [if_neg c, zcn_0 c, ih]
      omega
