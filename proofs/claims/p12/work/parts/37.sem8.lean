
/-! one ring's verdict agrees -/
theorem zct_and {p q : Nat → Prop} : ∀ n, zct (fun b => p b ∧ q b) n ≤ zct p n ∧ (zct (fun b => p b ∧ q b) n = zct p n ↔ ∀ b, b < n → p b → q b)
  | 0 => ⟨Nat.le_refl _, fun _ b h => absurd h (Nat.not_lt_zero _), fun _ => rfl⟩
  | n + 1 => by
    obtain ⟨h1, h2⟩ := zct_and (p := p) (q := q) n
    by_cases cp : p n
    · rw [zct_1 (p := p) cp]
      by_cases cq : q n
      · rw [zct_1 (p := fun b => p b ∧ q b) ⟨cp, cq⟩]
        refine ⟨by omega, fun h b hb hp => ?_, fun h => ?_⟩
        · by_cases e : b = n
          · rw [e]; exact cq
          · exact h2.mp (by omega) b (by omega) hp
        · have := h2.mpr (fun b hb => h b (by omega))
          omega
      · rw [zct_0 (p := fun b => p b ∧ q b) (fun h => cq h.2)]
        exact ⟨by omega, fun h => by omega, fun h => absurd (h n (Nat.lt_succ_self n) cp) cq⟩
    · rw [zct_0 (p := p) cp, zct_0 (p := fun b => p b ∧ q b) (fun h => cp h.1)]
      refine ⟨h1, fun h b hb hp => ?_, fun h => h2.mpr (fun b hb => h b (by omega))⟩
      by_cases e : b = n
      · rw [e] at hp; exact absurd hp cp
      · exact h2.mp h b (by omega) hp
theorem zdg_k {P P1 : ZS} (h : zk 8 P P1) (b r : Int32) : ∀ n, zdg P1 b r n = zdg P b r n
  | 0 => rfl
  | n + 1 => by
    show zdg P1 b r n + _ = zdg P b r n + _
    rw [zdg_k h b r n, h.2 0 (by decide), h.2 1 (by decide), h.2 2 (by decide)]
theorem zPn_k {P P1 : ZS} {nb nl : Nat} (hk : zk 8 P P1) (h : zPn P nb nl) : zPn P1 nb nl := by
  unfold zPn
  rw [hk.1, hk.2 0 (by decide), hk.2 1 (by decide), hk.2 2 (by decide)]
  exact h
theorem zverd {P P' S S' : ZS} {f : Int32} {r nb nl : Nat} (hp : zPn P nb nl) (hr : zRP P P') (hr6 : r ≤ 5) (hcl : ∀ q, q < r → (P.F 8 q = 0 ↔ P'.F 5 q = 0)) (h5 : P'.F 5 r = 0) :
    (fPL_hasRightShape P S (nI r) f).2.2 = (fMO_isRight P' S' (nI r) f).2.2 ∧
    (¬ (fPL_hasRightShape P S (nI r) f).2.2 = 0 → ∀ q, q < r + 1 → ((fPL_hasRightShape P S (nI r) f).1.F 8 q = 0 ↔ (fMO_isRight P' S' (nI r) f).1.F 5 q = 0)) := by
  obtain ⟨cA, cB⟩ := zshC (S := S) (f := f) hp hr6
  obtain ⟨mA, mB⟩ := zshM (S := S') (f := f) hp hr hr6
  have hp2 := hp
  obtain ⟨hB, hb, hI, hn, hg, hL⟩ := hp2
  by_cases hall : ∀ j, j < nb → zdg P (nI j) (nI r) nl ≤ 2
  · rw [cA hall, mA hall]
    have mei := zct_mei (P := P) (r := nI r) (nl := nl) nb hall
    have sei := zsd_ei (P := P) (r := nI r) (nl := nl) nb hall
    rw [zsd_eq hp nl (Nat.le_refl _)] at sei
    have le := zct_le (p := zpM P (nI r) nl) nb
    obtain ⟨p1, p2⟩ := zpiece (S := S) (S' := S') (r := nI r) (m := zct (zpM P (nI r) nl) nb) hp hr rfl
    generalize zct (zpM P (nI r) nl) nb = m at mei le p1 p2 ⊢
    generalize hE : zct (zpE P (nI r) nl) nb = e at mei sei ⊢
    generalize zct (zpI P (nI r) nl) nb = i at mei sei ⊢
    generalize zct (zpS P r nl) nb = s
    simp only [ztC, ztM, zl2]
    generalize fPL_isOnePiece P S (nI r) (nI m) = o at p1 p2 ⊢
    generalize fMO_isOne P' S' (nI r) = o' at p1 ⊢
    have z3 : (3 : Int32) = nI 3 := by decide
    have z2 : (2 : Int32) = nI 2 := by decide
    have z0 : (0 : Int32) = nI 0 := by decide
    have e0 : (nI e = 0 ↔ e = 0) := by rw [z0]; exact nI_eq (by omega) (by decide)
    have e2 : (nI e = 2 ↔ e = 2) := by rw [z2]; exact nI_eq (by omega) (by decide)
    have i0 : (nI i ≤ 0 ↔ i ≤ 0) := by rw [z0]; exact nI_leI (by omega) (by decide)
    have i3 : (nI i < 3 ↔ i < 3) := by rw [z3]; exact nI_ltI (by omega) (by decide)
    have m3 : (nI m < 3 ↔ m < 3) := by rw [z3]; exact nI_ltI (by omega) (by decide)
    by_cases co : o.2 = 0
    · have co' : o'.2 = 0 := by rw [← p1]; exact co
      rw [if_pos co', if_pos co]
      by_cases cm : nI m < 3
      · rw [if_pos cm]
        exact ⟨rfl, fun h => absurd rfl h⟩
      · rw [if_neg cm]
        exact ⟨rfl, fun h => absurd rfl h⟩
    · have co' : ¬ o'.2 = 0 := by rw [← p1]; exact co
      obtain ⟨k', k1, k2⟩ := p2 co
      rw [if_neg co', if_neg co]
      by_cases ce : e = 0
      · rw [if_pos (e0.mpr ce), if_pos (e0.mpr ce)]
        by_cases cm : m < 3
        · rw [if_pos (m3.mpr cm), if_pos (i3.mpr (by omega))]
          exact ⟨rfl, fun h => absurd rfl h⟩
        · rw [if_neg (fun h => cm (m3.mp h)), if_neg (fun h => cm (by have := i3.mp h; omega))]
          have rc : (nI r).toNatClampNeg = r := nI_clamp (by omega)
          have flag : ∀ q, q < r + 1 → ((P.setF 8 (nI r).toNatClampNeg 1).F 8 q = 0 ↔ (P'.setF 5 (nI r).toNatClampNeg 1).F 5 q = 0) := by
            intro q hq
            rw [zset27, zset27, rc]
            by_cases e9 : q = r
            · rw [if_pos e9, if_pos e9]
            · rw [if_neg e9, if_neg e9]; exact hcl q (by omega)
          simp only [fPL_hasRightShape_134, fPL_hasRightShape_151, fMO_isRight_148, fMO_isRight_155, zl]
          rw [if_pos (e0.mpr ce)]
          by_cases cf : f = 0
          · rw [if_pos cf, if_pos cf]
            by_cases cs : nI s = 1
            · rw [if_pos cs, if_pos cs]
              exact ⟨rfl, fun _ => flag⟩
            · rw [if_neg cs, if_neg cs]
              exact ⟨rfl, fun h => absurd rfl h⟩
          · rw [if_neg cf, if_neg cf]
            by_cases cs : nI s = 0
            · rw [if_pos cs, if_pos cs]
              exact ⟨rfl, fun _ => flag⟩
            · rw [if_neg cs, if_neg cs]
              exact ⟨rfl, fun h => absurd rfl h⟩
      · have ce2 : e = 2 := by omega
        rw [if_neg (fun h => ce (e0.mp h)), if_neg (fun h => ce (e0.mp h)), if_pos (e2.mpr ce2)]
        by_cases cm : m < 3
        · rw [if_pos (m3.mpr cm), if_pos (i0.mpr (by omega))]
          exact ⟨rfl, fun h => absurd rfl h⟩
        · rw [if_neg (fun h => cm (m3.mp h)), if_neg (fun h => cm (by have := i0.mp h; omega))]
          simp only [fPL_hasRightShape_134, fPL_hasRightShape_178, zl]
          rw [if_neg (fun h => ce (e0.mp h))]
          by_cases cs : nI s = 2
          · rw [if_pos cs, if_pos cs]
            have hk8 : zk 8 P (P.setF 8 (nI r).toNatClampNeg 0) := zk.set
            have rc : (nI r).toNatClampNeg = r := nI_clamp (by omega)
            have f8 : ∀ q, q < r → (P.setF 8 (nI r).toNatClampNeg 0).F 8 q = P.F 8 q := fun q hq => by rw [zset27, rc, if_neg (by omega)]
            have f8r : (P.setF 8 (nI r).toNatClampNeg 0).F 8 r = 0 := by rw [zset27, rc, if_pos rfl]
            generalize P.setF 8 (nI r).toNatClampNeg 0 = P1 at hk8 f8 f8r ⊢
            have hh := zheld_iff (S := o.1) (zPn_k hk8 hp) hr6
            have hu := zhung_iff (S := o'.1) hp hr hr6
            have hiff : (¬ fPL_isHeldByClosedRing P1 o.1 (nI r) = 0) ↔ (¬ fMO_isHung P' o'.1 (nI r) = 0) := by
              rw [hh, hu]
              have each : ∀ q, (∀ b, b < nb → ¬ (zdg P1 (nI b) (nI r) nl = 1 ∧ zdg P1 (nI b) (nI q) nl = 0)) ↔ zct (zpH P r q nl) nb = 2 := by
                intro q
                have ha := (zct_and (p := zpE P (nI r) nl) (q := fun b => 0 < zdg P (nI b) (nI q) nl) nb).2
                rw [hE, ce2] at ha
                refine Iff.trans ?_ ha.symm
                constructor
                · intro h b hb hpE
                  have h9 := h b hb
                  rw [zdg_k hk8, zdg_k hk8] at h9
                  exact Nat.pos_of_ne_zero (fun h0 => h9 ⟨hpE, h0⟩)
                · intro h b hb h9
                  rw [zdg_k hk8, zdg_k hk8] at h9
                  have := h b hb h9.1
                  omega
              constructor
              · rintro ⟨q, a, w, w2⟩
                exact ⟨q, a, fun h => w (by rw [f8 q a]; exact (hcl q a).mpr h), (each q).mp w2⟩
              · rintro ⟨q, a, w, w2⟩
                exact ⟨q, a, fun h => w ((hcl q a).mp (by rw [← f8 q a]; exact h)), (each q).mpr w2⟩
            by_cases ch : fPL_isHeldByClosedRing P1 o.1 (nI r) = 0
            · have ch' : fMO_isHung P' o'.1 (nI r) = 0 := Classical.byContradiction (fun h => hiff.mpr h ch)
              rw [if_pos ch, if_pos ch']
              exact ⟨rfl, fun h => absurd rfl h⟩
            · rw [if_neg ch, if_neg (hiff.mp ch)]
              refine ⟨rfl, fun _ q hq => ?_⟩
              show P1.F 8 q = 0 ↔ P'.F 5 q = 0
              by_cases e9 : q = r
              · rw [e9, f8r, h5]
              · rw [f8 q (by omega)]; exact hcl q (by omega)
          · rw [if_neg cs, if_neg cs]
            exact ⟨rfl, fun h => absurd rfl h⟩
  · have hex : ∃ j, j < nb ∧ 2 < zdg P (nI j) (nI r) nl := Classical.byContradiction (fun h => hall (fun j hj => Nat.not_lt.mp (fun h2 => h ⟨j, hj, h2⟩)))
    rw [cB hex, mB hex]
    exact ⟨rfl, fun h => absurd rfl h⟩
