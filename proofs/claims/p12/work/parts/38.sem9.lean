
/-! the whole verdict agrees -/
theorem zsh8 {P S : ZS} {f : Int32} {r nb nl q : Nat} (hp : zPn P nb nl) (hr6 : r ≤ 5) (hq : q ≠ r) : (fPL_hasRightShape P S (nI r) f).1.F 8 q = P.F 8 q := by
  obtain ⟨cA, cB⟩ := zshC (S := S) (f := f) hp hr6
  have rc : (nI r).toNatClampNeg = r := nI_clamp (by omega)
  have st : ∀ v : Int32, (P.setF 8 (nI r).toNatClampNeg v).F 8 q = P.F 8 q := fun v => by rw [zset27, rc, if_neg hq]
  by_cases hall : ∀ j, j < nb → zdg P (nI j) (nI r) nl ≤ 2
  · rw [cA hall]
    generalize nI (zct (zpM P (nI r) nl) nb) = m
    generalize nI (zct (zpE P (nI r) nl) nb) = e
    generalize nI (zct (zpS P r nl) nb) = s
    simp only [ztC, zl2, fPL_hasRightShape_134, fPL_hasRightShape_151, fPL_hasRightShape_178, zl]
    repeat' split
    all_goals first | rfl | exact st _
  · have hex : ∃ j, j < nb ∧ 2 < zdg P (nI j) (nI r) nl := Classical.byContradiction (fun h => hall (fun j hj => Nat.not_lt.mp (fun h2 => h ⟨j, hj, h2⟩)))
    rw [cB hex]
/-- a ring without links was never called closed -/
def zC0 (P : ZS) (nl : Nat) : Prop := ∀ q, q < 6 → ¬ P.F 8 q = 0 → ∃ l, l < nl ∧ P.F 2 l = nI q
/-- a ring's owner and link are set together -/
def zM2 (P : ZS) : Prop := ∀ j, (P.F 3 j = -1 ↔ P.F 4 j = -1)
theorem zown_eq {P P1 P' S S' : ZS} {r nb nl : Nat} (hp : zPn P nb nl) (g4 : ∀ j, zr (-1) 59 (P.F 4 j)) (hk : zk 8 P P1) (hr : zRP P P') (hm : zM2 P) (hr6 : r ≤ 5) : (¬ fPL_hasRightOwner P1 S (nI r) = 0) ↔ (¬ P'.F 3 r = -1 ∧ P'.F 2 (P'.F 4 r).toNatClampNeg = nI r ∧ ¬ fMO_isEnd P' S' (P'.F 3 r) (P'.F 4 r) = 0) := by
  obtain ⟨r1, r2, r3, r4, r5, r6, r7⟩ := hr
  have n1 : ¬ (1 : Int32) = 0 := by decide
  have he : ∀ l : Nat, l < 60 → ∀ b : Int32, (fMO_isEnd P' S' b (nI l) = 0 ↔ fPL_portOf P1 S b (nI l) = -1) := fun l hl b => by
    rw [zend_iff hl, zpo_iff hl, r3, r4, hk.2 0 (by decide), hk.2 1 (by decide)]
  rw [r5, r6, r7]
  simp only [fPL_hasRightOwner, fPL_hasRightOwner_41, zl]
  rw [nI_clamp (by omega), hk.2 4 (by decide), hk.2 2 (by decide), hk.2 3 (by decide)]
  by_cases c1 : P.F 4 r = -1
  · rw [if_pos c1]
    exact ⟨fun h => absurd rfl h, fun h => absurd ((hm r).mpr c1) h.1⟩
  · rw [if_neg c1]
    have ra : zr 0 59 (P.F 4 r) := zne_lo (g4 r) c1 (by decide)
    have ta := ztn ra (by decide)
    have ub := ra.2
    have ea := znI ra
    have hx := he (P.F 4 r).toNatClampNeg (by omega) (P.F 3 r)
    rw [← ea] at hx
    by_cases c2 : P.F 2 (P.F 4 r).toNatClampNeg = nI r
    · rw [if_pos c2]
      by_cases c3 : fPL_portOf P1 S (P.F 3 r) (P.F 4 r) = -1
      · rw [if_pos c3]
        exact ⟨fun h => absurd rfl h, fun h => absurd (hx.mpr c3) h.2.2⟩
      · rw [if_neg c3]
        exact ⟨fun _ => ⟨fun h => c1 ((hm r).mp h), c2, fun h => c3 (hx.mp h)⟩, fun _ => n1⟩
    · rw [if_neg c2]
      exact ⟨fun h => absurd rfl h, fun h => absurd h.2.1 c2⟩
theorem zRP_k {P P1 P' P1' : ZS} (h : zRP P P') (hk : zk 8 P P1) (hk' : zk 5 P' P1') : zRP P1 P1' := by
  unfold zRP
  rw [hk.1, hk'.1, hk.2 0 (by decide), hk.2 1 (by decide), hk.2 2 (by decide), hk.2 3 (by decide), hk.2 4 (by decide), hk'.2 0 (by decide), hk'.2 1 (by decide), hk'.2 2 (by decide), hk'.2 3 (by decide), hk'.2 4 (by decide)]
  exact h
theorem zrings {nb nl : Nat} : ∀ (n r : Nat) (P P' S S' : ZS) (f : Int32), r ≤ 6 → 6 - r < n → zPn P nb nl → (∀ j, zr (-1) 59 (P.F 4 j)) → zRP P P' → zM2 P → zC0 P nl → (∀ q, q < r → (P.F 8 q = 0 ↔ P'.F 5 q = 0)) →
    (zfix (fun P9 S9 _ _ => (P9, S9, 0)) fPL_firstFault_21 n P S f (nI r)).2.2 = (zfix (fun P9 S9 _ _ => (P9, S9, 0)) fMO_faultOf_72 n P' S' f (nI r)).2.2 ∧
    zC0 (zfix (fun P9 S9 _ _ => (P9, S9, 0)) fPL_firstFault_21 n P S f (nI r)).1 nl := by
  have z6 : (6 : Int32) = nI 6 := by decide
  have z0 : (0 : Int32) = nI 0 := by decide
  intro n
  induction n with
  | zero => intro r P P' S S' f h1 h2; omega
  | succ n ih =>
    intro r P P' S S' f h1 h2 hp g4 hr hm hc hcl
    rw [zfix_s, zfix_s]
    generalize zfix (fun P9 S9 _ _ => (P9, S9, 0)) fPL_firstFault_21 n = rc at ih ⊢
    generalize zfix (fun P9 S9 _ _ => (P9, S9, 0)) fMO_faultOf_72 n = rc' at ih ⊢
    simp only [fPL_firstFault_21, fPL_firstFault_62, fPL_firstFault_56, zl, zl3]
    by_cases c : 6 ≤ r
    · have e1 : (6 : Int32) ≤ nI r := by rw [z6]; exact nI_le c (by omega)
      unfold fMO_faultOf_72
      rw [if_pos e1, if_pos e1]
      exact ⟨rfl, hc⟩
    · have e1 : ¬ (6 : Int32) ≤ nI r := by rw [z6]; exact nI_ge (by omega) (by omega)
      have rc9 : (nI r).toNatClampNeg = r := nI_clamp (by omega)
      rw [if_neg e1]
      have hk8 : zk 5 P' (P'.setF 5 (nI r).toNatClampNeg 0) := zk.set
      have f5 : ∀ q, q ≠ r → (P'.setF 5 (nI r).toNatClampNeg 0).F 5 q = P'.F 5 q := fun q hq => by rw [zset27, rc9, if_neg hq]
      have f5r : (P'.setF 5 (nI r).toNatClampNeg 0).F 5 r = 0 := by rw [zset27, rc9, if_pos rfl]
      have shape : ∃ P8 : ZS, zk 5 P' P8 ∧ (∀ q, q ≠ r → P8.F 5 q = P'.F 5 q) ∧ P8.F 5 r = 0 ∧ fMO_faultOf_72 rc' P' S' f (nI r) = (if fMO_linksIn P8 S' (nI r) ≤ 0 then rc' P8 S' f (nI (r + 1)) else if P8.F 3 r = -1 then fMO_faultOf_142 rc' P8 S' f (nI r) 0 else if P8.F 2 (P8.F 4 r).toNatClampNeg = nI r then (if fMO_isEnd P8 S' (P8.F 3 r) (P8.F 4 r) = 0 then fMO_faultOf_142 rc' P8 S' f (nI r) 0 else fMO_faultOf_142 rc' P8 S' f (nI r) 1) else fMO_faultOf_142 rc' P8 S' f (nI r) 0) := by
        refine ⟨_, hk8, f5, f5r, ?_⟩
        unfold fMO_faultOf_72
        rw [if_neg e1]
        unfold zl
        generalize P'.setF 5 (nI r).toNatClampNeg 0 = P8
        rw [← nI_1]
        show (if fMO_linksIn P8 S' (nI r) ≤ 0 then rc' P8 S' f (nI r + 1) else if P8.F 3 (nI r).toNatClampNeg = -1 then fMO_faultOf_142 rc' P8 S' f (nI r) 0 else if P8.F 2 (P8.F 4 (nI r).toNatClampNeg).toNatClampNeg = nI r then (if fMO_isEnd P8 S' (P8.F 3 (nI r).toNatClampNeg) (P8.F 4 (nI r).toNatClampNeg) = 0 then fMO_faultOf_142 rc' P8 S' f (nI r) 0 else fMO_faultOf_142 rc' P8 S' f (nI r) 1) else fMO_faultOf_142 rc' P8 S' f (nI r) 0) = _
        rw [rc9]
      obtain ⟨P8, k8, g5, g5r, eq8⟩ := shape
      rw [eq8]
      have hr8 : zRP P P8 := zRP_k hr zk.rf k8
      have hI8 : P8.I 2 = nI nl := hr8.2.1.trans hp.2.2.1
      have hn : nl ≤ 60 := hp.2.2.2.1
      have lk := zhl_iff (S := S) (r := nI r) hp.2.2.1 hn
      have lp := zcn_pos (P := P) (r := nI r) nl
      have cle := zcn_le (P := P) (r := nI r) nl
      have eli : fMO_linksIn P8 S' (nI r) = nI (zcn P (nI r) nl) := by rw [zli_eq hI8 hn, zcn_RP hr8]
      rw [eli]
      by_cases cl : fPL_hasLinks P S (nI r) = 0
      · have nz : ¬ 0 < zcn P (nI r) nl := fun h => lk.mpr (lp.mp h) cl
        have ez : zcn P (nI r) nl = 0 := by omega
        rw [if_pos cl, ez, if_pos (by decide : nI 0 ≤ 0), nI_1]
        refine ih (r + 1) P P8 S S' f (by omega) (by omega) hp g4 hr8 hm hc (fun q hq => ?_)
        by_cases e : q = r
        · rw [e, g5r]
          have hz : P.F 8 r = 0 := Classical.byContradiction (fun h => lk.mpr (hc r (by omega) h) cl)
          exact ⟨fun _ => rfl, fun _ => hz⟩
        · rw [g5 q e]; exact hcl q (by omega)
      · have pz : 0 < zcn P (nI r) nl := lp.mpr (lk.mp cl)
        rw [if_neg cl, if_neg (nI_nle pz (by omega)), nI_1]
        obtain ⟨v1, v2⟩ := zverd (S := S) (S' := S') (f := f) hp hr8 (by omega) (fun q hq => by rw [g5 q (by omega)]; exact hcl q hq) g5r
        have s8 : ∀ q, q ≠ r → (fPL_hasRightShape P S (nI r) f).1.F 8 q = P.F 8 q := fun q hq => zsh8 hp (by omega) hq
        have kP := zshape_P (P := P) (S := S) (x := nI r) (y := f)
        have kM := zright_P (P := P8) (S := S') (x := nI r) (y := f)
        have e142 : ∀ y : Int32, fMO_faultOf_142 rc' P8 S' f (nI r) y = (if (fMO_isRight P8 S' (nI r) f).2.2 = 0 then ((fMO_isRight P8 S' (nI r) f).1, (fMO_isRight P8 S' (nI r) f).2.1, nI r + 1) else if y = 0 then ((fMO_isRight P8 S' (nI r) f).1, (fMO_isRight P8 S' (nI r) f).2.1, nI r + 1) else rc' (fMO_isRight P8 S' (nI r) f).1 (fMO_isRight P8 S' (nI r) f).2.1 0 (nI r + 1)) := fun y => rfl
        rw [e142 0, e142 1]
        have ho := zown_eq (S := (fPL_hasRightShape P S (nI r) f).2.1) (S' := S') hp g4 kP hr8 hm (show r ≤ 5 by omega)
        generalize fPL_hasRightShape P S (nI r) f = R at v1 v2 s8 kP ho ⊢
        generalize fMO_isRight P8 S' (nI r) f = R' at v1 v2 kM ⊢
        have hc1 : zC0 R.1 nl := fun q hq hne => by
          rw [kP.2 2 (by decide)]
          by_cases e : q = r
          · rw [e]; exact lk.mp cl
          · exact hc q hq (by rw [← s8 q e]; exact hne)
        have ea : (1 : Int32) + nI r = nI r + 1 := Int32.add_comm _ _
        have n10 : ¬ (1 : Int32) = 0 := by decide
        by_cases cv : R.2.2 = 0
        · have cv' : R'.2.2 = 0 := by rw [← v1]; exact cv
          rw [if_pos cv, if_pos cv', if_pos cv', ea]
          refine ⟨?_, hc1⟩
          repeat' split
          all_goals rfl
        · have cv' : ¬ R'.2.2 = 0 := by rw [← v1]; exact cv
          rw [if_neg cv, if_neg cv', if_neg cv', if_pos rfl, if_neg n10]
          by_cases co : fPL_hasRightOwner R.1 R.2.1 (nI r) = 0
          · rw [if_pos co, ea]
            refine ⟨?_, hc1⟩
            by_cases d1 : P8.F 3 r = -1
            · rw [if_pos d1]
            · rw [if_neg d1]
              by_cases d2 : P8.F 2 (P8.F 4 r).toNatClampNeg = nI r
              · rw [if_pos d2]
                by_cases d3 : fMO_isEnd P8 S' (P8.F 3 r) (P8.F 4 r) = 0
                · rw [if_pos d3]
                · exact absurd co (ho.mpr ⟨d1, d2, d3⟩)
              · rw [if_neg d2]
          · obtain ⟨d1, d2, d3⟩ := ho.mp co
            rw [if_neg co, if_neg d1, if_pos d2, if_neg d3, nI_1]
            refine ih (r + 1) R.1 R'.1 R.2.1 R'.2.1 0 (by omega) (by omega) (zPn_k kP hp) (fun j => by rw [kP.2 4 (by decide)]; exact g4 j) (zRP_k hr8 kP kM) ?_ hc1 (fun q hq => v2 cv q (by omega))
            unfold zM2
            rw [kP.2 3 (by decide), kP.2 4 (by decide)]
            exact hm
