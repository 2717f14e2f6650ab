
/-! open links make a forest -/
theorem zforest {P P' : ZS} {nb nl : Nat} {h gd : Nat → Int32} (g : zGeo P P' nb nl) (sh : ∀ l, l < nl → zshp (zAA P) (zBB P) (zrg P) nl (zrg P l)) (j : zJ (fun _ => True) P nb nl h gd) : ∃ rk up : Nat → Nat, ∀ l, l < nl ∧ zopn h l → (up (zAA P l) = l ∧ rk (zBB P l) < rk (zAA P l)) ∨ (up (zBB P l) = l ∧ rk (zAA P l) < rk (zBB P l)) := by
  have hp := g.1
  have hb := hp.2.1
  have hl : ∀ l, l < nl → zAA P l < nb ∧ zBB P l < nb ∧ ¬ zAA P l = zBB P l := fun l hl => by
    obtain ⟨a1, a2, a3, a4, a5⟩ := hp.2.2.2.2.2 l hl
    refine ⟨a1, a2, fun e => a3 ?_⟩
    have eA : P.F 0 l = nI (zAA P l) := znI a4
    have eB : P.F 1 l = nI (zBB P l) := znI a5
    rw [eA, eB, e]
  have r6 : ∀ l, l < nl → zrg P l < 6 := fun l _ => by
    have fr : zr 0 5 (P.F 2 l) := hp.2.2.2.2.1 l
    have f1 := fr.1
    have f2 := fr.2
    show (P.F 2 l).toInt.toNat < 6
    omega
  have out : ∀ l, l < nl → ∃ l', l' < nl ∧ zrg P l' = zrg P l ∧ ¬ zopn h l' := fun l hl9 => by
    obtain ⟨k, ek, q, hq, pq, nq⟩ := j.2 l hl9 trivial
    have hq0 : ¬ h q = 0 := fun e => nq (by rw [e]; exact zand0 31)
    refine ⟨q / 2, by omega, ?_, fun o => ?_⟩
    · obtain ⟨-, e2, -⟩ := zprt (b := k / 6) (r := k % 6) g hq (by omega) (by omega)
      rw [← ek]
      exact (zrg_iff hp (by omega)).mpr e2
    · rcases Nat.mod_two_eq_zero_or_one q with c | c
      · exact hq0 (by rw [show q = 2 * (q / 2) by omega]; exact o.1)
      · exact hq0 (by rw [show q = 2 * (q / 2) + 1 by omega]; exact o.2)
  refine zrank hl nl (fun l => l < nl ∧ zopn h l) (zct_le nl) (fun l w => w.1) (fun E' s x => ?_)
  refine zleaf hl sh r6 (fun l w => (s l w).1) (fun l w => ?_) x
  obtain ⟨l', a, b, c⟩ := out l (s l w).1
  exact ⟨l', a, b, fun w => c (s l' w).2⟩

/-! numbers in a row of numbers -/
def upd2 (f : Nat → Nat) (k v : Nat) : Nat → Nat := fun j => if j = k then v else f j
theorem upd2_at (f : Nat → Nat) (k v : Nat) : upd2 f k v k = v := if_pos rfl
theorem upd2_ne (f : Nat → Nat) {k j : Nat} (v : Nat) (h : ¬ j = k) : upd2 f k v j = f j := if_neg h
/-! what was learned, on both sides -/
theorem zknown {P P' : ZS} {nb b tg hs t : Nat} {S S' : ZS} (ov : zOv nb S S') (hb : b < nb) (hn : nb ≤ 48) (ht : tg < 4) (hh : hs < 64) (h4 : S'.I 4 = nI t) : fTA_linkTo P S (nI b) (nI tg) (nI hs) (nI t) = fMO_known P' S' (nI b) (nI tg) (nI hs) := by
  have z60 : (60 : Int32) = nI 60 := by decide
  have z64 : (64 : Int32) = nI 64 := by decide
  have z256 : (256 : Int32) = nI 256 := by decide
  rw [fTA_linkTo, fMO_known]
  repeat rw [zl]
  repeat rw [fTA_linkTo_35]
  repeat rw [fMO_known_53]
  rw [z64, z256, nI_mul, nI_mul, nI_mul, nI_add, nI_add, nI_add, nI_clamp (by omega), nI_clamp (by omega), nI_clamp (by omega), h4, show tg * 64 + hs = 64 * tg + hs by omega, show 256 * b + 64 * tg + hs = 256 * b + (64 * tg + hs) by omega]
  rcases ov b (64 * tg + hs) hb (by omega) with ⟨e1, e2⟩ | ⟨x, u, hx, hu, e1, e2, e3⟩
  · rw [e1, e2, if_pos rfl, if_pos rfl]
  · rw [e1, e2, e3, if_neg (nI_ne (by omega)), if_neg (nI_ne (by omega)), z60, nI_rem (by omega) (by omega), nI_div (by omega) (by omega), show (60 * u + x) / 60 = u by omega, show (60 * u + x) % 60 = x by omega]
    by_cases c : nI t - nI u < 300
    · rw [if_pos c, if_neg (fun w => by
        have w1 := Int32.lt_iff_toInt_lt.mp c
        have w2 := Int32.le_iff_toInt_le.mp w
        omega)]
    · rw [if_neg c, if_pos (by
        apply Int32.le_iff_toInt_le.mpr
        have w1 : ¬ (nI t - nI u).toInt < (300 : Int32).toInt := fun w => c (Int32.lt_iff_toInt_lt.mpr w)
        omega)]
/-- a bridge learns -/
theorem zlearn {P : ZS} {nb b tg hs t l : Nat} {S S' : ZS} (ov : zOv nb S S') (hn : nb ≤ 48) (hb : b < nb) (htg : tg < 4) (hh : hs < 64) (hl : l < 60) (ht : t ≤ 20000) : zOv nb (fTA_learn P S (nI b) (nI tg) (nI hs) (nI l) (nI t)) ((S'.setF 20 (256 * b + (64 * tg + hs)) (nI l)).setF 21 (256 * b + (64 * tg + hs)) (nI t)) := by
  have z60 : (60 : Int32) = nI 60 := by decide
  have z64 : (64 : Int32) = nI 64 := by decide
  rw [fTA_learn]
  repeat rw [zl]
  rw [z64, z60, nI_mul, nI_mul, nI_add, nI_add, nI_clamp (by omega), nI_clamp (by omega), show tg * 64 + hs = 64 * tg + hs by omega, show t * 60 + l = 60 * t + l by omega]
  have f21 : ((S'.setF 20 (256 * b + (64 * tg + hs)) (nI l)).setF 21 (256 * b + (64 * tg + hs)) (nI t)).F 21 = upd (S'.F 21) (256 * b + (64 * tg + hs)) (nI t) := by rw [zFsk, zFsn _ (by decide)]
  have f20 : ((S'.setF 20 (256 * b + (64 * tg + hs)) (nI l)).setF 21 (256 * b + (64 * tg + hs)) (nI t)).F 20 = upd (S'.F 20) (256 * b + (64 * tg + hs)) (nI l) := by rw [zFsn _ (by decide), zFsk]
  intro b2 t2 hb2 ht2
  rw [f20, f21]
  by_cases e : b2 = b
  · subst e
    rw [zFsk]
    by_cases e2 : t2 = 64 * tg + hs
    · subst e2
      rw [upd_at, upd_at, upd_at]
      exact Or.inr ⟨l, t, hl, ht, rfl, rfl, rfl⟩
    · rw [upd_ne _ _ e2, upd_ne _ _ (by omega), upd_ne _ _ (by omega)]
      exact ov b2 t2 hb2 ht2
  · rw [zFsn _ (by omega), upd_ne _ _ (by omega), upd_ne _ _ (by omega)]
    exact ov b2 t2 hb2 ht2
/-! a frame's way, on both sides -/
/-- the steps up to now: sb where, sl over which link, pa from which step -/
def zFS (P : ZS) (nb nl : Nat) (h : Nat → Int32) (cnt s : Nat) (sb sl pa : Nat → Nat) (S S' : ZS) : Prop :=
  S.I 12 = nI cnt ∧ (0 < cnt ∧ cnt ≤ nb) ∧ (∀ i, i < cnt → S'.F 35 i = S.F 24 i ∧ S'.F 36 i = S.F 25 i ∧ S.F 24 i = nI (sb i) ∧ sb i < nb ∧ ((i = 0 ∧ S.F 25 i = -1) ∨ (0 < i ∧ S.F 25 i = nI (sl i) ∧ sl i < nl))) ∧ (∀ q, q < 120 → S'.F 37 q = S.F 26 q) ∧ S'.I 6 = S.I 13 ∧ zfl (zAA P) (zBB P) (fun l => l < nl ∧ zopn h l) cnt sb sl pa ∧ ∀ i, 0 < i → i < cnt → pa i ≤ s
/-- what a frame's way leaves as it is, but for what is learned -/
def zKp (nb t : Nat) (h fl hs : Nat → Int32) (S S' : ZS) : Prop := S.F 14 = h ∧ S'.F 10 = h ∧ S'.F 7 = fl ∧ S.F 23 = hs ∧ S'.F 22 = hs ∧ S'.I 4 = nI t ∧ zOv nb S S'
/-- one step more -/
theorem zaddS {P P' : ZS} {nb nl cnt s x b b2 q : Nat} {h : Nat → Int32} {sb sl pa rk up : Nat → Nat} {S S' : ZS} (g : zGeo P P' nb nl) (hr : ∀ l, l < nl ∧ zopn h l → (up (zAA P l) = l ∧ rk (zBB P l) < rk (zAA P l)) ∨ (up (zBB P l) = l ∧ rk (zAA P l) < rk (zBB P l))) (f : zFS P nb nl h cnt s sb sl pa S S') (hs : s < cnt) (hb : sb s = b) (nx : ∀ i, 0 < i → i < cnt → pa i = s → sl i < x) (hx : x < nl) (ho : zopn h x) (nc : ¬ S.F 25 s = nI x) (hq : (q = 2 * x ∧ zAA P x = b ∧ zBB P x = b2) ∨ (q = 2 * x + 1 ∧ zBB P x = b ∧ zAA P x = b2)) {T T' : ZS} (t12 : T.I 12 = nI (cnt + 1)) (t24 : T.F 24 = upd (S.F 24) cnt (nI b2)) (t25 : T.F 25 = upd (S.F 25) cnt (nI x)) (t26 : T.F 26 = upd (S.F 26) q (S.F 26 q + 1)) (u35 : T'.F 35 = upd (S'.F 35) cnt (nI b2)) (u36 : T'.F 36 = upd (S'.F 36) cnt (nI x)) (u37 : T'.F 37 = upd (S'.F 37) q (S'.F 37 q + 1)) (u6 : T'.I 6 = T.I 13) :
    zFS P nb nl h (cnt + 1) s (upd2 sb cnt b2) (upd2 sl cnt x) (upd2 pa cnt s) T T' := by
  obtain ⟨f1, ⟨f0, f2⟩, f3, f4, f5, f6, f7⟩ := f
  have hn2 := g.nl
  have hl := g.1.2.2.2.2.2 x hx
  have lb2 : b2 < nb := by
    rcases hq with ⟨-, -, e⟩ | ⟨-, -, e⟩
    · rw [← e]; exact hl.2.1
    · rw [← e]; exact hl.1
  have lq : q < 120 := by
    rcases hq with ⟨e, -⟩ | ⟨e, -⟩ <;> omega
  have fl2 : zfl (zAA P) (zBB P) (fun l => l < nl ∧ zopn h l) (cnt + 1) (upd2 sb cnt b2) (upd2 sl cnt x) (upd2 pa cnt s) := by
    obtain ⟨z1, z2⟩ := f6
    refine ⟨fun i i0 ic => ?_, fun i j i0 ij jc => ?_⟩
    · by_cases e : i = cnt
      · subst e
        rw [upd2_at, upd2_at, upd2_at, upd2_ne _ _ (by omega : ¬ s = i), upd2_ne _ _ (by omega : ¬ s = i)]
        refine ⟨hs, ⟨hx, ho⟩, ?_, ?_⟩
        · by_cases s0 : s = 0
          · exact Or.inl s0
          · refine Or.inr (fun w => nc ?_)
            rcases (f3 s hs).2.2.2.2 with ⟨w2, -⟩ | ⟨-, w2, -⟩
            · exact absurd w2 s0
            · rw [w2, w]
        · rw [hb]
          rcases hq with ⟨-, e1, e2⟩ | ⟨-, e1, e2⟩
          · exact Or.inl ⟨e1, e2⟩
          · exact Or.inr ⟨e1, e2⟩
      · have k := z1 i i0 (by omega)
        have pl := k.1
        rw [upd2_ne _ _ e, upd2_ne _ _ e, upd2_ne _ _ e, upd2_ne _ _ (by omega : ¬ pa i = cnt), upd2_ne _ _ (by omega : ¬ pa i = cnt)]
        exact k
    · by_cases e : j = cnt
      · subst e
        rw [upd2_at, upd2_at, upd2_ne _ _ (by omega : ¬ i = j), upd2_ne _ _ (by omega : ¬ i = j)]
        rintro ⟨w1, w2⟩
        have := nx i i0 (by omega) w1
        omega
      · rw [upd2_ne _ _ e, upd2_ne _ _ e, upd2_ne _ _ (by omega : ¬ i = cnt), upd2_ne _ _ (by omega : ¬ i = cnt)]
        exact z2 i j i0 ij (by omega)
  have sbl : ∀ i, i < cnt + 1 → upd2 sb cnt b2 i < nb := fun i hi => by
    by_cases e : i = cnt
    · rw [e, upd2_at]; exact lb2
    · rw [upd2_ne _ _ e]; exact (f3 i (by omega)).2.2.2.1
  have cb := zpig nb (cnt + 1) (upd2 sb cnt b2) sbl (fun i j hi hj => zflood hr fl2 j i hi hj)
  refine ⟨t12, ⟨by omega, cb⟩, fun i hi => ?_, fun p hp => ?_, u6, fl2, fun i i0 ic => ?_⟩
  · rw [u35, u36, t24, t25]
    by_cases e : i = cnt
    · rw [e, upd_at, upd_at, upd_at, upd_at, upd2_at, upd2_at]
      exact ⟨rfl, rfl, rfl, lb2, Or.inr ⟨f0, rfl, hx⟩⟩
    · rw [upd_ne _ _ e, upd_ne _ _ e, upd_ne _ _ e, upd_ne _ _ e, upd2_ne _ _ e, upd2_ne _ _ e]
      exact f3 i (by omega)
  · rw [u37, t26]
    by_cases e : p = q
    · rw [e, upd_at, upd_at, f4 q lq]
    · rw [upd_ne _ _ e, upd_ne _ _ e]
      exact f4 p hp
  · by_cases e : i = cnt
    · rw [e, upd2_at]; exact Nat.le_refl _
    · rw [upd2_ne _ _ e]; exact f7 i i0 (by omega)

/-! going over a link, on both sides -/
theorem zgov {P P' S : ZS} {nb nl q cnt : Nat} (g : zGeo P P' nb nl) (hq : q < 2 * nl) (h12 : S.I 12 = nI cnt) (hc : cnt ≤ 48) : (fFR_goOver P S (nI q)).I 12 = nI (cnt + 1) ∧ (fFR_goOver P S (nI q)).F 24 = upd (S.F 24) cnt (nI (zpl P (zx q) / 6)) ∧ (fFR_goOver P S (nI q)).F 25 = upd (S.F 25) cnt (nI (q / 2)) ∧ (fFR_goOver P S (nI q)).F 26 = upd (S.F 26) q (S.F 26 q + 1) ∧ (fFR_goOver P S (nI q)).I 13 = (if S.I 13 < S.F 26 q + 1 then S.F 26 q + 1 else S.I 13) ∧ ∀ j, j ≠ 24 → j ≠ 25 → j ≠ 26 → (fFR_goOver P S (nI q)).F j = S.F j := by
  have hn := g.nb
  have hn2 := g.nl
  have z2 : (2 : Int32) = nI 2 := by decide
  have z6 : (6 : Int32) = nI 6 := by decide
  have z400 : (400 : Int32) = nI 400 := by decide
  have lx := zx_lt hq
  have p9 := zpl_b g lx
  have e5 : P.F 5 (zx q) = nI (zpl P (zx q)) := g.2.2.2.1 _ lx
  rw [fFR_goOver]
  repeat rw [zl]
  rw [zxor, zx_xor, nI_clamp (by omega), nI_clamp (by omega), e5, z6, nI_div (by omega) (by omega), z2, nI_div (by omega) (by omega), zFsk, upd_at]
  have i13 : (S.setF 26 q (S.F 26 q + 1)).I 13 = S.I 13 := rfl
  rw [i13]
  generalize hv : (if S.I 13 < S.F 26 q + 1 then S.F 26 q + 1 else S.I 13) = v
  have i12 : ((S.setF 26 q (S.F 26 q + 1)).setI 13 v).I 12 = nI cnt := (zIsn _ (by decide)).trans h12
  rw [fFR_addStep]
  repeat rw [zl]
  rw [i12, z400, if_neg (nI_ge (by omega) (by omega)), nI_clamp (by omega), nI_1]
  refine ⟨rfl, ?_, ?_, ?_, ?_, fun j h1 h2 h3 => ?_⟩
  · show ((((S.setF 26 q (S.F 26 q + 1)).setI 13 v).setF 24 cnt (nI (zpl P (zx q) / 6))).setF 25 cnt (nI (q / 2))).F 24 = _
    rw [zFsn _ (by decide), zFsk]
    show upd ((S.setF 26 q (S.F 26 q + 1)).F 24) cnt _ = _
    rw [zFsn _ (by decide)]
  · show ((((S.setF 26 q (S.F 26 q + 1)).setI 13 v).setF 24 cnt (nI (zpl P (zx q) / 6))).setF 25 cnt (nI (q / 2))).F 25 = _
    rw [zFsk, zFsn _ (by decide)]
    show upd ((S.setF 26 q (S.F 26 q + 1)).F 25) cnt _ = _
    rw [zFsn _ (by decide)]
  · show ((((S.setF 26 q (S.F 26 q + 1)).setI 13 v).setF 24 cnt (nI (zpl P (zx q) / 6))).setF 25 cnt (nI (q / 2))).F 26 = _
    rw [zFsn _ (by decide), zFsn _ (by decide)]
    show (S.setF 26 q (S.F 26 q + 1)).F 26 = _
    rw [zFsk]
  · rfl
  · show ((((S.setF 26 q (S.F 26 q + 1)).setI 13 v).setF 24 cnt (nI (zpl P (zx q) / 6))).setF 25 cnt (nI (q / 2))).F j = _
    rw [zFsn _ h2, zFsn _ h1]
    show (S.setF 26 q (S.F 26 q + 1)).F j = _
    rw [zFsn _ h3]
/-- which end of link x bridge b is -/
theorem zends9 {P P' : ZS} {nb nl x b : Nat} (g : zGeo P P' nb nl) (hx : x < nl) (hb : b < nb) (S S' : ZS) : (¬ zinc (zAA P) (zBB P) x b ∧ fPL_portOf P S (nI b) (nI x) = -1 ∧ fMO_isEnd P' S' (nI b) (nI x) = 0) ∨ ∃ q b2, ((q = 2 * x ∧ zAA P x = b ∧ zBB P x = b2) ∨ (q = 2 * x + 1 ∧ zBB P x = b ∧ zAA P x = b2)) ∧ q < 2 * nl ∧ q / 2 = x ∧ b2 < nb ∧ zpl P (zx q) / 6 = b2 ∧ fPL_portOf P S (nI b) (nI x) = nI q ∧ fMO_isEnd P' S' (nI b) (nI x) = 1 ∧ ∀ X : ZS, fMO_end P' X (nI b) (nI x) = nI q ∧ fMO_other P' X (nI b) (nI x) = nI b2 := by
  have hn := g.nb
  have hn2 := g.nl
  have z2 : (2 : Int32) = nI 2 := by decide
  have z0 : (0 : Int32) = nI 0 := by decide
  have r0 : P'.F 0 = P.F 0 := g.2.1.2.2.1
  have r1 : P'.F 1 = P.F 1 := g.2.1.2.2.2.1
  obtain ⟨a1, a2, a3, a4, a5⟩ := g.1.2.2.2.2.2 x hx
  obtain ⟨p1, p2⟩ := g.2.2.1 x hx
  have fr : zr 0 5 (P.F 2 x) := g.1.2.2.2.2.1 x
  have rl : (P.F 2 x).toNatClampNeg < 6 := by
    have f1 := fr.1
    have f2 := fr.2
    show (P.F 2 x).toInt.toNat < 6
    omega
  have eA : P.F 0 x = nI (zAA P x) := znI a4
  have eB : P.F 1 x = nI (zBB P x) := znI a5
  have lA : zAA P x < nb := a1
  have lB : zBB P x < nb := a2
  have cx : (nI x).toNatClampNeg = x := nI_clamp (by omega)
  have port : fPL_portOf P S (nI b) (nI x) = if nI (zAA P x) = nI b then nI (2 * x) else if nI (zBB P x) = nI b then nI (2 * x + 1) else -1 := by
    rw [fPL_portOf]
    repeat rw [zl]
    rw [cx, z2, nI_mul, nI_1, eA, eB]
  have isE : fMO_isEnd P' S' (nI b) (nI x) = if nI (zAA P x) = nI b then 1 else if nI (zBB P x) = nI b then 1 else 0 := by
    rw [fMO_isEnd]
    repeat rw [zl]
    repeat rw [fMO_isEnd_20]
    rw [cx, r0, r1, eA, eB]
  have en : ∀ X : ZS, fMO_end P' X (nI b) (nI x) = if nI (zAA P x) = nI b then nI (2 * x) else nI (2 * x + 1) := fun X => by
    rw [fMO_end]
    repeat rw [zl]
    repeat rw [fMO_end_18]
    repeat rw [zl]
    rw [cx, r0, z2, nI_mul, nI_1, eA, Int32.add_zero]
  have ot : ∀ X : ZS, fMO_other P' X (nI b) (nI x) = if nI (zAA P x) = nI b then nI (zBB P x) else nI (zAA P x) := fun X => by
    rw [fMO_other]
    repeat rw [zl]
    rw [cx, r0, r1, eA, eB]
  have ab : ¬ zAA P x = zBB P x := fun e => a3 (by rw [eA, eB, e])
  by_cases c : zAA P x = b
  · have cc : nI (zAA P x) = nI b := by rw [c]
    refine Or.inr ⟨2 * x, zBB P x, Or.inl ⟨rfl, c, rfl⟩, by omega, by omega, lB, ?_, ?_, ?_, fun X => ⟨?_, ?_⟩⟩
    · have : zx (2 * x) = 2 * x + 1 := by unfold zx; omega
      rw [this, p2]
      show (6 * zBB P x + _) / 6 = zBB P x
      omega
    · rw [port, if_pos cc]
    · rw [isE, if_pos cc]
    · rw [en, if_pos cc]
    · rw [ot, if_pos cc]
  · have cc : ¬ nI (zAA P x) = nI b := fun e => c ((nI_eq (by omega) (by omega)).mp e)
    by_cases c2 : zBB P x = b
    · have cc2 : nI (zBB P x) = nI b := by rw [c2]
      refine Or.inr ⟨2 * x + 1, zAA P x, Or.inr ⟨rfl, c2, rfl⟩, by omega, by omega, lA, ?_, ?_, ?_, fun X => ⟨?_, ?_⟩⟩
      · have : zx (2 * x + 1) = 2 * x := by unfold zx; omega
        rw [this, p1]
        show (6 * zAA P x + _) / 6 = zAA P x
        omega
      · rw [port, if_neg cc, if_pos cc2]
      · rw [isE, if_neg cc, if_pos cc2]
      · rw [en, if_neg cc]
      · rw [ot, if_neg cc]
    · have cc2 : ¬ nI (zBB P x) = nI b := fun e => c2 ((nI_eq (by omega) (by omega)).mp e)
      refine Or.inl ⟨fun w => w.elim c c2, ?_, ?_⟩
      · rw [port, if_neg cc, if_neg cc2]
      · rw [isE, if_neg cc, if_neg cc2]
/-- on from one bridge, on both sides -/
theorem zgoon {P P' : ZS} {nb nl s b t : Nat} {h fl hs : Nat → Int32} {rk up : Nat → Nat} (g : zGeo P P' nb nl) (hr : ∀ l, l < nl ∧ zopn h l → (up (zAA P l) = l ∧ rk (zBB P l) < rk (zAA P l)) ∨ (up (zBB P l) = l ∧ rk (zAA P l) < rk (zBB P l))) (hf : ∀ l, l < nl → h (2 * l) &&& 1 = 0 → fl l = 0) (hb : b < nb) (rc' : ZS → Int32 → Int32 → Int32 → Int32 → Int32 → Int32 → (ZS × Int32)) (f to tg dl kn cm : Int32) (hto : ¬ hs to.toNatClampNeg = nI b) : ∀ (M x cnt : Nat) (sb sl pa : Nat → Nat) (S S' : ZS), x ≤ nl → nl - x < M → zFS P nb nl h cnt s sb sl pa S S' → zKp nb t h fl hs S S' → s < cnt → sb s = b → S.F 25 s = cm → (∀ i, 0 < i → i < cnt → pa i = s → sl i < x) →
    ∃ cnt2 sb2 sl2 pa2 S2', zfix (fun S9 _ _ _ _ _ _ _ _ _ => (S9, 0)) (fMO_send_249 P' rc') M S' f to tg dl (nI cnt) (nI s) (nI b) kn (nI x) = fMO_send_428 P' rc' S2' f to tg dl (nI cnt2) (nI s) ∧ zFS P nb nl h cnt2 s sb2 sl2 pa2 (zfix (fun S9 _ _ _ _ => S9) (fFR_goOn_3 P) M S (nI b) cm kn (nI x)) S2' ∧ zKp nb t h fl hs (zfix (fun S9 _ _ _ _ => S9) (fFR_goOn_3 P) M S (nI b) cm kn (nI x)) S2' ∧ s < cnt2 := by
  have hn := g.nb
  have hn2 := g.nl
  have n1 : ¬ (1 : Int32) = 0 := by decide
  have hP2 : P'.I 2 = nI nl := g.2.1.2.1.trans g.1.2.2.1
  intro M
  induction M with
  | zero => intro x cnt sb sl pa S S' h1 h2; omega
  | succ M ih =>
    intro x cnt sb sl pa S S' h1 h2 hF hK hsc hsb hcm nx
    rw [zfix_s, zfix_s]
    generalize zfix (fun S9 _ _ _ _ _ _ _ _ _ => (S9, 0)) (fMO_send_249 P' rc') M = rd' at ih ⊢
    generalize zfix (fun S9 _ _ _ _ => S9) (fFR_goOn_3 P) M = rd at ih ⊢
    obtain ⟨k1, k2, k3, k4, k5, k6, k7⟩ := hK
    have f36 : S'.F 36 s = cm := by rw [(hF.2.2.1 s hsc).2.1]; exact hcm
    have s48 : s < 48 := by have := hF.2.1.2; omega
    have e249 : fMO_send_249 P' rc' rd' S' f to tg dl (nI cnt) (nI s) (nI b) kn (nI x) = if nI nl ≤ nI x then fMO_send_428 P' rc' S' f to tg dl (nI cnt) (nI s) else if nI x = cm then rd' S' f to tg dl (nI cnt) (nI s) (nI b) kn (nI x + 1) else if kn = -1 ∨ nI x = kn then fMO_send_299 P' rc' rd' S' f to tg dl (nI cnt) (nI s) (nI b) kn (nI x) 1 else rd' S' f to tg dl (nI cnt) (nI s) (nI b) kn (nI x + 1) := by
      have sk : fMO_send_298 P' rc' rd' S' f to tg dl (nI cnt) (nI s) (nI b) kn (nI x) = rd' S' f to tg dl (nI cnt) (nI s) (nI b) kn (nI x + 1) := by
        rw [fMO_send_298, fMO_send_299, if_pos rfl, fMO_send_422]
        repeat rw [zl]
      rw [fMO_send_249]
      repeat rw [zl]
      rw [hP2, k5, nI_clamp (show s < 2 ^ 31 by omega), f36, if_neg hto, sk, fMO_send_294]
      by_cases c0 : nI nl ≤ nI x
      · rw [if_pos c0, if_pos c0]
      · rw [if_neg c0, if_neg c0]
        by_cases c1 : nI x = cm
        · rw [if_pos c1, if_pos c1]
        · rw [if_neg c1, if_neg c1]
          by_cases c2 : kn = -1
          · rw [if_pos c2, if_pos (Or.inl c2)]
          · rw [if_neg c2]
            by_cases c3 : nI x = kn
            · rw [if_pos c3, if_pos (Or.inr c3)]
            · rw [if_neg c3, if_neg (fun w => w.elim c2 c3)]
    have e3 : fFR_goOn_3 P rd S (nI b) cm kn (nI x) = if nI nl ≤ nI x then S else if fPL_portOf P S (nI b) (nI x) = -1 then rd S (nI b) cm kn (nI x + 1) else if kn = -1 ∨ nI x = kn then (if nI x = cm then rd S (nI b) cm kn (nI x + 1) else if fPR_isOpen P S (nI x) = 0 then rd S (nI b) cm kn (nI x + 1) else rd (fFR_goOver P S (fPL_portOf P S (nI b) (nI x))) (nI b) cm kn (nI x + 1)) else rd S (nI b) cm kn (nI x + 1) := by
      have e80 : ∀ X, fFR_goOn_80 P rd X (nI b) cm kn (nI x) = rd X (nI b) cm kn (nI x + 1) := fun X => by
        rw [fFR_goOn_80]
        repeat rw [zl]
      rw [fFR_goOn_3]
      repeat rw [zl]
      repeat rw [fFR_goOn_38]
      repeat rw [fFR_goOn_43]
      repeat rw [zl]
      repeat rw [e80]
      rw [g.1.2.2.1]
      by_cases c0 : nI nl ≤ nI x
      · rw [if_pos c0, if_pos c0]
      · rw [if_neg c0, if_neg c0]
        by_cases p0 : fPL_portOf P S (nI b) (nI x) = -1
        · rw [if_pos p0, if_pos p0, if_pos p0]
          split
          · rfl
          · split <;> rfl
        · rw [if_neg p0, if_neg p0, if_neg p0]
          by_cases c2 : kn = -1
          · rw [if_pos c2, if_pos (Or.inl c2), if_neg n1]
          · rw [if_neg c2]
            by_cases c3 : kn = nI x
            · rw [if_pos c3, if_pos (Or.inr c3.symm), if_neg n1]
            · rw [if_neg c3, if_pos rfl, if_neg (fun w => w.elim c2 (fun q => c3 q.symm))]
    rw [e249, e3]
    have nx' : ∀ i, 0 < i → i < cnt → pa i = s → sl i < x + 1 := fun i a b c => by
      have := nx i a b c
      omega
    have skip : x < nl → ∃ cnt2 sb2 sl2 pa2 S2', rd' S' f to tg dl (nI cnt) (nI s) (nI b) kn (nI x + 1) = fMO_send_428 P' rc' S2' f to tg dl (nI cnt2) (nI s) ∧ zFS P nb nl h cnt2 s sb2 sl2 pa2 (rd S (nI b) cm kn (nI x + 1)) S2' ∧ zKp nb t h fl hs (rd S (nI b) cm kn (nI x + 1)) S2' ∧ s < cnt2 := fun lt => by
      rw [nI_1]
      exact ih (x + 1) cnt sb sl pa S S' (by omega) (by omega) hF ⟨k1, k2, k3, k4, k5, k6, k7⟩ hsc hsb hcm nx'
    by_cases d : x = nl
    · have le : nI nl ≤ nI x := nI_le (by omega) (by omega)
      rw [if_pos le, if_pos le]
      exact ⟨cnt, sb, sl, pa, S', rfl, hF, ⟨k1, k2, k3, k4, k5, k6, k7⟩, hsc⟩
    · have hx : x < nl := by omega
      have m1 : x + 1 ≤ nl := by omega
      have m2 : nl - (x + 1) < M := by omega
      have le : ¬ nI nl ≤ nI x := nI_ge (by omega) (by omega)
      rw [if_neg le, if_neg le]
      rcases zends9 g hx hb S S' with ⟨nn, p0, i0⟩ | ⟨q, b2, hq, lq, q2, lb2, pl2, p1, i1, eo⟩
      · rw [if_pos p0]
        have e299 : fMO_send_299 P' rc' rd' S' f to tg dl (nI cnt) (nI s) (nI b) kn (nI x) 1 = rd' S' f to tg dl (nI cnt) (nI s) (nI b) kn (nI x + 1) := by
          rw [fMO_send_299, if_neg n1]
          rw [zl, i0, if_pos rfl, fMO_send_422]
          repeat rw [zl]
        rw [e299]
        simp only [ite_self]
        exact skip hx
      · have pn : ¬ fPL_portOf P S (nI b) (nI x) = -1 := by rw [p1]; exact nI_ne (by omega)
        rw [if_neg pn]
        by_cases c1 : nI x = cm
        · simp only [if_pos c1, ite_self]
          exact skip hx
        · simp only [if_neg c1]
          by_cases c2 : kn = -1 ∨ nI x = kn
          · simp only [if_pos c2]
            by_cases o : zopn h x
            · have oC : ¬ fPR_isOpen P S (nI x) = 0 := fun e => (zopC (by omega)).mp e (by rw [k1]; exact o)
              have oM : ¬ fMO_isOpen P' S' (nI x) = 0 := fun e => (zopM (by omega) (by rw [k2, k3]; exact hf x hx)).mp e (by rw [k2]; exact o)
              rw [if_neg oC, p1]
              obtain ⟨v12, v24, v25, v26, v13, vo⟩ := zgov (P := P) (S := S) g lq hF.1 (by have := hF.2.1.2; omega)
              generalize fFR_goOver P S (nI q) = T at v12 v24 v25 v26 v13 vo ⊢
              rw [pl2] at v24
              rw [q2] at v25
              have z4096 : (4096 : Int32) = nI 4096 := by decide
              have c48 : cnt ≤ 48 := by have := hF.2.1.2; omega
              -- the reference's step
              have e299 : ∃ T', fMO_send_299 P' rc' rd' S' f to tg dl (nI cnt) (nI s) (nI b) kn (nI x) 1 = rd' T' f to tg dl (nI (cnt + 1)) (nI s) (nI b) kn (nI x + 1) ∧ T'.F 35 = upd (S'.F 35) cnt (nI b2) ∧ T'.F 36 = upd (S'.F 36) cnt (nI x) ∧ T'.F 37 = upd (S'.F 37) q (S'.F 37 q + 1) ∧ T'.I 6 = (if S'.F 37 q + 1 ≤ S'.I 6 then S'.I 6 else S'.F 37 q + 1) ∧ (∀ j, j ≠ 35 → j ≠ 36 → j ≠ 37 → T'.F j = S'.F j) ∧ ∀ j, j ≠ 6 → T'.I j = S'.I j := by
                rw [fMO_send_299, if_neg n1]
                repeat rw [zl]
                rw [i1, if_neg n1, if_neg oM, z4096, if_neg (nI_ge (by omega) (by omega)), (eo S').2, nI_clamp (show cnt < 2 ^ 31 by omega)]
                repeat rw [(eo _).1]
                rw [nI_clamp (show q < 2 ^ 31 by omega), show nI cnt + 1 = nI (cnt + 1) by rw [nI_1]]
                repeat rw [fMO_send_419]
                repeat rw [zl]
                repeat rw [fMO_send_422]
                repeat rw [zl]
                have r37 : ((S'.setF 35 cnt (nI b2)).setF 36 cnt (nI x)).F 37 = S'.F 37 := by rw [zFsn _ (by decide), zFsn _ (by decide)]
                rw [zFsk, upd_at, r37]
                have r6 : (((S'.setF 35 cnt (nI b2)).setF 36 cnt (nI x)).setF 37 q (S'.F 37 q + 1)).I 6 = S'.I 6 := rfl
                rw [r6]
                have rows : ∀ v : Int32, ((((S'.setF 35 cnt (nI b2)).setF 36 cnt (nI x)).setF 37 q (S'.F 37 q + 1)).setI 6 v).F 35 = upd (S'.F 35) cnt (nI b2) ∧ ((((S'.setF 35 cnt (nI b2)).setF 36 cnt (nI x)).setF 37 q (S'.F 37 q + 1)).setI 6 v).F 36 = upd (S'.F 36) cnt (nI x) ∧ ((((S'.setF 35 cnt (nI b2)).setF 36 cnt (nI x)).setF 37 q (S'.F 37 q + 1)).setI 6 v).F 37 = upd (S'.F 37) q (S'.F 37 q + 1) ∧ (∀ j, j ≠ 35 → j ≠ 36 → j ≠ 37 → ((((S'.setF 35 cnt (nI b2)).setF 36 cnt (nI x)).setF 37 q (S'.F 37 q + 1)).setI 6 v).F j = S'.F j) ∧ ∀ j, j ≠ 6 → ((((S'.setF 35 cnt (nI b2)).setF 36 cnt (nI x)).setF 37 q (S'.F 37 q + 1)).setI 6 v).I j = S'.I j := fun v => by
                  refine ⟨?_, ?_, ?_, fun j j1 j2 j3 => ?_, fun j j1 => zIsn _ j1⟩
                  · show (((S'.setF 35 cnt (nI b2)).setF 36 cnt (nI x)).setF 37 q (S'.F 37 q + 1)).F 35 = _
                    rw [zFsn _ (by decide), zFsn _ (by decide), zFsk]
                  · show (((S'.setF 35 cnt (nI b2)).setF 36 cnt (nI x)).setF 37 q (S'.F 37 q + 1)).F 36 = _
                    rw [zFsn _ (by decide), zFsk, zFsn _ (by decide)]
                  · show (((S'.setF 35 cnt (nI b2)).setF 36 cnt (nI x)).setF 37 q (S'.F 37 q + 1)).F 37 = _
                    rw [zFsk, r37]
                  · show (((S'.setF 35 cnt (nI b2)).setF 36 cnt (nI x)).setF 37 q (S'.F 37 q + 1)).F j = _
                    rw [zFsn _ j3, zFsn _ j2, zFsn _ j1]
                by_cases c6 : S'.F 37 q + 1 ≤ S'.I 6
                · rw [if_pos c6, if_pos c6]
                  obtain ⟨w1, w2, w3, w4, w5⟩ := rows (S'.I 6)
                  exact ⟨_, rfl, w1, w2, w3, rfl, w4, w5⟩
                · rw [if_neg c6, if_neg c6]
                  obtain ⟨w1, w2, w3, w4, w5⟩ := rows (S'.F 37 q + 1)
                  exact ⟨_, rfl, w1, w2, w3, rfl, w4, w5⟩
              obtain ⟨T', e2, u35, u36, u37, u6, uo, ui⟩ := e299
              rw [e2, nI_1]
              have g26 : S'.F 37 q = S.F 26 q := hF.2.2.2.1 q (by omega)
              have g13 : S'.I 6 = S.I 13 := hF.2.2.2.2.1
              have u6' : T'.I 6 = T.I 13 := by
                rw [u6, v13, g26, g13]
                by_cases c : S.I 13 < S.F 26 q + 1
                · rw [if_pos c, if_neg (fun w => by
                    have w1 := Int32.lt_iff_toInt_lt.mp c
                    have w2 := Int32.le_iff_toInt_le.mp w
                    omega)]
                · rw [if_neg c, if_pos (by
                    apply Int32.le_iff_toInt_le.mpr
                    have w1 : ¬ (S.I 13).toInt < (S.F 26 q + 1).toInt := fun w => c (Int32.lt_iff_toInt_lt.mpr w)
                    omega)]
              have nF := zaddS g hr hF hsc hsb nx hx o (by rw [hcm]; exact fun e => c1 e.symm) hq v12 v24 v25 v26 u35 u36 u37 u6'
              refine ih (x + 1) (cnt + 1) _ _ _ T T' m1 m2 nF ⟨?_, ?_, ?_, ?_, ?_, ?_, ?_⟩ (by omega) ?_ ?_ (fun i i0 ic e => ?_)
              · rw [vo 14 (by decide) (by decide) (by decide)]; exact k1
              · rw [uo 10 (by decide) (by decide) (by decide)]; exact k2
              · rw [uo 7 (by decide) (by decide) (by decide)]; exact k3
              · rw [vo 23 (by decide) (by decide) (by decide)]; exact k4
              · rw [uo 22 (by decide) (by decide) (by decide)]; exact k5
              · rw [ui 4 (by decide)]; exact k6
              · exact k7.cg (fun k => vo _ (by omega) (by omega) (by omega)) (uo 20 (by decide) (by decide) (by decide)) (uo 21 (by decide) (by decide) (by decide))
              · rw [upd2_ne _ _ (by omega : ¬ s = cnt)]; exact hsb
              · rw [v25, upd_ne _ _ (by omega : ¬ s = cnt)]; exact hcm
              · by_cases ei : i = cnt
                · rw [ei, upd2_at]; omega
                · rw [upd2_ne _ _ ei] at e ⊢
                  exact nx' i i0 (by omega) e
            · have oC : fPR_isOpen P S (nI x) = 0 := (zopC (by omega)).mpr (by rw [k1]; exact o)
              have oM : fMO_isOpen P' S' (nI x) = 0 := (zopM (by omega) (by rw [k2, k3]; exact hf x hx)).mpr (by rw [k2]; exact o)
              have e299 : fMO_send_299 P' rc' rd' S' f to tg dl (nI cnt) (nI s) (nI b) kn (nI x) 1 = rd' S' f to tg dl (nI cnt) (nI s) (nI b) kn (nI x + 1) := by
                rw [fMO_send_299, if_neg n1]
                repeat rw [zl]
                rw [i1, if_neg n1, oM, if_pos rfl, fMO_send_422]
                repeat rw [zl]
              rw [if_pos oC, e299]
              exact skip hx
          · simp only [if_neg c2]
            exact skip hx

/-! a frame from its first bridge on, on both sides -/
theorem zFS.cg {P : ZS} {nb nl cnt s : Nat} {h : Nat → Int32} {sb sl pa : Nat → Nat} {S S' T T' : ZS} (f : zFS P nb nl h cnt s sb sl pa S S') (i12 : T.I 12 = S.I 12) (i13 : T.I 13 = S.I 13) (r24 : T.F 24 = S.F 24) (r25 : T.F 25 = S.F 25) (r26 : T.F 26 = S.F 26) (i6 : T'.I 6 = S'.I 6) (r35 : T'.F 35 = S'.F 35) (r36 : T'.F 36 = S'.F 36) (r37 : T'.F 37 = S'.F 37) : zFS P nb nl h cnt s sb sl pa T T' := by
  unfold zFS at *
  rw [i12, i13, r24, r25, r26, i6, r35, r36, r37]
  exact f
theorem zcarry {P P' : ZS} {nb nl t fh th tg : Nat} {h fl hs : Nat → Int32} {rk up : Nat → Nat} (g : zGeo P P' nb nl) (hr : ∀ l, l < nl ∧ zopn h l → (up (zAA P l) = l ∧ rk (zBB P l) < rk (zAA P l)) ∨ (up (zBB P l) = l ∧ rk (zAA P l) < rk (zBB P l))) (hf : ∀ l, l < nl → h (2 * l) &&& 1 = 0 → fl l = 0) (hfh : fh < 64) (hth : th < 64) (htg : tg < 4) (ht : t ≤ 20000) : ∀ (N s cnt : Nat) (sb sl pa : Nat → Nat) (S S' : ZS) (dl : Int32), 48 - s < N → s ≤ 48 → zFS P nb nl h cnt s sb sl pa S S' → (∀ i, 0 < i → i < cnt → pa i < s) → zKp nb t h fl hs S S' → ∀ M, 48 - s < M →
    ∃ T' dl', zfix (fun S9 _ _ _ _ _ _ => (S9, 0)) (fMO_send_141 P') M S' (nI fh) (nI th) (nI tg) dl (nI cnt) (nI s) = (T', dl') ∧ (zfix (fun S9 _ _ _ _ _ _ => (S9, 0)) (fFR_carry_35 P) N S (nI fh) (nI th) (nI tg) (nI t) dl (nI s)).2 = dl' ∧ zOv nb (zfix (fun S9 _ _ _ _ _ _ => (S9, 0)) (fFR_carry_35 P) N S (nI fh) (nI th) (nI tg) (nI t) dl (nI s)).1 T' ∧ T'.I 6 = (zfix (fun S9 _ _ _ _ _ _ => (S9, 0)) (fFR_carry_35 P) N S (nI fh) (nI th) (nI tg) (nI t) dl (nI s)).1.I 13 := by
  have hn := g.nb
  have hn2 := g.nl
  have z0 : (0 : Int32) = nI 0 := by decide
  have z64 : (64 : Int32) = nI 64 := by decide
  have z256 : (256 : Int32) = nI 256 := by decide
  have z400 : (400 : Int32) = nI 400 := by decide
  have n1 : ¬ (1 : Int32) = 0 := by decide
  have hP2 : P'.I 2 = nI nl := g.2.1.2.1.trans g.1.2.2.1
  have cth : (nI th).toNatClampNeg = th := nI_clamp (by omega)
  intro N
  induction N with
  | zero => intro s cnt sb sl pa S S' dl h1; omega
  | succ N ih =>
    intro s cnt sb sl pa S S' dl h1 h2 hF hp hK M hM
    obtain ⟨M2, eM⟩ : ∃ M2, M = M2 + 1 := ⟨M - 1, by omega⟩
    subst eM
    rw [zfix_s, zfix_s]
    generalize zfix (fun S9 _ _ _ _ _ _ => (S9, 0)) (fFR_carry_35 P) N = rc at ih ⊢
    have ihM := fun s cnt sb sl pa S S' dl a1 a2 a3 a4 a5 (a6 : 48 - s < M2) => ih s cnt sb sl pa S S' dl a1 a2 a3 a4 a5 M2 a6
    generalize zfix (fun S9 _ _ _ _ _ _ => (S9, 0)) (fMO_send_141 P') M2 = rc' at ihM ⊢
    have c48 : cnt ≤ 48 := by have := hF.2.1.2; omega
    have cs : (nI s).toNatClampNeg = s := nI_clamp (by omega)
    by_cases d : cnt ≤ s
    · have eM : fMO_send_141 P' rc' S' (nI fh) (nI th) (nI tg) dl (nI cnt) (nI s) = (S', dl) := by
        rw [fMO_send_141, if_pos (nI_le d (by omega))]
      have eC : fFR_carry_35 P rc S (nI fh) (nI th) (nI tg) (nI t) dl (nI s) = (S, dl) := by
        rw [fFR_carry_35]
        repeat rw [zl]
        rw [hF.1, z400, if_neg (nI_ge (by omega) (by omega)), if_pos (nI_le d (by omega)), fFR_carry_135]
      rw [eM, eC]
      exact ⟨S', dl, rfl, rfl, hK.2.2.2.2.2.2, hF.2.2.2.2.1⟩
    · have hsc : s < cnt := by omega
      obtain ⟨g35, g36, g24, lb, g25⟩ := hF.2.2.1 s hsc
      -- what both do once the bridge has learned
      have fin : ∀ X X' : ZS, zFS P nb nl h cnt s sb sl pa X X' → zKp nb t h fl hs X X' → X.F 25 s = S.F 25 s → ∃ T' dl', fMO_send_215 P' rc' X' (nI fh) (nI th) (nI tg) dl (nI cnt) (nI s) (nI (sb s)) = (T', dl') ∧ (fFR_carry_91 P rc X (nI fh) (nI th) (nI tg) (nI t) dl (nI s) (nI (sb s)) (S.F 25 s)).2 = dl' ∧ zOv nb (fFR_carry_91 P rc X (nI fh) (nI th) (nI tg) (nI t) dl (nI s) (nI (sb s)) (S.F 25 s)).1 T' ∧ T'.I 6 = (fFR_carry_91 P rc X (nI fh) (nI th) (nI tg) (nI t) dl (nI s) (nI (sb s)) (S.F 25 s)).1.I 13 := by
        intro X X' hX kX e25
        have kx := zknown (P := P) (P' := P') kX.2.2.2.2.2.2 lb hn htg hth kX.2.2.2.2.2.1
        rw [fMO_send_215, fFR_carry_91]
        repeat rw [zl]
        rw [kX.2.2.2.2.1, kX.2.2.2.1, cth]
        by_cases hd : hs th = nI (sb s)
        · have e9 : zfix (fun S9 _ _ _ _ _ _ _ _ _ => (S9, 0)) (fMO_send_249 P' rc') 61 X' (nI fh) (nI th) (nI tg) (dl + 1) (nI cnt) (nI s) (nI (sb s)) (fMO_known P' X' (nI (sb s)) (nI tg) (nI th)) 0 = rc' X' (nI fh) (nI th) (nI tg) (dl + 1) (nI cnt) (nI (s + 1)) := by
            rw [show (61 : Nat) = 60 + 1 from rfl, zfix_s, fMO_send_249]
            repeat rw [zl]
            rw [kX.2.2.2.2.1, cth, if_pos hd]
            repeat rw [fMO_send_428]
            repeat rw [zl]
            rw [nI_1]
            split <;> rfl
          rw [if_pos hd, if_pos hd.symm, fMO_send_243]
          repeat rw [zl]
          rw [e9, fFR_carry_129]
          repeat rw [zl]
          rw [nI_1]
          exact ihM (s + 1) cnt sb sl pa X X' (dl + 1) (by omega) (by omega) ⟨hX.1, hX.2.1, hX.2.2.1, hX.2.2.2.1, hX.2.2.2.2.1, hX.2.2.2.2.2.1, fun i a b => by have := hp i a b; omega⟩ (fun i a b => by have := hp i a b; omega) kX (by omega)
        · rw [if_neg hd, if_neg (fun e => hd e.symm), fMO_send_243, kx]
          repeat rw [zl]
          have ed : dl + 0 = dl := Int32.add_zero _
          rw [ed]
          obtain ⟨cnt2, sb2, sl2, pa2, S2', e1, e2, e3, e4⟩ := zgoon (t := t) (fl := fl) g hr hf lb rc' (nI fh) (nI th) (nI tg) dl (fMO_known P' X' (nI (sb s)) (nI tg) (nI th)) (S.F 25 s) (by rw [cth]; exact hd) 61 0 cnt sb sl pa X X' (Nat.zero_le _) (by omega) hX kX hsc rfl e25 (fun i a b c => by have := hp i a b; omega)
          rw [← z0] at e1 e2 e3
          have eg : fFR_goOn P X (nI (sb s)) (S.F 25 s) (fMO_known P' X' (nI (sb s)) (nI tg) (nI th)) = zfix (fun S9 _ _ _ _ => S9) (fFR_goOn_3 P) 61 X (nI (sb s)) (S.F 25 s) (fMO_known P' X' (nI (sb s)) (nI tg) (nI th)) 0 := by
            rw [fFR_goOn]
          rw [e1, eg]
          generalize zfix (fun S9 _ _ _ _ => S9) (fFR_goOn_3 P) 61 X (nI (sb s)) (S.F 25 s) (fMO_known P' X' (nI (sb s)) (nI tg) (nI th)) 0 = T at e2 e3 ⊢
          rw [fMO_send_428, fFR_carry_129]
          repeat rw [zl]
          rw [nI_1]
          exact ihM (s + 1) cnt2 sb2 sl2 pa2 T S2' dl (by omega) (by omega) ⟨e2.1, e2.2.1, e2.2.2.1, e2.2.2.2.1, e2.2.2.2.2.1, e2.2.2.2.2.2.1, fun i a b => by have := e2.2.2.2.2.2.2 i a b; omega⟩ (fun i a b => by have := e2.2.2.2.2.2.2 i a b; omega) e3 (by omega)
      have eM : fMO_send_141 P' rc' S' (nI fh) (nI th) (nI tg) dl (nI cnt) (nI s) = if S.F 25 s = -1 then fMO_send_215 P' rc' S' (nI fh) (nI th) (nI tg) dl (nI cnt) (nI s) (nI (sb s)) else fMO_send_215 P' rc' ((S'.setF 20 (256 * sb s + (64 * tg + fh)) (S.F 25 s)).setF 21 (256 * sb s + (64 * tg + fh)) (nI t)) (nI fh) (nI th) (nI tg) dl (nI cnt) (nI s) (nI (sb s)) := by
        rw [fMO_send_141]
        repeat rw [zl]
        rw [if_neg (nI_ge (by omega) (by omega)), cs, g35, g36, g24, z64, z256, nI_mul, nI_mul, nI_add, nI_add, nI_clamp (by omega), show 256 * sb s + 64 * tg + fh = 256 * sb s + (64 * tg + fh) by omega]
        have i4 : (S'.setF 20 (256 * sb s + (64 * tg + fh)) (S.F 25 s)).I 4 = nI t := hK.2.2.2.2.2.1
        rw [i4]
      have eC : fFR_carry_35 P rc S (nI fh) (nI th) (nI tg) (nI t) dl (nI s) = if S.F 25 s = -1 then fFR_carry_91 P rc S (nI fh) (nI th) (nI tg) (nI t) dl (nI s) (nI (sb s)) (S.F 25 s) else fFR_carry_91 P rc (fTA_learn P S (nI (sb s)) (nI tg) (nI fh) (S.F 25 s) (nI t)) (nI fh) (nI th) (nI tg) (nI t) dl (nI s) (nI (sb s)) (S.F 25 s) := by
        rw [fFR_carry_35]
        repeat rw [zl]
        rw [hF.1, z400, if_neg (nI_ge (by omega) (by omega)), if_neg (nI_ge (by omega) (by omega)), cs, g24]
      rw [eM, eC]
      rcases g25 with ⟨-, e⟩ | ⟨-, e, ll⟩
      · rw [if_pos e, if_pos e]
        exact fin S S' hF hK rfl
      · have ne : ¬ S.F 25 s = -1 := by rw [e]; exact nI_ne (by omega)
        rw [if_neg ne, if_neg ne]
        have ov := zlearn (P := P) (l := sl s) hK.2.2.2.2.2.2 hn lb htg hfh (by omega) ht
        rw [← e] at ov
        have qL := q_fTA_learn P S (nI (sb s)) (nI tg) (nI fh) (S.F 25 s) (nI t)
        refine fin _ _ (hF.cg (qL.1 12 (by decide)) (qL.1 13 (by decide)) (qL.2 24 (by decide)) (qL.2 25 (by decide)) (qL.2 26 (by decide)) rfl ?_ ?_ ?_) ⟨?_, ?_, ?_, ?_, ?_, ?_, ov⟩ ?_
        · rw [zFsn _ (by decide), zFsn _ (by decide)]
        · rw [zFsn _ (by decide), zFsn _ (by decide)]
        · rw [zFsn _ (by decide), zFsn _ (by decide)]
        · rw [qL.2 14 (by decide)]; exact hK.1
        · rw [zFsn _ (by decide), zFsn _ (by decide)]; exact hK.2.1
        · rw [zFsn _ (by decide), zFsn _ (by decide)]; exact hK.2.2.1
        · rw [qL.2 23 (by decide)]; exact hK.2.2.2.1
        · rw [zFsn _ (by decide), zFsn _ (by decide)]; exact hK.2.2.2.2.1
        · exact hK.2.2.2.2.2.1
        · rw [qL.2 25 (by decide)]

/-! send, on both sides, from a started state -/
theorem zs92 {P : ZS} {f to tg : Int32} : ∀ (n x : Nat) (S : ZS), x ≤ 120 → 120 - x < n → (∀ j, j < x → S.F 37 j = 0) → ∃ U, zfix (fun S9 _ _ _ _ => (S9, 0)) (fMO_send_92 P) n S f to tg (nI x) = zfix (fun S9 _ _ _ _ _ _ => (S9, 0)) (fMO_send_141 P) 4097 U f to tg 0 1 0 ∧ (∀ j, j < 120 → U.F 37 j = 0) ∧ U.F 35 = upd (S.F 35) 0 (S.F 22 f.toNatClampNeg) ∧ U.F 36 = upd (S.F 36) 0 (-1) ∧ (∀ j, j ≠ 35 → j ≠ 36 → j ≠ 37 → U.F j = S.F j) ∧ ∀ j, U.I j = S.I j := by
  have z120 : (120 : Int32) = nI 120 := by decide
  have c0 : (0 : Int32).toNatClampNeg = 0 := by decide
  intro n
  induction n with
  | zero => intro x S h1 h2; omega
  | succ n ih =>
    intro x S h1 h2 hz
    rw [zfix_s]
    generalize zfix (fun S9 _ _ _ _ => (S9, 0)) (fMO_send_92 P) n = rc at ih ⊢
    rw [fMO_send_92]
    repeat rw [zl]
    by_cases d : x = 120
    · rw [z120, if_pos (nI_le (by omega) (by omega)), c0]
      refine ⟨_, rfl, fun j hj => ?_, ?_, ?_, fun j h1 h2 h3 => ?_, fun j => rfl⟩
      · rw [zFsn _ (by decide), zFsn _ (by decide)]; exact hz j (by omega)
      · rw [zFsn _ (by decide), zFsk]
      · rw [zFsk, zFsn _ (by decide)]
      · rw [zFsn _ h2, zFsn _ h1]
    · rw [z120, if_neg (nI_ge (by omega) (by omega)), nI_clamp (by omega), nI_1]
      obtain ⟨U, e1, e2, e3, e4, e5, e6⟩ := ih (x + 1) (S.setF 37 x 0) (by omega) (by omega) (fun j hj => by
        rw [zFsk]
        by_cases e : j = x
        · rw [e, upd_at]
        · rw [upd_ne _ _ e]; exact hz j (by omega))
      refine ⟨U, e1, e2, ?_, ?_, fun j h1 h2 h3 => ?_, e6⟩
      · rw [e3, zFsn _ (by decide), zFsn _ (by decide)]
      · rw [e4, zFsn _ (by decide)]
      · rw [e5 j h1 h2 h3, zFsn _ h3]
theorem zsend9 {P P' S S' : ZS} {nb nl t fh th tg b : Nat} {rk up : Nat → Nat} (g : zGeo P P' nb nl) (hr : ∀ l, l < nl ∧ zopn (S.F 14) l → (up (zAA P l) = l ∧ rk (zBB P l) < rk (zAA P l)) ∨ (up (zBB P l) = l ∧ rk (zAA P l) < rk (zBB P l))) (hf : ∀ l, l < nl → S.F 14 (2 * l) &&& 1 = 0 → S'.F 7 l = 0) (hfh : fh < 64) (hth : th < 64) (htg : tg < 4) (ht : t ≤ 20000) (e10 : S'.F 10 = S.F 14) (e22 : S'.F 22 = S.F 23) (e4 : S'.I 4 = nI t) (ov : zOv nb S S') (hb : b < nb) (eb : S.F 23 fh = nI b) :
    ∃ T' v, zfix (fun S9 _ _ _ _ => (S9, 0)) (fMO_send_92 P') 121 (S'.setI 6 0) (nI fh) (nI th) (nI tg) 0 = (T', v) ∧ (fFR_carry P S (nI fh) (nI th) (nI tg) (nI t)).2 = v ∧ zOv nb (fFR_carry P S (nI fh) (nI th) (nI tg) (nI t)).1 T' ∧ T'.I 6 = (fFR_carry P S (nI fh) (nI th) (nI tg) (nI t)).1.I 13 := by
  have hn := g.nb
  have z0 : (0 : Int32) = nI 0 := by decide
  have z1 : (1 : Int32) = nI 1 := by decide
  have z400 : (400 : Int32) = nI 400 := by decide
  have c0 : (0 : Int32).toNatClampNeg = 0 := by decide
  have cf : (nI fh).toNatClampNeg = fh := nI_clamp (by omega)
  obtain ⟨U, u1, u37, u35, u36, uo, ui⟩ := zs92 (P := P') (f := nI fh) (to := nI th) (tg := nI tg) 121 0 (S'.setI 6 0) (by omega) (by omega) (fun j hj => absurd hj (Nat.not_lt_zero _))
  have u1' : zfix (fun S9 _ _ _ _ => (S9, 0)) (fMO_send_92 P') 121 (S'.setI 6 0) (nI fh) (nI th) (nI tg) 0 = zfix (fun S9 _ _ _ _ _ _ => (S9, 0)) (fMO_send_141 P') 4097 U (nI fh) (nI th) (nI tg) 0 1 0 := by
    rw [← u1, ← z0]
  rw [u1']
  rw [fFR_carry]
  repeat rw [zl]
  have f23 : (((S.row 26 (fun _ => 0)).setI 13 0).setI 12 0).F 23 = S.F 23 := rfl
  have i12 : (((S.row 26 (fun _ => 0)).setI 13 0).setI 12 0).I 12 = 0 := rfl
  rw [f23, cf, fFR_addStep]
  repeat rw [zl]
  rw [i12, if_neg (by decide), c0]
  obtain ⟨Y, eY⟩ : ∃ Y, Y = (((((S.row 26 (fun _ => 0)).setI 13 0).setI 12 0).setF 24 0 (S.F 23 fh)).setF 25 0 (-1)).setI 12 (0 + 1) := ⟨_, rfl⟩
  have y24 : Y.F 24 0 = nI b := by
    rw [eY]
    show (((((S.row 26 (fun _ => 0)).setI 13 0).setI 12 0).setF 24 0 (S.F 23 fh)).setF 25 0 (-1)).F 24 0 = nI b
    rw [zFsn _ (by decide), zFsk, upd_at]
    exact eb
  have y25 : Y.F 25 0 = -1 := by
    rw [eY]
    show (((((S.row 26 (fun _ => 0)).setI 13 0).setI 12 0).setF 24 0 (S.F 23 fh)).setF 25 0 (-1)).F 25 0 = -1
    rw [zFsk, upd_at]
  have yo : ∀ j, j ≠ 24 → j ≠ 25 → Y.F j = (S.row 26 (fun _ => 0)).F j := fun j h1 h2 => by
    rw [eY]
    show (((((S.row 26 (fun _ => 0)).setI 13 0).setI 12 0).setF 24 0 (S.F 23 fh)).setF 25 0 (-1)).F j = _
    rw [zFsn _ h2, zFsn _ h1]
    rfl
  have y12 : Y.I 12 = nI 1 := by
    rw [eY]
    show (0 + 1 : Int32) = nI 1
    decide
  have y13 : Y.I 13 = 0 := by rw [eY]; rfl
  rw [← eY]
  clear eY
  have r26 : (S.row 26 (fun _ => 0)).F 26 = fun _ => 0 := rfl
  have ro : ∀ j, j ≠ 26 → (S.row 26 (fun _ => 0)).F j = S.F j := fun j hj => if_neg hj
  have hF : zFS P nb nl (S.F 14) 1 0 (fun _ => b) (fun _ => 0) (fun _ => 0) Y U := by
    refine ⟨y12, ⟨by omega, by omega⟩, fun i hi => ?_, fun q hq => ?_, ?_, ⟨fun i a c => by omega, fun i j a c d => by omega⟩, fun i a c => by omega⟩
    · have e : i = 0 := by omega
      subst e
      rw [u35, u36]
      refine ⟨?_, ?_, y24, hb, Or.inl ⟨rfl, y25⟩⟩
      · rw [upd_at, cf]
        show S'.F 22 fh = _
        rw [e22]
        exact eb.trans y24.symm
      · rw [upd_at]
        exact y25.symm
    · rw [u37 q hq, yo 26 (by decide) (by decide), r26]
    · rw [ui 6, y13]
      rfl
  have hK : zKp nb t (S.F 14) (S'.F 7) (S.F 23) Y U := by
    refine ⟨?_, ?_, ?_, ?_, ?_, ?_, ?_⟩
    · rw [yo 14 (by decide) (by decide), ro 14 (by decide)]
    · rw [uo 10 (by decide) (by decide) (by decide)]; exact e10
    · rw [uo 7 (by decide) (by decide) (by decide)]; rfl
    · rw [yo 23 (by decide) (by decide), ro 23 (by decide)]
    · rw [uo 22 (by decide) (by decide) (by decide)]; exact e22
    · rw [ui 4]; exact e4
    · exact ov.cg (fun k => by rw [yo _ (by omega) (by omega), ro _ (by omega)]) (uo 20 (by decide) (by decide) (by decide)) (uo 21 (by decide) (by decide) (by decide))
  have k := zcarry (h := S.F 14) (fl := S'.F 7) (hs := S.F 23) g hr hf hfh hth htg ht 402 0 1 (fun _ => b) (fun _ => 0) (fun _ => 0) Y U 0 (by omega) (by omega) hF (fun i a c => by omega) hK 4097 (by omega)
  rw [← z0, ← z1] at k
  exact k

/-! ticks, on both sides -/
theorem zGp_of {P : ZS} {nb nl : Nat} {S T : ZS} (h : zGp P nb nl S) (h1 : T.F 27 = S.F 27) (h2 : T.F 14 = S.F 14) (h3 : T.I 6 = S.I 6) (h4 : T.I 14 = S.I 14) : zGp P nb nl T := by
  unfold zGp
  rw [h1, h2, h3, h4]
  exact h
theorem zadd0 (x : Int32) : x + 0 = x := Int32.add_zero x
theorem zcirc {P : ZS} {nb nl : Nat} (hp : zPn P nb nl) (S : ZS) (hG : S.I 11 = 0 → zGp P nb nl S) : (fRG_countCircle P S).I 7 = S.I 7 + zif (zcc P (S.F 14) nb nl) ∧ zGp P nb nl (fRG_countCircle P S) := by
  have key : ∀ X : ZS, zGp P nb nl X → X.F 14 = S.F 14 → X.I 7 = S.I 7 → (fRG_countCircle_22 P X).I 7 = S.I 7 + zif (zcc P (S.F 14) nb nl) ∧ zGp P nb nl (fRG_countCircle_22 P X) := by
    intro X hX x14 x7
    have e6 := hX.2.1
    rw [x14] at e6
    rw [fRG_countCircle_22]
    repeat rw [zl]
    rw [e6]
    by_cases w : zcc P (S.F 14) nb nl
    · rw [zif_t w, if_neg (by decide)]
      refine ⟨?_, zGp_of hX rfl rfl (zIsn _ (by decide)) (zIsn _ (by decide))⟩
      show X.I 7 + 1 = _
      rw [x7]
    · rw [zif_f w, if_pos rfl, zadd0]
      exact ⟨x7, hX⟩
  rw [fRG_countCircle]
  repeat rw [zl]
  by_cases c : S.I 11 = 0
  · rw [if_pos c]
    exact key S (hG c) rfl rfl
  · rw [if_neg c]
    have q := q_fRG_groupByOpenLinks P S
    exact key _ (zGp_of (zgrp hp S) rfl rfl (zIsn _ (by decide)) (zIsn _ (by decide))) (q.2 14 (by decide)) ((zIsn _ (by decide)).trans (q.1 7 (by decide)))
abbrev zfl9 : List Nat := [11, 12, 13, 14, 15, 16, 17, 18, 19, 20, 21, 22, 28]
abbrev zfr9 : List Nat := [8, 9, 10, 11, 12, 13, 14, 17, 18, 19, 20, 21, 23, 24, 25, 26, 27]
/-- frames, where what was learned is not compared -/
theorem zC.fl {no : Nat} {tk : Prop} {c : Int32} {m K : Nat} {S S' T : ZS} {ws fs : List Nat} (h : zC no tk c m K S S') (f : zfr 28 ws fs S T) (q : ∀ x ∈ zfl9, x ∉ fs) (q9 : 9 ∉ ws) (q10 : 10 ∉ ws) : zC no tk c m K T S' := by
  have row : ∀ x ∈ zfl9, T.F x = S.F x := fun x hx => f.2 x (by rw [Nat.min_eq_left ((show ∀ y ∈ zfl9, y ≤ 28 by decide) x hx)]; exact q x hx)
  refine ⟨⟨fun p hp => ?_, by rw [f.1 9 q9]; exact h.1.2⟩, h.2.1.cg (row 11 (by decide)) (row 12 (by decide)) rfl rfl rfl rfl, h.2.2.1.cg (fun k => f.2 (28 + k) (by rw [Nat.min_eq_right (Nat.le_add_right 28 k)]; exact q 28 (by decide))) rfl rfl, ?_⟩
  · rw [row p.2 ((show ∀ y ∈ zprs, y.2 ∈ zfl9 by decide) p hp)]
    exact h.1.1 p hp
  · obtain ⟨e, a, b, d, g⟩ := h.2.2.2
    exact ⟨e, a, b, by rw [f.1 9 q9, f.1 10 q10]; exact d, g⟩
theorem zC.fr {no : Nat} {c : Int32} {m K : Nat} {S S' T' : ZS} {ws fs : List Nat} (h : zC no False c m K S S') (f : zfr 100 ws fs S' T') (q : ∀ x ∈ zfr9, x ∉ fs) (q5 : 5 ∉ ws) : zC no False c m K S T' := by
  have row : ∀ x ∈ zfr9, T'.F x = S'.F x := fun x hx => f.2 x (by rw [Nat.min_eq_left (Nat.le_trans ((show ∀ y ∈ zfr9, y ≤ 28 by decide) x hx) (by decide))]; exact q x hx)
  refine ⟨⟨fun p hp => ?_, by rw [f.1 5 q5]; exact h.1.2⟩, h.2.1.cg rfl rfl (row 24 (by decide)) (row 25 (by decide)) (row 26 (by decide)) (row 27 (by decide)), h.2.2.1.cg (fun k => rfl) (row 20 (by decide)) (row 21 (by decide)), ?_⟩
  · rw [row p.1 ((show ∀ y ∈ zprs, y.1 ∈ zfr9 by decide) p hp)]
    exact h.1.1 p hp
  · obtain ⟨e, a, b, d, g⟩ := h.2.2.2
    exact ⟨e, a, b, d, fun w => w.elim⟩
/-- the states of the two sides between two calls, from the start on -/
def zY (nb nl n t : Nat) (P S S' : ZS) : Prop := S.I 3 = nI t ∧ S'.I 4 = S.I 3 ∧ S'.I 9 = S.I 7 ∧ S'.F 22 = S.F 23 ∧ (∃ c m K, zC nb False c m K S S') ∧ zIS P nb nl S S' ∧ zBd P n t 0 0 S ∧ (S.I 11 = 0 → zGp P nb nl S)
noncomputable def zT1 (P S : ZS) : ZS := if S.I 10 + S.I 9 = S.I 5 then S else S.setI 4 0
noncomputable def zT2 (P S : ZS) : ZS := fPR_turnAll P (fPR_arriveAll P ((zT1 P S).setI 3 ((zT1 P S).I 3 + 1)))
noncomputable def zTC (P S : ZS) : ZS := fRG_countApart P (fRG_countCircle P (((zT2 P S).setI 5 ((zT2 P S).I 10 + (zT2 P S).I 9)).setI 4 (if (zT2 P S).I 10 + (zT2 P S).I 9 = S.I 10 + S.I 9 then (zT2 P S).I 4 + 1 else 0)))
theorem ztk_C (P : ZS) (rc : ZS → Int32 → Int32 → (ZS × Int32)) (S : ZS) (n i : Int32) (h : ¬ n ≤ i) : fRG_ticks_50 P rc S n i = rc (zTC P S) n (i + 1) := by
  have e73 : ∀ X, fRG_ticks_73 P rc X n i (S.I 10 + S.I 9) = rc (fRG_countApart P (fRG_countCircle P (((fPR_turnAll P (fPR_arriveAll P (X.setI 3 (X.I 3 + 1)))).setI 5 ((fPR_turnAll P (fPR_arriveAll P (X.setI 3 (X.I 3 + 1)))).I 10 + (fPR_turnAll P (fPR_arriveAll P (X.setI 3 (X.I 3 + 1)))).I 9)).setI 4 (if (fPR_turnAll P (fPR_arriveAll P (X.setI 3 (X.I 3 + 1)))).I 10 + (fPR_turnAll P (fPR_arriveAll P (X.setI 3 (X.I 3 + 1)))).I 9 = S.I 10 + S.I 9 then (fPR_turnAll P (fPR_arriveAll P (X.setI 3 (X.I 3 + 1)))).I 4 + 1 else 0)))) n (i + 1) := fun X => by
    rw [fRG_ticks_73]
    repeat rw [zl]
    rw [fRG_countStirs]
    repeat rw [zl]
    generalize fPR_turnAll P (fPR_arriveAll P (X.setI 3 (X.I 3 + 1))) = T
    repeat rw [fRG_ticks_124]
    repeat rw [zl]
    have e4 : (T.setI 5 (T.I 10 + T.I 9)).I 4 = T.I 4 := zIsn _ (by decide)
    rw [e4]
    by_cases c : T.I 10 + T.I 9 = S.I 10 + S.I 9
    · rw [if_pos c, if_pos c]
    · rw [if_neg c, if_neg c]
  rw [fRG_ticks_50, if_neg h]
  repeat rw [zl]
  have es : fRG_countStirs P S = S.I 10 + S.I 9 := by
    rw [fRG_countStirs]
    repeat rw [zl]
  rw [es, e73, e73]
  unfold zTC zT2 zT1
  by_cases c : S.I 10 + S.I 9 = S.I 5
  · rw [if_pos c, if_pos c]
  · rw [if_neg c, if_neg c]
theorem zt136 (P U : ZS) (y : Int32) : ∃ v, fMO_tick_136 P U y = (fMO_look P (U.setI 7 y)).setI 10 v := by
  rw [fMO_tick_136]
  repeat rw [zl]
  generalize fMO_look P (U.setI 7 y) = X
  repeat rw [fMO_tick_182]
  repeat rw [fMO_tick_183]
  repeat rw [zl]
  split
  · exact ⟨_, rfl⟩
  · split
    · exact ⟨_, rfl⟩
    · split
      · exact ⟨_, rfl⟩
      · exact ⟨_, rfl⟩
theorem zt1_fr (P S : ZS) : (zT1 P S).F = S.F ∧ ∀ t, t ≠ 4 → (zT1 P S).I t = S.I t := by
  unfold zT1
  split
  · exact ⟨rfl, fun _ _ => rfl⟩
  · exact ⟨rfl, fun t ht => zIsn _ ht⟩
theorem zC.r8 {no : Nat} {c : Int32} {m K : Nat} {S S' : ZS} (h : zC no False c m K S S') (v : Int32) : zC no False c m K S (S'.setI 8 v) := by
  refine ⟨h.1.ri (by decide), h.2.1, h.2.2.1, ?_⟩
  obtain ⟨e, a, b, d, g⟩ := h.2.2.2
  exact ⟨e, a, b, d, fun w => w.elim⟩
theorem zY.tick {P P' : ZS} {nb nl n t : Nat} {S S' : ZS} (g : zGeo P P' nb nl) (hY : zY nb nl n t P S S') (h3 : S'.I 3 = 0) (ht : t < 20000) (hn9 : n ≤ 1000) : zY nb nl n (t + 1) P (zTC P S) (fMO_tick P' S') ∧ (fMO_tick P' S').I 3 = 0 := by
  obtain ⟨y1, y2, y3, y4, ⟨c, m, K, hC⟩, hI, hBd, hG⟩ := hY
  obtain ⟨f1, f2⟩ := zt1_fr P S
  -- before the casts arrive
  have kX : zC nb False c m K ((zT1 P S).setI 3 ((zT1 P S).I 3 + 1)) ((S'.setI 4 (S'.I 4 + 1)).setI 8 0) := by
    refine zC.r8 ?_ 0
    have k0 : zC nb False c m K (zT1 P S) S' := by
      unfold zT1
      split
      · exact hC
      · exact hC.li (by decide) (by decide)
    exact (k0.li (by decide) (by decide)).ri (by decide) (by decide)
  have iX : zIS P nb nl ((zT1 P S).setI 3 ((zT1 P S).I 3 + 1)) ((S'.setI 4 (S'.I 4 + 1)).setI 8 0) := by
    refine zI_of hI ?_ rfl rfl rfl
    show (zT1 P S).F 14 = _
    rw [f1]
  have bX : zBd P n t 0 0 ((zT1 P S).setI 3 ((zT1 P S).I 3 + 1)) := by
    refine hBd.cg (fun q _ => ?_)
    show (zT1 P S).F q = _
    rw [f1]
  have x3 : ((zT1 P S).setI 3 ((zT1 P S).I 3 + 1)).I 3 = nI (t + 1) := by
    show (zT1 P S).I 3 + 1 = _
    rw [f2 3 (by decide), y1, nI_1]
  have x7 : ((zT1 P S).setI 3 ((zT1 P S).I 3 + 1)).I 7 = S.I 7 := (zIsn _ (by decide)).trans (f2 7 (by decide))
  have x6 : ((zT1 P S).setI 3 ((zT1 P S).I 3 + 1)).I 6 = S.I 6 := (zIsn _ (by decide)).trans (f2 6 (by decide))
  have x11 : ((zT1 P S).setI 3 ((zT1 P S).I 3 + 1)).I 11 = S.I 11 := (zIsn _ (by decide)).trans (f2 11 (by decide))
  have x14 : ((zT1 P S).setI 3 ((zT1 P S).I 3 + 1)).I 14 = S.I 14 := (zIsn _ (by decide)).trans (f2 14 (by decide))
  have xF : ((zT1 P S).setI 3 ((zT1 P S).I 3 + 1)).F = S.F := f1
  have eT : fMO_tick P' S' = zfix (fun S9 _ => S9) (fMO_tick_21 P') 121 (fMO_turn P' ((S'.setI 4 (S'.I 4 + 1)).setI 8 0)) 0 := by
    rw [fMO_tick]
    repeat rw [zl]
  have eZ : zTC P S = fRG_countApart P (fRG_countCircle P (((fPR_turnAll P (fPR_arriveAll P ((zT1 P S).setI 3 ((zT1 P S).I 3 + 1)))).setI 5 ((fPR_turnAll P (fPR_arriveAll P ((zT1 P S).setI 3 ((zT1 P S).I 3 + 1)))).I 10 + (fPR_turnAll P (fPR_arriveAll P ((zT1 P S).setI 3 ((zT1 P S).I 3 + 1)))).I 9)).setI 4 (if (fPR_turnAll P (fPR_arriveAll P ((zT1 P S).setI 3 ((zT1 P S).I 3 + 1)))).I 10 + (fPR_turnAll P (fPR_arriveAll P ((zT1 P S).setI 3 ((zT1 P S).I 3 + 1)))).I 9 = S.I 10 + S.I 9 then (fPR_turnAll P (fPR_arriveAll P ((zT1 P S).setI 3 ((zT1 P S).I 3 + 1)))).I 4 + 1 else 0))) := rfl
  rw [eT, eZ]
  have w3 : ((S'.setI 4 (S'.I 4 + 1)).setI 8 0).I 3 = 0 := h3
  have w4 : ((S'.setI 4 (S'.I 4 + 1)).setI 8 0).I 4 = nI (t + 1) := by
    show S'.I 4 + 1 = _
    rw [y2, y1, nI_1]
  have w9 : ((S'.setI 4 (S'.I 4 + 1)).setI 8 0).I 9 = S.I 7 := y3
  have w22 : ((S'.setI 4 (S'.I 4 + 1)).setI 8 0).F 22 = S.F 23 := y4
  generalize (zT1 P S).setI 3 ((zT1 P S).I 3 + 1) = X at kX iX bX x3 x7 x6 x11 x14 xF ⊢
  generalize (S'.setI 4 (S'.I 4 + 1)).setI 8 0 = X' at kX iX w3 w4 w9 w22 ⊢
  obtain ⟨U1, eU1, kU1, iU1, bU1, zU1⟩ := kX.arrs g iX bX
  obtain ⟨U, eU, kU, iU, bU, zU⟩ := kU1.turns g (by omega) hn9 iU1 bU1
  rw [eU1, eU]
  have zz := zU1.t zU
  have qA := q_fPR_arriveAll P X
  have qT := q_fPR_turnAll P (fPR_arriveAll P X)
  have hA := hc_fPR_arriveAll P X
  have hT := hc_fPR_turnAll P (fPR_arriveAll P X)
  have t3 : (fPR_turnAll P (fPR_arriveAll P X)).I 3 = nI (t + 1) := by rw [qT.1 3 (by decide), qA.1 3 (by decide)]; exact x3
  have t7 : (fPR_turnAll P (fPR_arriveAll P X)).I 7 = S.I 7 := by rw [qT.1 7 (by decide), qA.1 7 (by decide)]; exact x7
  have t6 : (fPR_turnAll P (fPR_arriveAll P X)).I 6 = S.I 6 := by rw [qT.1 6 (by decide), qA.1 6 (by decide)]; exact x6
  have t14 : (fPR_turnAll P (fPR_arriveAll P X)).I 14 = S.I 14 := by rw [qT.1 14 (by decide), qA.1 14 (by decide)]; exact x14
  have t23 : (fPR_turnAll P (fPR_arriveAll P X)).F 23 = S.F 23 := by rw [qT.2 23 (by decide), qA.2 23 (by decide), xF]
  have t27 : (fPR_turnAll P (fPR_arriveAll P X)).F 27 = S.F 27 := by rw [qT.2 27 (by decide), qA.2 27 (by decide), xF]
  have tG : (fPR_turnAll P (fPR_arriveAll P X)).I 11 = 0 → zGp P nb nl (fPR_turnAll P (fPR_arriveAll P X)) := fun e => by
    obtain ⟨e1, e2⟩ := hT e
    obtain ⟨e3, e4⟩ := hA e1
    rw [x11] at e3
    exact zGp_of (hG e3) t27 (by rw [e2, e4, xF]) t6 t14
  generalize fPR_turnAll P (fPR_arriveAll P X) = T at kU iU bU t3 t7 t6 t14 t23 t27 tG ⊢
  have u3 : U.I 3 = 0 := (zz.1 3 (by decide)).trans w3
  have u4 : U.I 4 = nI (t + 1) := (zz.1 4 (by decide)).trans w4
  have u9 : U.I 9 = S.I 7 := (zz.1 9 (by decide)).trans w9
  have u22 : U.F 22 = S.F 23 := zz.2.trans w22
  -- the class counts
  generalize (if T.I 10 + T.I 9 = S.I 10 + S.I 9 then T.I 4 + 1 else 0) = v4
  have kW : zC nb False c m (K + 960 * (2 * nl) + 84 * nb) ((T.setI 5 (T.I 10 + T.I 9)).setI 4 v4) U := (kU.li (by decide) (by decide)).li (by decide) (by decide)
  obtain ⟨c7, cG⟩ := zcirc g.1 ((T.setI 5 (T.I 10 + T.I 9)).setI 4 v4) (fun e => zGp_of (tG (show T.I 11 = 0 from e)) rfl rfl ((zIsn _ (by decide)).trans (zIsn _ (by decide))) ((zIsn _ (by decide)).trans (zIsn _ (by decide))))
  have c7' : (fRG_countCircle P ((T.setI 5 (T.I 10 + T.I 9)).setI 4 v4)).I 7 = S.I 7 + zif (zcc P (T.F 14) nb nl) := by
    rw [c7]
    show T.I 7 + _ = _
    rw [t7]
    rfl
  have qC := q_fRG_countCircle P ((T.setI 5 (T.I 10 + T.I 9)).setI 4 v4)
  have c3 : (fRG_countCircle P ((T.setI 5 (T.I 10 + T.I 9)).setI 4 v4)).I 3 = nI (t + 1) := (qC.1 3 (by decide)).trans t3
  have c23 : (fRG_countCircle P ((T.setI 5 (T.I 10 + T.I 9)).setI 4 v4)).F 23 = S.F 23 := (qC.2 23 (by decide)).trans t23
  have c14 : (fRG_countCircle P ((T.setI 5 (T.I 10 + T.I 9)).setI 4 v4)).F 14 = T.F 14 := qC.2 14 (by decide)
  have kC := kW.fl qC (by decide) (by decide) (by decide)
  have bC : zBd P n (t + 1) 0 0 (fRG_countCircle P ((T.setI 5 (T.I 10 + T.I 9)).setI 4 v4)) := ((zBd_tick bU).I.I).fr qC (by decide)
  generalize fRG_countCircle P ((T.setI 5 (T.I 10 + T.I 9)).setI 4 v4) = W at c7' cG c3 c23 c14 kC bC ⊢
  have qP := q_fRG_countApart P W
  have kP := kC.fl qP (by decide) (by decide) (by decide)
  have p3 : (fRG_countApart P W).I 3 = nI (t + 1) := (qP.1 3 (by decide)).trans c3
  have p7 : (fRG_countApart P W).I 7 = S.I 7 + zif (zcc P (T.F 14) nb nl) := (qP.1 7 (by decide)).trans c7'
  have p23 : (fRG_countApart P W).F 23 = S.F 23 := (qP.2 23 (by decide)).trans c23
  have p14 : (fRG_countApart P W).F 14 = T.F 14 := (qP.2 14 (by decide)).trans c14
  have pG : zGp P nb nl (fRG_countApart P W) := zGp_of cG (qP.2 27 (by decide)) (qP.2 14 (by decide)) (qP.1 6 (by decide)) (qP.1 14 (by decide))
  have pB : zBd P n (t + 1) 0 0 (fRG_countApart P W) := bC.fr qP (by decide)
  generalize fRG_countApart P W = Z at kP p3 p7 p23 p14 pG pB ⊢
  -- the reference looks
  have eF : ∃ y v, zfinM P' U = (fMO_look P' (U.setI 7 y)).setI 10 v := by
    unfold zfinM
    split
    · exact ⟨_, zt136 P' U _⟩
    · exact ⟨_, zt136 P' U _⟩
  obtain ⟨y, v, eF⟩ := eF
  rw [eF]
  have h10 : U.F 10 = T.F 14 := kU.g 10 14 (by decide)
  have lk := zlook g.1 g.2.1 (U.setI 7 y) u3 (fun l hl e => by
    have w := iU.1 (2 * l) (by omega)
    rw [show 2 * l / 2 = l by omega] at w
    exact w.mp (by rw [← h10]; exact e))
  have qL := q_fMO_look P' (U.setI 7 y)
  have l9 : (fMO_look P' (U.setI 7 y)).I 9 = S.I 7 + zif (zcc P (T.F 14) nb nl) := by
    rw [lk.1]
    show U.I 9 + zif (zcc P (U.F 10) nb nl) = _
    rw [u9, h10]
  have l3 : (fMO_look P' (U.setI 7 y)).I 3 = 0 := (qL.1 3 (by decide)).trans u3
  have l4 : (fMO_look P' (U.setI 7 y)).I 4 = nI (t + 1) := (qL.1 4 (by decide)).trans u4
  have l22 : (fMO_look P' (U.setI 7 y)).F 22 = S.F 23 := (qL.2 22 (by decide)).trans u22
  have kL := (kP.ri (t := 7) (v := y) (by decide) (by decide)).fr qL (by decide) (by decide)
  have iL : zIS P nb nl Z (fMO_look P' (U.setI 7 y)) := zI_of iU p14 (qL.2 7 (by decide)) (qL.2 15 (by decide)) (qL.2 16 (by decide))
  generalize fMO_look P' (U.setI 7 y) = L at l9 l3 l4 l22 kL iL ⊢
  refine ⟨⟨p3, ?_, ?_, ?_, ⟨c, m, _, kL.ri (by decide) (by decide)⟩, iL, pB, fun _ => pG⟩, l3⟩
  · show L.I 4 = _
    rw [l4, p3]
  · show L.I 9 = _
    rw [l9, p7]
  · show L.F 22 = _
    rw [l22, p23]
/-- so many ticks -/
theorem zticks {P P' : ZS} {nb nl n c : Nat} (g : zGeo P P' nb nl) (hn9 : n ≤ 1000) (hc : c ≤ 200) : ∀ (N M i t : Nat) (S S' : ZS), i ≤ c → c - i < N → c - i < M → zY nb nl n t P S S' → S'.I 3 = 0 → t + (c - i) ≤ 20000 →
    ∃ T T' : ZS, zfix (fun S9 _ _ => (S9, 0)) (fRG_ticks_50 P) N S (nI c) (nI i) = (T, T.I 3) ∧ zfix (fun S9 _ _ => (S9, 0)) (fMO_ticks_52 P') M S' (nI c) (nI i) = (T', T'.I 4) ∧ zY nb nl n (t + (c - i)) P T T' ∧ T'.I 3 = 0 := by
  intro N
  induction N with
  | zero => intro M i t S S' h1 h2; omega
  | succ N ih =>
    intro M i t S S' h1 h2 h2' hY h3 ht
    obtain ⟨M2, eM⟩ : ∃ M2, M = M2 + 1 := ⟨M - 1, by omega⟩
    rw [eM, zfix_s, zfix_s]
    have ih' := ih M2
    generalize zfix (fun S9 _ _ => (S9, 0)) (fRG_ticks_50 P) N = rc at ih' ⊢
    generalize zfix (fun S9 _ _ => (S9, 0)) (fMO_ticks_52 P') M2 = rc' at ih' ⊢
    by_cases d : i = c
    · rw [fRG_ticks_50, fMO_ticks_52, if_pos (nI_le (by omega) (by omega)), if_pos (nI_le (by omega) (by omega)), zl, zl]
      refine ⟨S, S', rfl, rfl, ?_, h3⟩
      rw [show t + (c - i) = t by omega]
      exact hY
    · rw [ztk_C P rc S _ _ (nI_ge (by omega) (by omega)), fMO_ticks_52, if_neg (nI_ge (by omega) (by omega)), zl, zl, nI_1]
      obtain ⟨k1, k2⟩ := hY.tick g h3 (by omega) hn9
      obtain ⟨T, T', e1, e2, e3, e4⟩ := ih' (i + 1) (t + 1) _ _ (by omega) (by omega) (by omega) k1 k2 (by omega)
      rw [show t + 1 + (c - (i + 1)) = t + (c - i) by omega] at e3
      exact ⟨T, T', e1, e2, e3, e4⟩

/-! the relation between two calls -/
abbrev zr0C : List Nat := [12, 13, 14, 15, 16, 17, 18, 19, 20, 21, 22]
abbrev zr0M : List Nat := [7, 8, 9, 10, 11, 12, 13, 14, 15, 16, 17, 18, 19, 23]
/-- nothing has happened yet -/
def zFC (S : ZS) : Prop := (∀ x ∈ zr0C, S.F x = fun _ => 0) ∧ S.I 3 = 0 ∧ S.I 7 = 0 ∧ S.I 9 = 0 ∧ S.I 11 = 1 ∧ ∀ b, S.F (28 + b) = fun _ => -1
def zFM (S : ZS) : Prop := (∀ x ∈ zr0M, S.F x = fun _ => 0) ∧ S.I 4 = 0 ∧ S.I 5 = 0 ∧ S.I 9 = 0 ∧ S.F 20 = fun _ => -1
def zXr (n : Nat) (P S P' S' : ZS) : Prop := ∃ nb nl t, zPn P nb nl ∧ zplace P nl ∧ t ≤ 20000 ∧ ((P.I 2 = 0 ∧ (∀ j, P'.F 6 j = -1) ∧ zFC S ∧ zFM S' ∧ S'.F 22 = S.F 23) ∨ (¬ P.I 2 = 0 ∧ zGeo P P' nb nl ∧ zY nb nl n t P S S'))
theorem zY.up {nb nl n n2 t : Nat} {P S S' : ZS} (h : zY nb nl n t P S S') (hn : n ≤ n2) : zY nb nl n2 t P S S' := by
  obtain ⟨a, b, c, d, e, f, g, k⟩ := h
  exact ⟨a, b, c, d, e, f, g.upn hn, k⟩
theorem zXr.up {n n2 : Nat} {P S P' S' : ZS} (h : zXr n P S P' S') (hn : n ≤ n2) : zXr n2 P S P' S' := by
  obtain ⟨nb, nl, t, a, b, c, d⟩ := h
  refine ⟨nb, nl, t, a, b, c, ?_⟩
  rcases d with d | ⟨d, e, f⟩
  · exact Or.inl d
  · exact Or.inr ⟨d, e, f.up hn⟩
/-- calls that leave what is compared -/
theorem zXr.fr9 {n : Nat} {P S P' S' T T' : ZS} {ws fs ws' fs' : List Nat} (h : zXr n P S P' S') (fC : zfr 28 ws fs S T) (fM : zfr 100 ws' fs' S' T') (c1 : ∀ x ∈ [11, 12, 13, 14, 15, 16, 17, 18, 19, 20, 21, 22, 27, 28], x ∉ fs) (c2 : ∀ x ∈ [3, 6, 7, 9, 10, 11, 14], x ∉ ws) (d1 : ∀ x ∈ [7, 8, 9, 10, 11, 12, 13, 14, 15, 16, 17, 18, 19, 20, 21, 23, 24, 25, 26, 27], x ∉ fs') (d2 : ∀ x ∈ [4, 5, 9], x ∉ ws') (hh : S'.F 22 = S.F 23 → T'.F 22 = T.F 23) : zXr (n + 1) P T P' T' := by
  have rC : ∀ x ∈ [11, 12, 13, 14, 15, 16, 17, 18, 19, 20, 21, 22, 27, 28], T.F x = S.F x := fun x hx => fC.2 x (by rw [Nat.min_eq_left ((show ∀ y ∈ [11, 12, 13, 14, 15, 16, 17, 18, 19, 20, 21, 22, 27, 28], y ≤ 28 by decide) x hx)]; exact c1 x hx)
  have rM : ∀ x ∈ [7, 8, 9, 10, 11, 12, 13, 14, 15, 16, 17, 18, 19, 20, 21, 23, 24, 25, 26, 27], T'.F x = S'.F x := fun x hx => fM.2 x (by rw [Nat.min_eq_left (Nat.le_trans ((show ∀ y ∈ [7, 8, 9, 10, 11, 12, 13, 14, 15, 16, 17, 18, 19, 20, 21, 23, 24, 25, 26, 27], y ≤ 28 by decide) x hx) (by decide))]; exact d1 x hx)
  have iC : ∀ x ∈ [3, 6, 7, 9, 10, 11, 14], T.I x = S.I x := fun x hx => fC.1 x (c2 x hx)
  have iM : ∀ x ∈ [4, 5, 9], T'.I x = S'.I x := fun x hx => fM.1 x (d2 x hx)
  obtain ⟨nb, nl, t, a, b, c, d⟩ := h
  refine ⟨nb, nl, t, a, b, c, ?_⟩
  rcases d with ⟨d, e, f, g, k⟩ | ⟨d, e, f⟩
  · refine Or.inl ⟨d, e, ⟨fun x hx => ?_, ?_, ?_, ?_, ?_, fun b9 => ?_⟩, ⟨fun x hx => ?_, ?_, ?_, ?_, ?_⟩, ?_⟩
    · rw [rC x ((show ∀ y ∈ zr0C, y ∈ [11, 12, 13, 14, 15, 16, 17, 18, 19, 20, 21, 22, 27, 28] by decide) x hx)]
      exact f.1 x hx
    · rw [iC 3 (by decide)]; exact f.2.1
    · rw [iC 7 (by decide)]; exact f.2.2.1
    · rw [iC 9 (by decide)]; exact f.2.2.2.1
    · rw [iC 11 (by decide)]; exact f.2.2.2.2.1
    · rw [fC.2 (28 + b9) (by rw [Nat.min_eq_right (Nat.le_add_right 28 b9)]; exact c1 28 (by decide))]; exact f.2.2.2.2.2 b9
    · rw [rM x ((show ∀ y ∈ zr0M, y ∈ [7, 8, 9, 10, 11, 12, 13, 14, 15, 16, 17, 18, 19, 20, 21, 23, 24, 25, 26, 27] by decide) x hx)]
      exact g.1 x hx
    · rw [iM 4 (by decide)]; exact g.2.1
    · rw [iM 5 (by decide)]; exact g.2.2.1
    · rw [iM 9 (by decide)]; exact g.2.2.2.1
    · rw [rM 20 (by decide)]; exact g.2.2.2.2
    · exact hh k
  · obtain ⟨y1, y2, y3, y4, ⟨c9, m, K, hC⟩, hI, hBd, hG⟩ := f
    refine Or.inr ⟨d, e, ?_, ?_, ?_, ?_, ⟨c9, m, K, ?_⟩, ?_, ?_, fun e9 => ?_⟩
    · rw [iC 3 (by decide)]; exact y1
    · rw [iM 4 (by decide), iC 3 (by decide)]; exact y2
    · rw [iM 9 (by decide), iC 7 (by decide)]; exact y3
    · exact hh y4
    · exact (hC.fl fC (fun x hx => c1 x ((show ∀ y ∈ zfl9, y ∈ [11, 12, 13, 14, 15, 16, 17, 18, 19, 20, 21, 22, 27, 28] by decide) x hx)) (c2 9 (by decide)) (c2 10 (by decide))).fr fM (fun x hx => d1 x ((show ∀ y ∈ zfr9, y ∈ [7, 8, 9, 10, 11, 12, 13, 14, 15, 16, 17, 18, 19, 20, 21, 23, 24, 25, 26, 27] by decide) x hx)) (d2 5 (by decide))
    · exact zI_of hI (rC 14 (by decide)) (rM 7 (by decide)) (rM 15 (by decide)) (rM 16 (by decide))
    · refine (hBd.upn (by omega)).cg (fun q hq => rC q ((show ∀ y ∈ zbr, y ∈ [11, 12, 13, 14, 15, 16, 17, 18, 19, 20, 21, 22, 27, 28] by decide) q hq))
    · rw [iC 11 (by decide)] at e9
      exact zGp_of (hG e9) (rC 27 (by decide)) (rC 14 (by decide)) (iC 6 (by decide)) (iC 14 (by decide))
theorem zXr.fr {n : Nat} {P S P' S' T T' : ZS} {ws fs ws' fs' : List Nat} (h : zXr n P S P' S') (fC : zfr 28 ws fs S T) (fM : zfr 100 ws' fs' S' T') (c1 : ∀ x ∈ [11, 12, 13, 14, 15, 16, 17, 18, 19, 20, 21, 22, 27, 28], x ∉ fs) (c2 : ∀ x ∈ [3, 6, 7, 9, 10, 11, 14], x ∉ ws) (d1 : ∀ x ∈ [7, 8, 9, 10, 11, 12, 13, 14, 15, 16, 17, 18, 19, 20, 21, 23, 24, 25, 26, 27], x ∉ fs') (d2 : ∀ x ∈ [4, 5, 9], x ∉ ws') (c3 : min 23 28 ∉ fs) (d3 : min 22 100 ∉ fs') : zXr (n + 1) P T P' T' := h.fr9 fC fM c1 c2 d1 d2 (fun e => by rw [fM.2 22 d3, fC.2 23 c3]; exact e)
theorem zXr.s3 {n : Nat} {P S P' S' : ZS} (h : zXr n P S P' S') (v : Int32) : zXr (n + 1) P S P' (S'.setI 3 v) := h.fr (ws := []) (fs := []) (ws' := [3]) (fs' := []) zfr.rf (zfr.I zfr.rf (by decide)) (by decide) (by decide) (by decide) (by decide) (by decide) (by decide)
theorem zgoOk (P S : ZS) (t : Int32) (h : ¬ t = 0) : fMO_goes P S 1 t = (S.setI 3 0, 1) := by
  unfold fMO_goes fMO_goes_18
  rw [if_neg (by decide), if_neg h]
  simp only [zl]
  rw [if_pos (by decide)]
theorem zlookx {P S : ZS} (h : ¬ S.I 3 ≤ 0) : fMO_look P S = S := by
  rw [fMO_look, zl, if_neg h]
theorem zst_ok {P S : ZS} (d : ¬ P.I 2 = 0) : fRG_requireStarted P S = .ok () := by
  rw [fRG_requireStarted, zl, if_neg d]
theorem zst_er {P S : ZS} (d : P.I 2 = 0) : fRG_requireStarted P S = .error 2 := by
  rw [fRG_requireStarted, zl, if_pos d]
/-- a number that a check let through -/
theorem zlN {x : Int32} {n : Nat} (hn : n < 2 ^ 31) (h0 : 0 ≤ x.toInt) (h1 : x.toInt < (nI n).toInt) : ∃ l, l < n ∧ x = nI l := by
  rw [nI_toInt hn] at h1
  obtain ⟨v, lv, ev⟩ := zge (x := x) (n := n) ⟨h0, by omega⟩
  refine ⟨v, ?_, ev⟩
  rw [ev, nI_toInt (by omega)] at h1
  omega
/-- what a call answers on both sides, and what then holds -/
def zAns (n : Nat) (P P' S' : ZS) (a : Except Nat (ZS × Int32)) (b : ZS × Int32) : Prop := (∃ k v, a = .error k ∧ (k = 1 ∨ k = 2) ∧ b = (S'.setI 3 (if k = 1 then 1 else 2), v)) ∨ ∃ T T' v, a = .ok (T, v) ∧ b = (T', v) ∧ T'.I 3 = 0 ∧ zXr (n + 1) P T P' T'
/-- both sides count circles behind a call -/
theorem zlooks {P P' : ZS} {nb nl n t : Nat} {T T' : ZS} (g : zGeo P P' nb nl) (t3 : T.I 3 = nI t) (u3 : T'.I 3 = 0) (u4 : T'.I 4 = T.I 3) (u9 : T'.I 9 = T.I 7) (u22 : T'.F 22 = T.F 23) (hC : ∃ c m K, zC nb False c m K T T') (hI : zIS P nb nl T T') (hBd : zBd P n t 0 0 T) (hG : T.I 11 = 0 → zGp P nb nl T) : zY nb nl n t P (fRG_countCircle P T) (fMO_look P' T') ∧ (fMO_look P' T').I 3 = 0 := by
  obtain ⟨c, m, K, hC⟩ := hC
  obtain ⟨c7, cG⟩ := zcirc g.1 T hG
  have h10 : T'.F 10 = T.F 14 := hC.g 10 14 (by decide)
  have lk := zlook g.1 g.2.1 T' u3 (fun l hl e => by
    have w := hI.1 (2 * l) (by omega)
    rw [show 2 * l / 2 = l by omega] at w
    exact w.mp (by rw [← h10]; exact e))
  have qC := q_fRG_countCircle P T
  have qL := q_fMO_look P' T'
  refine ⟨⟨?_, ?_, ?_, ?_, ⟨c, m, K, (hC.fl qC (by decide) (by decide) (by decide)).fr qL (by decide) (by decide)⟩, ?_, hBd.fr qC (by decide), fun _ => cG⟩, ?_⟩
  · rw [qC.1 3 (by decide)]; exact t3
  · rw [qL.1 4 (by decide), qC.1 3 (by decide)]; exact u4
  · rw [lk.1, c7, u9, h10]
  · rw [qL.2 22 (by decide), qC.2 23 (by decide)]; exact u22
  · exact zI_of hI (qC.2 14 (by decide)) (qL.2 7 (by decide)) (qL.2 15 (by decide)) (qL.2 16 (by decide))
  · rw [qL.1 3 (by decide)]; exact u3
/-- fail -/
theorem zd_fail {n : Nat} {P P' S S' : ZS} (h : zIv P P') (hT : zXr n P S P' S') (hn : n ≤ 600) (x0 : Int32) : zAns n P P' S' (fRG_fail P S x0) (fMO_fail P' S' x0) := by
  have hs := h.2.2.2.1
  have n1 : ¬ (1 : Int32) = 0 := by decide
  rcases zqL h.2.2.1 S S' x0 with ⟨a1, c1⟩ | ⟨a1, c1, g0, g1⟩
  · refine Or.inl ⟨1, 0, ?_, Or.inl rfl, ?_⟩
    · unfold fRG_fail; rw [c1]; rfl
    · unfold fMO_fail fMO_fail_25
      simp only [zl, zl2]
      rw [a1, zgoF0, if_pos rfl, zlookx (S := S'.setI 3 1) (show ¬ (1 : Int32) ≤ 0 by decide)]
      rfl
  · by_cases d : P.I 2 = 0
    · refine Or.inl ⟨2, 0, ?_, Or.inr rfl, ?_⟩
      · unfold fRG_fail; rw [c1]
        show zbind (fRG_requireStarted P S) _ = _
        rw [zst_er d]; rfl
      · unfold fMO_fail fMO_fail_25
        simp only [zl, zl2]
        rw [a1, hs, d, zgoF1, if_pos rfl, zlookx (S := S'.setI 3 2) (show ¬ (2 : Int32) ≤ 0 by decide)]
        rfl
    · obtain ⟨nb, nl, t, hp, hpl, ht, hx⟩ := hT
      rcases hx with ⟨d9, -⟩ | ⟨-, g, hY⟩
      · exact absurd d9 d
      · obtain ⟨y1, y2, y3, y4, ⟨c, m, K, hC⟩, hI, hBd, hG⟩ := hY
        have hn2 := g.nl
        rw [hp.2.2.1] at g1
        obtain ⟨l, hl, rfl⟩ := zlN (by omega) g0 g1
        have eC : fRG_fail P S (nI l) = .ok (if fPR_hasFailed P S (nI l) = 0 then fRG_fail_30 P (fPR_breakLink P S (nI l)) (fPR_hasFailed P S (nI l)) else fRG_fail_30 P S (fPR_hasFailed P S (nI l))) := by
          unfold fRG_fail
          rw [c1]
          show zbind (fRG_requireStarted P S) _ = _
          rw [zst_ok d]
          rfl
        have eM : fMO_fail P' S' (nI l) = if S'.F 7 l = 0 then zfix (fun S9 _ _ => (S9, 0)) (fMO_fail_50 P') 3 (((S'.setI 3 0).setF 7 l 1).setF 8 l (((S'.setI 3 0).setF 7 l 1).F 8 l + 1)) (nI l) 0 else (fMO_look P' (S'.setI 3 0), 0) := by
          unfold fMO_fail fMO_fail_25
          simp only [zl, zl2]
          rw [a1, zgoOk P' S' _ (by rw [hs]; exact d), if_neg n1, nI_clamp (by omega)]
          rfl
        have hf : fPR_hasFailed P S (nI l) = 0 ↔ S'.F 7 l = 0 := by
          have w := hI.1 (2 * l) (by omega)
          rw [show 2 * l / 2 = l by omega] at w
          have z2 : (2 : Int32) = nI 2 := by decide
          rw [fPR_hasFailed, zl, zl, z2, nI_mul, zdn P S (by omega)]
          exact w
        rw [eC, eM]
        have kS : zC nb False c m K S (S'.setI 3 0) := hC.ri (by decide) (by decide)
        by_cases b : S'.F 7 l = 0
        · rw [if_pos (hf.mpr b), if_pos b, hf.mpr b]
          obtain ⟨v, lv, ev⟩ := zge (n := n) (hBd 19 l)
          obtain ⟨U', e1, e2, e3, e4, e5⟩ := kS.brk (fun q => q) g (zI_of hI rfl rfl rfl rfl) hBd hl (show v + 1 ≤ 32767 by omega) (by omega) (by rw [ev, nI_1])
          rw [e1]
          have qB := q_fPR_breakLink P S (nI l)
          have hc := hc_fPR_breakLink P S (nI l)
          have uI : ∀ q, q ∉ [5, 8, 11, 12, 13, 14] → U'.I q = (S'.setI 3 0).I q := e5.1
          have uF : U'.F 22 = S'.F 22 := e5.2
          obtain ⟨k1, k2⟩ := zlooks (n := n + 1) (t := t) (T := fPR_breakLink P S (nI l)) (T' := U'.setI 7 0) g (by rw [qB.1 3 (by decide)]; exact y1) (uI 3 (by decide)) (by
            show U'.I 4 = _
            rw [uI 4 (by decide), qB.1 3 (by decide)]
            exact y2) (by
            show U'.I 9 = _
            rw [uI 9 (by decide), qB.1 7 (by decide)]
            exact y3) (by
            show U'.F 22 = _
            rw [uF, qB.2 23 (by decide)]
            exact y4) ⟨c, m + 2, K + 26, e2.ri (by decide) (by decide)⟩ e3 e4 (fun e9 => by
            obtain ⟨w1, w2⟩ := hc e9
            exact zGp_of (hG w1) (qB.2 27 (by decide)) w2 (qB.1 6 (by decide)) (qB.1 14 (by decide)))
          refine Or.inr ⟨fRG_countCircle P (fPR_breakLink P S (nI l)), fMO_look P' (U'.setI 7 0), 1, ?_, rfl, k2, ⟨nb, nl, t, hp, hpl, ht, Or.inr ⟨d, g, k1⟩⟩⟩
          rw [fRG_fail_30, zl, if_pos rfl]
        · have b' : ¬ fPR_hasFailed P S (nI l) = 0 := fun e => b (hf.mp e)
          rw [if_neg b', if_neg b]
          obtain ⟨k1, k2⟩ := zlooks (n := n + 1) (t := t) (T := S) (T' := S'.setI 3 0) g y1 rfl y2 y3 y4 ⟨c, m, K, kS⟩ (zI_of hI rfl rfl rfl rfl) (hBd.upn (by omega)) hG
          refine Or.inr ⟨fRG_countCircle P S, fMO_look P' (S'.setI 3 0), 0, ?_, rfl, k2, ⟨nb, nl, t, hp, hpl, ht, Or.inr ⟨d, g, k1⟩⟩⟩
          rw [fRG_fail_30, zl, if_neg b']
/-- heal -/
theorem zd_heal {n : Nat} {P P' S S' : ZS} (h : zIv P P') (hT : zXr n P S P' S') (hn : n ≤ 600) (x0 : Int32) : zAns n P P' S' (fRG_heal P S x0) (fMO_heal P' S' x0) := by
  have hs := h.2.2.2.1
  have n1 : ¬ (1 : Int32) = 0 := by decide
  rcases zqL h.2.2.1 S S' x0 with ⟨a1, c1⟩ | ⟨a1, c1, g0, g1⟩
  · refine Or.inl ⟨1, 0, ?_, Or.inl rfl, ?_⟩
    · unfold fRG_heal; rw [c1]; rfl
    · unfold fMO_heal fMO_heal_25
      simp only [zl, zl2]
      rw [a1, zgoF0, if_pos rfl, zlookx (S := S'.setI 3 1) (show ¬ (1 : Int32) ≤ 0 by decide)]
      rfl
  · by_cases d : P.I 2 = 0
    · refine Or.inl ⟨2, 0, ?_, Or.inr rfl, ?_⟩
      · unfold fRG_heal; rw [c1]
        show zbind (fRG_requireStarted P S) _ = _
        rw [zst_er d]; rfl
      · unfold fMO_heal fMO_heal_25
        simp only [zl, zl2]
        rw [a1, hs, d, zgoF1, if_pos rfl, zlookx (S := S'.setI 3 2) (show ¬ (2 : Int32) ≤ 0 by decide)]
        rfl
    · obtain ⟨nb, nl, t, hp, hpl, ht, hx⟩ := hT
      rcases hx with ⟨d9, -⟩ | ⟨-, g, hY⟩
      · exact absurd d9 d
      · obtain ⟨y1, y2, y3, y4, ⟨c, m, K, hC⟩, hI, hBd, hG⟩ := hY
        have hn2 := g.nl
        rw [hp.2.2.1] at g1
        obtain ⟨l, hl, rfl⟩ := zlN (by omega) g0 g1
        have eC : fRG_heal P S (nI l) = .ok (if fPR_hasFailed P S (nI l) = 0 then fRG_heal_30 P S (fPR_hasFailed P S (nI l)) else fRG_heal_30 P (fPR_mendLink P S (nI l)) (fPR_hasFailed P S (nI l))) := by
          unfold fRG_heal
          rw [c1]
          show zbind (fRG_requireStarted P S) _ = _
          rw [zst_ok d]
          rfl
        have eM : fMO_heal P' S' (nI l) = if S'.F 7 l = 0 then (fMO_look P' (S'.setI 3 0), 0) else (fMO_look P' ((fMO_ends P' (fMO_ends P' ((S'.setI 3 0).setF 7 l 0) (P'.F 0 l) (nI l) 1) (P'.F 1 l) (nI l) 1).setI 7 0), 1) := by
          unfold fMO_heal fMO_heal_25
          simp only [zl, zl2]
          rw [a1, zgoOk P' S' _ (by rw [hs]; exact d), if_neg n1, nI_clamp (by omega)]
          rfl
        have z2 : (2 : Int32) = nI 2 := by decide
        have hf : fPR_hasFailed P S (nI l) = 0 ↔ S'.F 7 l = 0 := by
          have w := hI.1 (2 * l) (by omega)
          rw [show 2 * l / 2 = l by omega] at w
          rw [fPR_hasFailed, zl, zl, z2, nI_mul, zdn P S (by omega)]
          exact w
        have h01 : ¬ fPR_hasFailed P S (nI l) = 0 → fPR_hasFailed P S (nI l) = 1 := fun e => by
          have w : ∀ X x, fPR_isDown P X x = 0 ∨ fPR_isDown P X x = 1 := fun X x => by
            rw [fPR_isDown]
            repeat rw [zl]
            split
            · exact Or.inl rfl
            · exact Or.inr rfl
          rw [fPR_hasFailed, zl, zl] at e ⊢
          exact (w _ _).resolve_left e
        rw [eC, eM]
        have kS : zC nb False c m K S (S'.setI 3 0) := hC.ri (by decide) (by decide)
        by_cases b : S'.F 7 l = 0
        · rw [if_pos (hf.mpr b), if_pos b, hf.mpr b]
          obtain ⟨k1, k2⟩ := zlooks (n := n + 1) (t := t) (T := S) (T' := S'.setI 3 0) g y1 rfl y2 y3 y4 ⟨c, m, K, kS⟩ (zI_of hI rfl rfl rfl rfl) (hBd.upn (by omega)) hG
          refine Or.inr ⟨fRG_countCircle P S, fMO_look P' (S'.setI 3 0), 0, ?_, rfl, k2, ⟨nb, nl, t, hp, hpl, ht, Or.inr ⟨d, g, k1⟩⟩⟩
          rw [fRG_heal_30, zl]
        · have b' : ¬ fPR_hasFailed P S (nI l) = 0 := fun e => b (hf.mp e)
          rw [if_neg b', if_neg b, h01 b']
          obtain ⟨k5, i5, b5⟩ := kS.mnd (fun q => q) g (zI_of hI rfl rfl rfl rfl) hBd hl
          have qB := q_fPR_mendLink P S (nI l)
          have hc := hc_fPR_mendLink P S (nI l)
          have q6 := q_fMO_ends P' ((S'.setI 3 0).setF 7 l 0) (P'.F 0 l) (nI l) 1
          have q7 := q_fMO_ends P' (fMO_ends P' ((S'.setI 3 0).setF 7 l 0) (P'.F 0 l) (nI l) 1) (P'.F 1 l) (nI l) 1
          have uI : ∀ q, (fMO_ends P' (fMO_ends P' ((S'.setI 3 0).setF 7 l 0) (P'.F 0 l) (nI l) 1) (P'.F 1 l) (nI l) 1).I q = (S'.setI 3 0).I q := fun q => by
            rw [q7.1 q (by simp), q6.1 q (by simp)]; rfl
          have uF : (fMO_ends P' (fMO_ends P' ((S'.setI 3 0).setF 7 l 0) (P'.F 0 l) (nI l) 1) (P'.F 1 l) (nI l) 1).F 22 = S'.F 22 := by
            rw [q7.2 22 (by decide), q6.2 22 (by decide), zFsn _ (by decide)]; rfl
          generalize fMO_ends P' (fMO_ends P' ((S'.setI 3 0).setF 7 l 0) (P'.F 0 l) (nI l) 1) (P'.F 1 l) (nI l) 1 = U' at k5 i5 uI uF ⊢
          obtain ⟨k1, k2⟩ := zlooks (n := n + 1) (t := t) (T := fPR_mendLink P S (nI l)) (T' := U'.setI 7 0) g (by rw [qB.1 3 (by decide)]; exact y1) (uI 3) (by
            show U'.I 4 = _
            rw [uI 4, qB.1 3 (by decide)]
            exact y2) (by
            show U'.I 9 = _
            rw [uI 9, qB.1 7 (by decide)]
            exact y3) (by
            show U'.F 22 = _
            rw [uF, qB.2 23 (by decide)]
            exact y4) ⟨c, m + 2, K + 2, k5.ri (by decide) (by decide)⟩ i5 (b5.upn (by omega)) (fun e9 => by
            obtain ⟨w1, w2⟩ := hc e9
            exact zGp_of (hG w1) (qB.2 27 (by decide)) w2 (qB.1 6 (by decide)) (qB.1 14 (by decide)))
          refine Or.inr ⟨fRG_countCircle P (fPR_mendLink P S (nI l)), fMO_look P' (U'.setI 7 0), 1, ?_, rfl, k2, ⟨nb, nl, t, hp, hpl, ht, Or.inr ⟨d, g, k1⟩⟩⟩
          rw [fRG_heal_30, zl]
/-- lose -/
theorem zd_lose {n : Nat} {P P' S S' : ZS} (h : zIv P P') (hT : zXr n P S P' S') (x0 x1 : Int32) : zAns n P P' S' (fRG_lose P S x0 x1) (fMO_lose P' S' x0 x1) := by
  have hs := h.2.2.2.1
  have n1 : ¬ (1 : Int32) = 0 := by decide
  have z0 : (0 : Int32).toInt = 0 := by decide
  have bad1 : fRG_lose P S x0 x1 = .error 1 → fMO_lose P' S' x0 x1 = fMO_lose_25 P' S' x0 x1 0 → zAns n P P' S' (fRG_lose P S x0 x1) (fMO_lose P' S' x0 x1) := fun e1 e2 => by
    refine Or.inl ⟨1, 0, e1, Or.inl rfl, ?_⟩
    rw [e2]
    unfold fMO_lose_25
    simp only [zl, zl2]
    rw [zgoF0, if_pos rfl]
    rfl
  rcases zqL h.2.2.1 S S' x0 with ⟨a1, c1⟩ | ⟨a1, c1, g0, g1⟩
  · refine bad1 ?_ ?_
    · unfold fRG_lose; rw [c1]; rfl
    · unfold fMO_lose fMO_lose_24
      simp only [zl]
      rw [a1, if_pos rfl]
  · by_cases b0 : x1 < 0
    · refine bad1 ?_ ?_
      · unfold fRG_lose fRG_lose_16; rw [c1]
        show (if x1 < 0 then _ else _) = _
        rw [if_pos b0]
      · unfold fMO_lose fMO_lose_24
        simp only [zl]
        rw [a1, if_neg n1, if_pos b0]
    · by_cases b1 : x1 ≤ 1000
      · have b1' : ¬ (1000 : Int32) < x1 := fun q => by
          have := Int32.le_iff_toInt_le.mp b1
          have := Int32.lt_iff_toInt_lt.mp q
          omega
        have eM : fMO_lose P' S' x0 x1 = fMO_lose_25 P' S' x0 x1 1 := by
          unfold fMO_lose
          simp only [zl]
          rw [a1, if_neg n1, if_neg b0, if_neg b1']
        by_cases d : P.I 2 = 0
        · refine Or.inl ⟨2, 0, ?_, Or.inr rfl, ?_⟩
          · unfold fRG_lose; rw [c1]
            show (if x1 < 0 then _ else _) = _
            rw [if_neg b0, if_pos b1, zst_er d]; rfl
          · rw [eM]
            unfold fMO_lose_25
            simp only [zl, zl2]
            rw [hs, d, zgoF1, if_pos rfl]
            rfl
        · obtain ⟨nb, nl, t, hp, hpl, ht, hx⟩ := hT
          rcases hx with ⟨d9, -⟩ | ⟨-, g, hY⟩
          · exact absurd d9 d
          · obtain ⟨y1, y2, y3, y4, ⟨c, m, K, hC⟩, hI, hBd, hG⟩ := hY
            refine Or.inr ⟨S.setF 13 x0.toNatClampNeg x1, (S'.setI 3 0).setF 9 x0.toNatClampNeg x1, S.F 13 x0.toNatClampNeg, ?_, ?_, rfl, ⟨nb, nl, t, hp, hpl, ht, Or.inr ⟨d, g, y1, y2, y3, ?_, ⟨c, m, K, (hC.ri (by decide) (by decide)).s 9 13 (by decide) (by decide) (by decide)⟩, ?_, ?_, fun e9 => ?_⟩⟩⟩
            · unfold fRG_lose; rw [c1]
              show (if x1 < 0 then _ else _) = _
              rw [if_neg b0, if_pos b1, zst_ok d]
              rfl
            · rw [eM]
              unfold fMO_lose_25
              simp only [zl, zl2]
              rw [zgoOk P' S' _ (by rw [hs]; exact d), if_neg n1]
              show ((S'.setI 3 0).setF 9 x0.toNatClampNeg x1, S'.F 9 x0.toNatClampNeg) = _
              rw [hC.g 9 13 (by decide)]
            · rw [zFsn _ (by decide), zFsn _ (by decide)]; exact y4
            · exact zI_of hI (zFsn _ (by decide)) (zFsn _ (by decide)) (zFsn _ (by decide)) (zFsn _ (by decide))
            · refine (hBd.upn (by omega)).F ?_
              have := Int32.le_iff_toInt_le.mp (znlt b0)
              show 0 ≤ x1.toInt
              omega
            · exact zGp_of (hG e9) (zFsn _ (by decide)) (zFsn _ (by decide)) rfl rfl
      · have b1' : (1000 : Int32) < x1 := znle b1
        refine bad1 ?_ ?_
        · unfold fRG_lose fRG_lose_16; rw [c1]
          show (if x1 < 0 then _ else _) = _
          rw [if_neg b0, if_neg b1]
        · unfold fMO_lose fMO_lose_24
          simp only [zl]
          rw [a1, if_neg n1, if_neg b0, if_pos b1']
/-- a port that a check let through -/
theorem zqP {P P' : ZS} {nb nl : Nat} (hr : zRP P P') (hp : zPn P nb nl) (S S' : ZS) (x0 x1 : Int32) : (fRG_requirePort P S x0 x1 = .error 1 ∧ (fMO_isBridge P' S' x0 = 0 ∨ fMO_isLink P' S' x1 = 0 ∨ fMO_isEnd P' S' x0 x1 = 0)) ∨ ∃ b l q, b < nb ∧ l < nl ∧ x0 = nI b ∧ x1 = nI l ∧ fRG_requirePort P S x0 x1 = .ok () ∧ fMO_isBridge P' S' x0 = 1 ∧ fMO_isLink P' S' x1 = 1 ∧ fMO_isEnd P' S' x0 x1 = 1 ∧ fPL_portOf P S x0 x1 = nI q ∧ q / 2 = l ∧ q < 2 * nl ∧ ((q % 2 = 0 ∧ P.F 0 l = nI b) ∨ (q % 2 = 1 ∧ ¬ P.F 0 l = nI b ∧ P.F 1 l = nI b)) := by
  have hb48 := hp.2.1
  have hl60 := hp.2.2.2.1
  have z2 : (2 : Int32) = nI 2 := by decide
  rcases zqB hr S S' x0 with ⟨a1, c1⟩ | ⟨a1, c1, g0, g1⟩
  · refine Or.inl ⟨?_, Or.inl a1⟩
    unfold fRG_requirePort; rw [c1]; rfl
  · rcases zqL hr S S' x1 with ⟨a2, c2⟩ | ⟨a2, c2, g2, g3⟩
    · refine Or.inl ⟨?_, Or.inr (Or.inl a2)⟩
      unfold fRG_requirePort; rw [c1]
      show zbind (fRG_requireLink P S x1) _ = _
      rw [c2]; rfl
    · rw [hp.1] at g1
      rw [hp.2.2.1] at g3
      obtain ⟨b, hb, rfl⟩ := zlN (by omega) g0 g1
      obtain ⟨l, hl, rfl⟩ := zlN (by omega) g2 g3
      have e9 : fRG_requirePort P S (nI b) (nI l) = if fPL_portOf P S (nI b) (nI l) = -1 then .error 1 else .ok () := by
        unfold fRG_requirePort; rw [c1]
        show zbind (fRG_requireLink P S (nI l)) _ = _
        rw [c2]; rfl
      have hM := zend_iff (P := P') (S := S') (b := nI b) (l := l) (by omega)
      rw [hr.2.2.1, hr.2.2.2.1] at hM
      have hM1 : fMO_isEnd P' S' (nI b) (nI l) = 0 ∨ fMO_isEnd P' S' (nI b) (nI l) = 1 := by
        rw [fMO_isEnd]
        repeat rw [zl]
        rw [fMO_isEnd_20]
        split
        · exact Or.inr rfl
        · split
          · exact Or.inr rfl
          · exact Or.inl rfl
      by_cases c : P.F 0 l = nI b ∨ P.F 1 l = nI b
      · have n9 : ¬ fPL_portOf P S (nI b) (nI l) = -1 := fun q => (zpo_iff (by omega)).mp q c
        have m9 : fMO_isEnd P' S' (nI b) (nI l) = 1 := hM1.resolve_left (fun q => hM.mp q c)
        have ep : fPL_portOf P S (nI b) (nI l) = if P.F 0 l = nI b then nI (2 * l) else if P.F 1 l = nI b then nI (2 * l + 1) else -1 := by
          rw [fPL_portOf]
          repeat rw [zl]
          rw [nI_clamp (by omega), z2, nI_mul, nI_1]
        by_cases c0 : P.F 0 l = nI b
        · refine Or.inr ⟨b, l, 2 * l, hb, hl, rfl, rfl, by rw [e9, if_neg n9], a1, a2, m9, by rw [ep, if_pos c0], by omega, by omega, Or.inl ⟨by omega, c0⟩⟩
        · refine Or.inr ⟨b, l, 2 * l + 1, hb, hl, rfl, rfl, by rw [e9, if_neg n9], a1, a2, m9, by rw [ep, if_neg c0, if_pos (c.resolve_left c0)], by omega, by omega, Or.inr ⟨by omega, c0, c.resolve_left c0⟩⟩
      · refine Or.inl ⟨?_, Or.inr (Or.inr (hM.mpr c))⟩
        rw [e9, if_pos ((zpo_iff (by omega)).mpr c)]
/-- its place -/
theorem zqPl {P P' : ZS} {nb nl q b l : Nat} (hp : zPn P nb nl) (hpl : zplace P nl) (hl : l < nl) (hq : q / 2 = l) (hb : b < nb) (he : (q % 2 = 0 ∧ P.F 0 l = nI b) ∨ (q % 2 = 1 ∧ ¬ P.F 0 l = nI b ∧ P.F 1 l = nI b)) : ∃ r, r < 6 ∧ zpl P q = 6 * b + r ∧ P.F 2 l = nI r := by
  have hb48 := hp.2.1
  obtain ⟨p1, p2⟩ := hpl l hl
  have fr : zr 0 5 (P.F 2 l) := hp.2.2.2.2.1 l
  have f1 := fr.1
  have f2 := fr.2
  have rl : (P.F 2 l).toNatClampNeg < 6 := by
    show (P.F 2 l).toInt.toNat < 6
    omega
  refine ⟨(P.F 2 l).toNatClampNeg, rl, ?_, znI fr⟩
  rcases he with ⟨c, e⟩ | ⟨c, -, e⟩
  · rw [show q = 2 * l by omega, p1, e, nI_clamp (by omega)]
  · rw [show q = 2 * l + 1 by omega, p2, e, nI_clamp (by omega)]
theorem zd_order {n : Nat} {P P' S S' : ZS} (h : zIv P P') (hT : zXr n P S P' S') (hn : n ≤ 600) (x0 x1 x2 : Int32) : zAns n P P' S' (fRG_order P S x0 x1 x2) (fMO_order P' S' x0 x1 x2) := by
  have hs := h.2.2.2.1
  have n1 : ¬ (1 : Int32) = 0 := by decide
  obtain ⟨nb, nl, t, hp, hpl, ht, hx⟩ := hT
  rcases zqP h.2.2.1 hp S S' x0 x1 with ⟨c1, a1⟩ | ⟨b, l, q, hb, hl, rfl, rfl, c1, a1, a2, a3, ep, hql, hq2, hends⟩
  · refine Or.inl ⟨1, 0, ?_, Or.inl rfl, ?_⟩
    · unfold fRG_order; rw [c1]; rfl
    · have e30 : fMO_order_30 P' S' x0 x1 x2 = (S'.setI 3 1, 0) := by
        unfold fMO_order_30 fMO_order_31
        simp only [zl, zl2]
        rw [zgoF0, if_pos rfl]
      have eM : fMO_order P' S' x0 x1 x2 = fMO_order_30 P' S' x0 x1 x2 := by
        rw [fMO_order]
        repeat rw [zl]
        rcases a1 with a | a | a
        · rw [a, if_pos rfl]
        · rw [a]
          split
          · rfl
          · rw [if_pos rfl]
        · rw [a]
          split
          · rfl
          · split
            · rfl
            · rw [if_pos rfl]
      rw [eM, e30]
      rfl
  · have eM : fMO_order P' S' (nI b) (nI l) x2 = fMO_order_31 P' S' (nI b) (nI l) x2 1 := by
      rw [fMO_order]
      repeat rw [zl]
      rw [a1, a2, a3, if_neg n1, if_neg n1, if_neg n1]
    by_cases d : P.I 2 = 0
    · refine Or.inl ⟨2, 0, ?_, Or.inr rfl, ?_⟩
      · unfold fRG_order; rw [c1]
        show zbind (fRG_requireStarted P S) _ = _
        rw [zst_er d]; rfl
      · rw [eM]
        unfold fMO_order_31
        simp only [zl, zl2]
        rw [hs, d, zgoF1, if_pos rfl]
        rfl
    · rcases hx with ⟨d9, -⟩ | ⟨-, g, hY⟩
      · exact absurd d9 d
      · obtain ⟨y1, y2, y3, y4, ⟨c, m, K, hC⟩, hI, hBd, hG⟩ := hY
        have hn2 := g.nl
        have hnb := g.nb
        obtain ⟨r, hr, hk, e2⟩ := zqPl (P' := P') hp hpl hl hql hb hends
        have r2 : P'.F 2 = P.F 2 := g.2.1.2.2.2.2.1
        have kS : zC nb False c m K S (S'.setI 3 0) := hC.ri (by decide) (by decide)
        have iS : zIS P nb nl S (S'.setI 3 0) := zI_of hI rfl rfl rfl rfl
        have eC : fRG_order P S (nI b) (nI l) x2 = .ok (if x2 = 0 then fRG_order_32 P S 4 (nI q) else fRG_order_32 P S 2 (nI q)) := by
          unfold fRG_order; rw [c1]
          show zbind (fRG_requireStarted P S) _ = _
          rw [zst_ok d]
          show Except.ok (zl (fPL_portOf P S (nI b) (nI l)) _) = _
          rw [ep]
          rfl
        have eM2 : fMO_order_31 P' S' (nI b) (nI l) x2 1 = if x2 = 0 then fMO_order_64 P' (S'.setI 3 0) (nI b) (nI l) (nI (6 * b + r)) 4 else fMO_order_64 P' (S'.setI 3 0) (nI b) (nI l) (nI (6 * b + r)) 2 := by
          rw [fMO_order_31]
          repeat (first | rw [zl] | rw [zl2])
          rw [zgoOk P' S' _ (by rw [hs]; exact d), if_neg n1, nI_clamp (by omega), r2, e2, zat]
        -- one kind
        have key : ∀ kd : Int32, (kd = 2 ∨ kd = 4) → zAns n P P' S' (.ok (fRG_order_32 P S kd (nI q))) (fMO_order_64 P' (S'.setI 3 0) (nI b) (nI l) (nI (6 * b + r)) kd) := by
          intro kd hkd
          have fre := zfresh g iS hq2 hk hr hkd
          rw [hql] at fre
          have ck : (nI (6 * b + r)).toNatClampNeg = 6 * b + r := nI_clamp (by omega)
          have e64 : fMO_order_64 P' (S'.setI 3 0) (nI b) (nI l) (nI (6 * b + r)) kd = if (S'.setI 3 0).F 15 (6 * b + r) = kd ∧ (S'.setI 3 0).F 16 (6 * b + r) = nI l then fMO_order_94 P' (S'.setI 3 0) (nI b) (nI l) (nI (6 * b + r)) kd 0 else fMO_order_94 P' (S'.setI 3 0) (nI b) (nI l) (nI (6 * b + r)) kd 1 := by
            rw [fMO_order_64, fMO_order_89]
            repeat rw [zl]
            rw [ck]
            by_cases w1 : (S'.setI 3 0).F 15 (6 * b + r) = kd
            · rw [if_pos w1]
              by_cases w2 : (S'.setI 3 0).F 16 (6 * b + r) = nI l
              · rw [if_pos w2, if_pos ⟨w1, w2⟩]
              · rw [if_neg w2, if_neg (fun e => w2 e.2)]
            · rw [if_neg w1, if_neg (fun e => w1 e.1)]
          rw [e64]
          by_cases w : S.F 14 q &&& kd = 0
          · rw [if_neg (fre.mp w)]
            obtain ⟨v, lv, ev⟩ := zge (n := n) (hBd 20 b)
            obtain ⟨T, T', e1, e2', e3, e4, e5, e6⟩ := kS.ord (fun q => q) g iS hBd hq2 hk hr hkd (show v + 1 ≤ 32767 by omega) (by omega) (by rw [ev, nI_1]) w
            rw [hql] at e2'
            rw [e2']
            have qB := q_fPR_giveCommand P S (nI q) kd
            have hc := hc_fPR_giveCommand P S (nI q) kd
            rw [e1] at qB hc
            have uI : ∀ x, x ∉ [5, 8, 11, 12, 13, 14] → T'.I x = (S'.setI 3 0).I x := e6.1
            have uF : T'.F 22 = S'.F 22 := e6.2
            have tI : ∀ x, x ∉ [9, 10, 11] → T.I x = S.I x := fun x hx => qB.1 x hx
            obtain ⟨k1, k2⟩ := zlooks (n := n + 1) (t := t) (T := T) (T' := T'.setI 7 0) g (by rw [tI 3 (by decide)]; exact y1) (uI 3 (by decide)) (by
              show T'.I 4 = _
              rw [uI 4 (by decide), tI 3 (by decide)]
              exact y2) (by
              show T'.I 9 = _
              rw [uI 9 (by decide), tI 7 (by decide)]
              exact y3) (by
              show T'.F 22 = _
              rw [uF, show T.F 23 = S.F 23 from qB.2 23 (by decide)]
              exact y4) ⟨c, m + 1, K + 14, e3.ri (by decide) (by decide)⟩ e4 e5 (fun e9 => by
              obtain ⟨w1, w2⟩ := hc e9
              exact zGp_of (hG w1) (qB.2 27 (by decide)) w2 (tI 6 (by decide)) (tI 14 (by decide)))
            refine Or.inr ⟨fRG_countCircle P T, fMO_look P' (T'.setI 7 0), 1, ?_, rfl, k2, ⟨nb, nl, t, hp, hpl, ht, Or.inr ⟨d, g, k1⟩⟩⟩
            rw [fRG_order_32, zl2, e1, zl]
          · have w9 : (S'.setI 3 0).F 15 (6 * b + r) = kd ∧ (S'.setI 3 0).F 16 (6 * b + r) = nI l := by
              by_cases w9 : (S'.setI 3 0).F 15 (6 * b + r) = kd ∧ (S'.setI 3 0).F 16 (6 * b + r) = nI l
              · exact w9
              · exact absurd (fre.mpr w9) w
            rw [if_pos w9, fMO_order_94, if_pos rfl, fMO_order_175, zl]
            have eg : fPR_giveCommand P S (nI q) kd = (S, 0) := by
              rw [fPR_giveCommand, zl, zl, nI_clamp (by omega), if_neg w]
            obtain ⟨k1, k2⟩ := zlooks (n := n + 1) (t := t) (T := S) (T' := S'.setI 3 0) g y1 rfl y2 y3 y4 ⟨c, m, K, kS⟩ iS (hBd.upn (by omega)) hG
            refine Or.inr ⟨fRG_countCircle P S, fMO_look P' (S'.setI 3 0), 0, ?_, rfl, k2, ⟨nb, nl, t, hp, hpl, ht, Or.inr ⟨d, g, k1⟩⟩⟩
            rw [fRG_order_32, zl2, eg, zl]
        rw [eC, eM, eM2]
        by_cases x : x2 = 0
        · rw [if_pos x, if_pos x]
          exact key 4 (Or.inr rfl)
        · rw [if_neg x, if_neg x]
          exact key 2 (Or.inl rfl)
theorem zd_clear {n : Nat} {P P' S S' : ZS} (h : zIv P P') (hT : zXr n P S P' S') (hn : n ≤ 600) (x0 x1 : Int32) : zAns n P P' S' (fRG_clear P S x0 x1) (fMO_clear P' S' x0 x1) := by
  have hs := h.2.2.2.1
  have n1 : ¬ (1 : Int32) = 0 := by decide
  have z6 : (6 : Int32) = nI 6 := by decide
  have e20 : fMO_clear_20 P' S' x0 x1 = (S'.setI 3 1, 0) := by
    unfold fMO_clear_20 fMO_clear_21
    simp only [zl, zl2]
    rw [zgoF0, if_pos rfl]
  rcases zqB h.2.2.1 S S' x0 with ⟨a1, c1⟩ | ⟨a1, c1, g0, g1⟩
  · refine Or.inl ⟨1, 0, ?_, Or.inl rfl, ?_⟩
    · unfold fRG_clear; rw [c1]; rfl
    · rw [fMO_clear]
      repeat rw [zl]
      rw [a1, if_pos rfl, e20]
      rfl
  · rcases zqR P S P' S' x1 with ⟨a2, c2⟩ | ⟨a2, c2, gr⟩
    · refine Or.inl ⟨1, 0, ?_, Or.inl rfl, ?_⟩
      · unfold fRG_clear; rw [c1]
        show zbind (fRG_requireRing P S x1) _ = _
        rw [c2]; rfl
      · rw [fMO_clear]
        repeat rw [zl]
        rw [a1, if_neg n1, a2, if_pos rfl, e20]
        rfl
    · have eM : fMO_clear P' S' x0 x1 = fMO_clear_21 P' S' x0 x1 1 := by
        rw [fMO_clear]
        repeat rw [zl]
        rw [a1, a2, if_neg n1, if_neg n1]
      by_cases d : P.I 2 = 0
      · refine Or.inl ⟨2, 0, ?_, Or.inr rfl, ?_⟩
        · unfold fRG_clear; rw [c1]
          show zbind (fRG_requireRing P S x1) _ = _
          rw [c2]
          show zbind (fRG_requireStarted P S) _ = _
          rw [zst_er d]; rfl
        · rw [eM]
          unfold fMO_clear_21
          simp only [zl, zl2]
          rw [hs, d, zgoF1, if_pos rfl]
          rfl
      · obtain ⟨nb, nl, t, hp, hpl, ht, hx⟩ := hT
        rcases hx with ⟨d9, -⟩ | ⟨-, g, hY⟩
        · exact absurd d9 d
        · obtain ⟨y1, y2, y3, y4, ⟨c, m, K, hC⟩, hI, hBd, hG⟩ := hY
          have hnb := g.nb
          rw [hp.1] at g1
          obtain ⟨b, hb, rfl⟩ := zlN (by omega) g0 g1
          obtain ⟨r, lr, rfl⟩ := zge (x := x1) (n := 5) ⟨gr.1, gr.2⟩
          have kS : zC nb False c m K S (S'.setI 3 0) := hC.ri (by decide) (by decide)
          have iS : zIS P nb nl S (S'.setI 3 0) := zI_of hI rfl rfl rfl rfl
          have eC : fRG_clear P S (nI b) (nI r) = .ok (fRG_countCircle P (fPR_endCommand P S (nI (6 * b + r))).1, (fPR_endCommand P S (nI (6 * b + r))).2) := by
            unfold fRG_clear; rw [c1]
            show zbind (fRG_requireRing P S (nI r)) _ = _
            rw [c2]
            show zbind (fRG_requireStarted P S) _ = _
            rw [zst_ok d]
            have e9 : nI b * 6 + nI r = nI (6 * b + r) := by rw [z6, nI_mul, nI_add, show b * 6 + r = 6 * b + r by omega]
            rw [← e9]
            rfl
          have eM2 : fMO_clear_21 P' S' (nI b) (nI r) 1 = if (fMO_endCommand P' (S'.setI 3 0) (nI b) (nI r)).2 = 0 then (fMO_look P' ((fMO_endCommand P' (S'.setI 3 0) (nI b) (nI r)).1.setI 7 ((fMO_endCommand P' (S'.setI 3 0) (nI b) (nI r)).1.I 7)), (fMO_endCommand P' (S'.setI 3 0) (nI b) (nI r)).2) else (fMO_look P' ((fMO_endCommand P' (S'.setI 3 0) (nI b) (nI r)).1.setI 7 0), (fMO_endCommand P' (S'.setI 3 0) (nI b) (nI r)).2) := by
            rw [fMO_clear_21]
            repeat (first | rw [zl] | rw [zl2])
            rw [zgoOk P' S' _ (by rw [hs]; exact d), if_neg n1]
            repeat rw [fMO_clear_53]
            repeat rw [zl]
          rw [eC, eM, eM2]
          have b9 := zBd_ec g.1.1 hnb (hBd.upn (show n ≤ n + 1 by omega)) (nI (6 * b + r))
          have qB := q_fPR_endCommand P S (nI (6 * b + r))
          have hc := hc_fPR_endCommand P S (nI (6 * b + r))
          have q8 := q_fMO_endCommand P' (S'.setI 3 0) (nI b) (nI r)
          have fin : ∀ (T T' : ZS) (v y : Int32), (∃ c m K, zC nb False c m K T T') → zIS P nb nl T T' → zBd P (n + 1) t 0 0 T → (∀ x, x ∉ [10, 11] → T.I x = S.I x) → T.F 23 = S.F 23 → T.F 27 = S.F 27 → zhc S T → (∀ x, x ∉ [8] → T'.I x = (S'.setI 3 0).I x) → T'.F 22 = S'.F 22 → zAns n P P' S' (.ok (fRG_countCircle P T, v)) (fMO_look P' (T'.setI 7 y), v) := by
            intro T T' v y kT iT bT tI t23 t27 hcT uI uF
            obtain ⟨c', m', K', kT⟩ := kT
            obtain ⟨k1, k2⟩ := zlooks (n := n + 1) (t := t) (T := T) (T' := T'.setI 7 y) g (by rw [tI 3 (by decide)]; exact y1) (uI 3 (by decide)) (by
              show T'.I 4 = _
              rw [uI 4 (by decide), tI 3 (by decide)]
              exact y2) (by
              show T'.I 9 = _
              rw [uI 9 (by decide), tI 7 (by decide)]
              exact y3) (by
              show T'.F 22 = _
              rw [uF, t23]
              exact y4) ⟨c', m', K', kT.ri (by decide) (by decide)⟩ iT bT (fun e9 => by
              obtain ⟨w1, w2⟩ := hcT e9
              exact zGp_of (hG w1) t27 w2 (tI 6 (by decide)) (tI 14 (by decide)))
            exact Or.inr ⟨_, _, v, rfl, rfl, k2, ⟨nb, nl, t, hp, hpl, ht, Or.inr ⟨d, g, k1⟩⟩⟩
          rcases kS.ec (b := b) (r := r) g iS hb (by omega) with ⟨w1, w2, -⟩ | ⟨T, T', w1, w2, w3, w4, -⟩
          · rw [w1, w2, if_pos rfl]
            exact fin S (S'.setI 3 0) 0 _ ⟨c, m, K, kS⟩ iS (hBd.upn (by omega)) (fun _ _ => rfl) rfl rfl zhc.rf (fun _ _ => rfl) rfl
          · rw [w1] at b9 qB hc
            rw [w2] at q8
            rw [w1, w2, if_neg n1]
            exact fin T T' 1 0 ⟨c, m + 1, K + 1, w3⟩ w4 b9 (fun x hx => qB.1 x hx) (qB.2 23 (by decide)) (qB.2 27 (by decide)) hc (fun x hx => q8.1 x hx) (q8.2 22 (by decide))

theorem zti1 {x : Int32} (h : 0 ≤ x.toInt ∧ x.toInt ≤ 1000) : (x + 1).toInt = x.toInt + 1 := zx1 (a := 0) (b := 1000) ⟨h.1, h.2⟩ (by decide)
theorem zh65 (P : ZS) (rc : ZS → Int32 → Int32 → Int32 → (ZS × Int32)) (x1 x3 x4 : Int32) (hrc : ∀ S, (rc S x1 x3 (x4 + 1)).2 = x3) : ∀ (n : Nat) (S : ZS) (x5 : Int32), 0 ≤ x5.toInt → x5.toInt ≤ 4 → 4 - x5.toInt < n → (zfix (fun S9 _ _ _ _ => (S9, 0)) (fMO_host_65 P rc) n S x1 x3 x4 x5).2 = x3 := by
  have z4 : (4 : Int32).toInt = 4 := by decide
  intro n
  induction n with
  | zero => intro S x5 h0 h1 h2; omega
  | succ n ih =>
    intro S x5 h0 h1 h2
    rw [zfix_s]
    generalize zfix (fun S9 _ _ _ _ => (S9, 0)) (fMO_host_65 P rc) n = rd at ih ⊢
    unfold fMO_host_65
    by_cases c : 4 ≤ x5
    · rw [if_pos c]
      exact hrc S
    · rw [if_neg c]
      simp only [zl]
      have lt : x5.toInt < 4 := by
        have := Int.not_le.mp (fun q => c (Int32.le_iff_toInt_le.mpr q))
        omega
      have ex : (x5 + 1).toInt = x5.toInt + 1 := zti1 ⟨by omega, by omega⟩
      exact ih _ (x5 + 1) (by omega) (by omega) (by omega)
theorem zh53 (P : ZS) (hP : (P.I 1).toInt ≤ 48) (x1 x3 : Int32) : ∀ (n : Nat) (S : ZS) (x4 : Int32), 0 ≤ x4.toInt → x4.toInt ≤ 48 → 48 - x4.toInt < n → (zfix (fun S9 _ _ _ => (S9, 0)) (fMO_host_53 P) n S x1 x3 x4).2 = x3 := by
  have z0 : (0 : Int32).toInt = 0 := by decide
  intro n
  induction n with
  | zero => intro S x4 h0 h1 h2; omega
  | succ n ih =>
    intro S x4 h0 h1 h2
    rw [zfix_s]
    generalize zfix (fun S9 _ _ _ => (S9, 0)) (fMO_host_53 P) n = rc at ih ⊢
    unfold fMO_host_53
    simp only [zl]
    by_cases c : P.I 1 ≤ x4
    · rw [if_pos c]
    · rw [if_neg c]
      have lt : x4.toInt < (P.I 1).toInt := Int.not_le.mp (fun q => c (Int32.le_iff_toInt_le.mpr q))
      have ex : (x4 + 1).toInt = x4.toInt + 1 := zti1 ⟨by omega, by omega⟩
      exact zh65 P rc x1 x3 x4 (fun S => ih S (x4 + 1) (by omega) (by omega) (by omega)) 5 S 0 (by omega) (by omega) (by omega)
theorem zgo2 (P S : ZS) (t : Int32) (h : ¬ t = 0) : fMO_goes P S 1 t = (S.setI 3 0, 1) := zgoOk P S t h
theorem zhm0 (P S : ZS) (x0 x1 : Int32) : fMO_host_24 P S x0 x1 0 = (S.setI 3 1, 0) := by
  simp only [fMO_host_24, zl, zl2, zgoF0]
  rw [if_pos trivial]
theorem zhm2 {P S : ZS} {x0 x1 : Int32} (h : P.I 0 = 0) : fMO_host_24 P S x0 x1 1 = (S.setI 3 2, 0) := by
  simp only [fMO_host_24, zl, zl2]
  rw [h, zgoF1]
  rw [if_pos rfl]
theorem zhm1 {P S : ZS} {x0 x1 : Int32} (h : ¬ P.I 0 = 0) : fMO_host_24 P S x0 x1 1 = zfix (fun S9 _ _ _ => (S9, 0)) (fMO_host_53 P) 49 ((S.setI 3 0).setF 22 x0.toNatClampNeg x1) x0 (S.F 22 x0.toNatClampNeg) 0 := by
  simp only [fMO_host_24, zl, zl2]
  rw [zgo2 P S _ h]
  rw [if_neg (by decide : ¬ (1 : Int32) = 0)]
  rfl
theorem zhrow (T : ZS) (k i : Nat) (v : Int32) : (T.setF k i v).F k = upd (T.F k) i v := by
  show (if k = k then upd (T.F k) i v else T.F k) = _
  rw [if_pos rfl]
/-- host: both refuse alike, or both say the same number -/
theorem zs_host0 {P P' S S' : ZS} {f : Nat → Int64} {x0 x1 r r' : Int32} {w : ZS × ZS × (Nat → Int64)} {x9 : ZS} (h : zIv P P') (hT : S'.F 22 = S.F 23) (h1 : zH_host P S f x0 x1 r w) (h2 : (x9, r') = fMO_host P' S' x0 x1) : (x9.I 3 = r ∧ (r = 0 → w.2.2 (0 : Int32).toNatClampNeg = r'.toInt64)) ∧ x9.F 22 = w.2.1.F 23 := by
  obtain ⟨P1, S1, f1⟩ := w
  have hs := h.2.2.2.1
  have z64 : (64 : Int32).toInt = 64 := by decide
  have z0 : (0 : Int32).toInt = 0 := by decide
  have bad : ∀ k : Nat, ∀ c : Int32, fRG_host P S x0 x1 = .error k → fMO_host P' S' x0 x1 = (S'.setI 3 c, 0) → c = (if k = 1 then 1 else 2) → (x9.I 3 = r ∧ (r = 0 → f1 (0 : Int32).toNatClampNeg = r'.toInt64)) ∧ x9.F 22 = S1.F 23 := by
    intro k c e1 e2 ec
    unfold zH_host at h1
    rw [e1] at h1
    rw [e2] at h2
    obtain ⟨hr, hw⟩ := h1
    cases hw
    cases h2
    refine ⟨⟨?_, fun r0 => ?_⟩, hT⟩
    · rw [hr]; exact ec
    · rw [hr] at r0
      split at r0
      · exact absurd r0 (by decide)
      · exact absurd r0 (by decide)
  by_cases c1 : x0 < 0
  · refine bad 1 1 ?_ ?_ rfl
    · unfold fRG_host fRG_requireHost fRG_requireHost_10
      rw [if_pos c1]
      rfl
    · unfold fMO_host fMO_host_23
      rw [if_pos c1, zhm0]
  · by_cases c2 : 64 ≤ x0
    · have c3 : ¬ x0 < 64 := fun q => by
        have := Int32.le_iff_toInt_le.mp c2
        have := Int32.lt_iff_toInt_lt.mp q
        omega
      refine bad 1 1 ?_ ?_ rfl
      · unfold fRG_host fRG_requireHost fRG_requireHost_10
        rw [if_neg c1, if_neg c3]
        rfl
      · unfold fMO_host fMO_host_23
        rw [if_neg c1, if_pos c2, zhm0]
    · have c3 : x0 < 64 := Int32.lt_iff_toInt_lt.mpr (by
        have := Int.not_le.mp (fun q => c2 (Int32.le_iff_toInt_le.mpr q))
        omega)
      have eh : fRG_requireHost P S x0 = .ok () := by
        unfold fRG_requireHost
        rw [if_neg c1, if_pos c3]
      rcases zqB h.2.2.1 S S' x1 with ⟨m1, d1⟩ | ⟨m1, d1, -, -⟩
      · refine bad 1 1 ?_ ?_ rfl
        · unfold fRG_host
          rw [eh]
          show zbind (fRG_requireBridge P S x1) _ = _
          rw [d1]
          rfl
        · unfold fMO_host fMO_host_23
          simp only [zl]
          rw [if_neg c1, if_neg c2, m1, if_pos rfl, zhm0]
      · have m0 : fMO_host P' S' x0 x1 = fMO_host_24 P' S' x0 x1 1 := by
          unfold fMO_host
          simp only [zl]
          rw [if_neg c1, if_neg c2, m1, if_neg (by decide : ¬ (1 : Int32) = 0)]
        by_cases d : P.I 2 = 0
        · have en : fRG_requireStarted P S = .error 2 := by
            simp only [fRG_requireStarted, zl]
            rw [if_pos d]
          refine bad 2 2 ?_ ?_ rfl
          · unfold fRG_host
            rw [eh]
            show zbind (fRG_requireBridge P S x1) _ = _
            rw [d1]
            show zbind (fRG_requireStarted P S) _ = _
            rw [en]
            rfl
          · rw [m0, zhm2 (by rw [hs]; exact d)]
        · have en : fRG_requireStarted P S = .ok () := by
            simp only [fRG_requireStarted, zl]
            rw [if_neg d]
          have e1 : fRG_host P S x0 x1 = .ok (fTA_forgetHost P (S.setF 23 x0.toNatClampNeg x1) x0, S.F 23 x0.toNatClampNeg) := by
            unfold fRG_host
            rw [eh]
            show zbind (fRG_requireBridge P S x1) _ = _
            rw [d1]
            show zbind (fRG_requireStarted P S) _ = _
            rw [en]
            rfl
          rw [m0, zhm1 (by rw [hs]; exact d)] at h2
          have mB : (P'.I 1).toInt ≤ 48 := (h.2.1.2.1 1).2
          have b2 := zh53 P' mB x0 (S'.F 22 x0.toNatClampNeg) 49 ((S'.setI 3 0).setF 22 x0.toNatClampNeg x1) 0 (by omega) (by omega) (by omega)
          have b0 := z_fMO_host_53 P' 49 ((S'.setI 3 0).setF 22 x0.toNatClampNeg x1) x0 (S'.F 22 x0.toNatClampNeg) 0
          rw [← h2] at b0 b2
          have b3 := b0.1 3 (by decide)
          have b4 := b0.2 22 (by decide)
          have a4 := (q_fTA_forgetHost P (S.setF 23 x0.toNatClampNeg x1) x0).2 23 (by decide)
          unfold zH_host at h1
          rw [e1] at h1
          obtain ⟨hr, hw⟩ := h1
          cases hw
          refine ⟨⟨?_, fun _ => ?_⟩, ?_⟩
          · rw [hr]; exact b3.trans rfl
          · show (S.F 23 x0.toNatClampNeg).toInt64 = _
            have b2 : r' = S'.F 22 x0.toNatClampNeg := b2
            rw [b2, hT]
          · have b4 : x9.F 22 = ((S'.setI 3 0).setF 22 x0.toNatClampNeg x1).F 22 := b4
            rw [b4, zhrow]
            show upd (S'.F 22) _ _ = _
            rw [hT]
            exact (a4.trans (zhrow S 23 x0.toNatClampNeg x1)).symm

/-! what the class keeps from call to call: each ring is kept, hosts are at bridges that are there -/
def zKw (P : ZS) (nb nl : Nat) (S : ZS) : Prop := zW (fun _ => True) P nb nl False zd0 S ∧ ∀ j, S.F 23 j = -1 ∨ ∃ b, b < nb ∧ S.F 23 j = nI b
theorem zKw.fr {P S T : ZS} {nb nl : Nat} {ws fs : List Nat} (k : zKw P nb nl S) (f : zfr 28 ws fs S T) (m : ∀ q ∈ [9, 10, 11, 12, 14, 15, 23], min q 28 ∉ fs) : zKw P nb nl T := ⟨k.1.fr f (fun q hq => m q ((show ∀ q ∈ [9, 10, 11, 12, 14, 15], q ∈ [9, 10, 11, 12, 14, 15, 23] by decide) q hq)), fun j => by
  rw [f.2 23 (m 23 (by decide))]
  exact k.2 j⟩
theorem zKw.w {P S T : ZS} {nb nl : Nat} (k : zKw P nb nl S) (w : zW (fun _ => True) P nb nl False zd0 T) (e : T.F 23 = S.F 23) : zKw P nb nl T := ⟨w, fun j => by rw [e]; exact k.2 j⟩
theorem zKw.J {P S : ZS} {nb nl : Nat} (k : zKw P nb nl S) (t : Nat) (v : Int32) : zKw P nb nl (S.setI t v) := ⟨k.1.cg (fun _ _ => rfl), k.2⟩
theorem zKw.cc {P S : ZS} {nb nl : Nat} (k : zKw P nb nl S) : zKw P nb nl (fRG_countCircle P S) := k.fr (q_fRG_countCircle P S) (by decide)
theorem zKw.tc {P P' S : ZS} {nb nl : Nat} (k : zKw P nb nl S) (g : zGeo P P' nb nl) : zKw P nb nl (zTC P S) := by
  obtain ⟨f1, f2⟩ := zt1_fr P S
  have w0 : zW (fun _ => True) P nb nl False zd0 ((zT1 P S).setI 3 ((zT1 P S).I 3 + 1)) := k.1.cg (fun j _ => by
    show (zT1 P S).F j = _
    rw [f1])
  have w1 := zW.tick g w0
  have e1 : (zT2 P S).F 23 = S.F 23 := by
    have qA := q_fPR_arriveAll P ((zT1 P S).setI 3 ((zT1 P S).I 3 + 1))
    have qT := q_fPR_turnAll P (fPR_arriveAll P ((zT1 P S).setI 3 ((zT1 P S).I 3 + 1)))
    show (fPR_turnAll P (fPR_arriveAll P ((zT1 P S).setI 3 ((zT1 P S).I 3 + 1)))).F 23 = _
    rw [qT.2 23 (by decide), qA.2 23 (by decide)]
    show (zT1 P S).F 23 = _
    rw [f1]
  have k1 : zKw P nb nl (zT2 P S) := k.w w1 e1
  have k2 : zKw P nb nl (((zT2 P S).setI 5 ((zT2 P S).I 10 + (zT2 P S).I 9)).setI 4 (if (zT2 P S).I 10 + (zT2 P S).I 9 = S.I 10 + S.I 9 then (zT2 P S).I 4 + 1 else 0)) := (k1.J _ _).J _ _
  exact k2.cc.fr (q_fRG_countApart P _) (by decide)
theorem zKw.tks {P P' : ZS} {nb nl : Nat} (g : zGeo P P' nb nl) (n : Int32) : ∀ (N : Nat) (S : ZS) (i : Int32), zKw P nb nl S → zKw P nb nl (zfix (fun S9 _ _ => (S9, 0)) (fRG_ticks_50 P) N S n i).1 := by
  intro N
  induction N with
  | zero => intro S i k; rw [zfix_0]; exact k
  | succ N ih =>
    intro S i k
    rw [zfix_s]
    generalize zfix (fun S9 _ _ => (S9, 0)) (fRG_ticks_50 P) N = rc at ih ⊢
    by_cases c : n ≤ i
    · rw [fRG_ticks_50, if_pos c, zl]
      exact k
    · rw [ztk_C P rc S n i c]
      exact ih _ _ (k.tc g)
theorem zKw.fail {P P' S : ZS} {nb nl : Nat} {x0 : Int32} {z : ZS × Int32} (k : zKw P nb nl S) (g : zGeo P P' nb nl) (d : ¬ P.I 2 = 0) (e : fRG_fail P S x0 = .ok z) : zKw P nb nl z.1 := by
  have hn2 := g.nl
  rcases zqL g.2.1 S S x0 with ⟨-, c1⟩ | ⟨-, c1, g0, g1⟩
  · have e2 : fRG_fail P S x0 = .error 1 := by unfold fRG_fail; rw [c1]; rfl
    rw [e2] at e
    cases e
  · rw [g.1.2.2.1] at g1
    obtain ⟨l, hl, rfl⟩ := zlN (by omega) g0 g1
    have eC : fRG_fail P S (nI l) = .ok (if fPR_hasFailed P S (nI l) = 0 then fRG_fail_30 P (fPR_breakLink P S (nI l)) (fPR_hasFailed P S (nI l)) else fRG_fail_30 P S (fPR_hasFailed P S (nI l))) := by
      unfold fRG_fail
      rw [c1]
      show zbind (fRG_requireStarted P S) _ = _
      rw [zst_ok d]
      rfl
    have e30 : ∀ X v, (fRG_fail_30 P X v).1 = fRG_countCircle P X := fun X v => by
      rw [fRG_fail_30, zl]
      split <;> rfl
    rw [eC] at e
    cases e
    split
    · rw [e30]
      exact (k.w (k.1.brk g hl) ((q_fPR_breakLink P S (nI l)).2 23 (by decide))).cc
    · rw [e30]
      exact k.cc
theorem zKw.heal {P P' S : ZS} {nb nl : Nat} {x0 : Int32} {z : ZS × Int32} (k : zKw P nb nl S) (g : zGeo P P' nb nl) (d : ¬ P.I 2 = 0) (e : fRG_heal P S x0 = .ok z) : zKw P nb nl z.1 := by
  have hn2 := g.nl
  rcases zqL g.2.1 S S x0 with ⟨-, c1⟩ | ⟨-, c1, g0, g1⟩
  · have e2 : fRG_heal P S x0 = .error 1 := by unfold fRG_heal; rw [c1]; rfl
    rw [e2] at e
    cases e
  · rw [g.1.2.2.1] at g1
    obtain ⟨l, hl, rfl⟩ := zlN (by omega) g0 g1
    have eC : fRG_heal P S (nI l) = .ok (if fPR_hasFailed P S (nI l) = 0 then fRG_heal_30 P S (fPR_hasFailed P S (nI l)) else fRG_heal_30 P (fPR_mendLink P S (nI l)) (fPR_hasFailed P S (nI l))) := by
      unfold fRG_heal
      rw [c1]
      show zbind (fRG_requireStarted P S) _ = _
      rw [zst_ok d]
      rfl
    have e30 : ∀ X v, (fRG_heal_30 P X v).1 = fRG_countCircle P X := fun X v => by rw [fRG_heal_30, zl]
    rw [eC] at e
    cases e
    split
    · rw [e30]
      exact k.cc
    · rw [e30]
      exact (k.w (k.1.mnd g hl) ((q_fPR_mendLink P S (nI l)).2 23 (by decide))).cc
theorem zKw.ord {P P' S : ZS} {nb nl : Nat} {x0 x1 x2 : Int32} {z : ZS × Int32} (k : zKw P nb nl S) (g : zGeo P P' nb nl) (d : ¬ P.I 2 = 0) (e : fRG_order P S x0 x1 x2 = .ok z) : zKw P nb nl z.1 := by
  rcases zqP g.2.1 g.1 S S x0 x1 with ⟨c1, -⟩ | ⟨b, l, q, hb, hl, rfl, rfl, c1, -, -, -, ep, -, hq2, -⟩
  · have e2 : fRG_order P S x0 x1 x2 = .error 1 := by unfold fRG_order; rw [c1]; rfl
    rw [e2] at e
    cases e
  · have eC : fRG_order P S (nI b) (nI l) x2 = .ok (if x2 = 0 then fRG_order_32 P S 4 (nI q) else fRG_order_32 P S 2 (nI q)) := by
      unfold fRG_order; rw [c1]
      show zbind (fRG_requireStarted P S) _ = _
      rw [zst_ok d]
      show Except.ok (zl (fPL_portOf P S (nI b) (nI l)) _) = _
      rw [ep]
      rfl
    have e32 : ∀ kd : Int32, kd = 2 ∨ kd = 4 → zKw P nb nl (fRG_order_32 P S kd (nI q)).1 := fun kd hkd => by
      have ee : (fRG_order_32 P S kd (nI q)).1 = fRG_countCircle P (fPR_giveCommand P S (nI q) kd).1 := by
        rw [fRG_order_32, zl2, zl]
      rw [ee]
      exact (k.w (k.1.giv g hq2 hkd) ((q_fPR_giveCommand P S (nI q) kd).2 23 (by decide))).cc
    rw [eC] at e
    cases e
    split
    · exact e32 4 (Or.inr rfl)
    · exact e32 2 (Or.inl rfl)
theorem zKw.clr {P P' S : ZS} {nb nl : Nat} {x0 x1 : Int32} {z : ZS × Int32} (k : zKw P nb nl S) (g : zGeo P P' nb nl) (d : ¬ P.I 2 = 0) (e : fRG_clear P S x0 x1 = .ok z) : zKw P nb nl z.1 := by
  have hn := g.nb
  have z6 : (6 : Int32) = nI 6 := by decide
  rcases zqB g.2.1 S S x0 with ⟨-, c1⟩ | ⟨-, c1, g0, g1⟩
  · have e2 : fRG_clear P S x0 x1 = .error 1 := by unfold fRG_clear; rw [c1]; rfl
    rw [e2] at e
    cases e
  · rcases zqR P S P' S x1 with ⟨-, c2⟩ | ⟨-, c2, gr⟩
    · have e2 : fRG_clear P S x0 x1 = .error 1 := by
        unfold fRG_clear; rw [c1]
        show zbind (fRG_requireRing P S x1) _ = _
        rw [c2]; rfl
      rw [e2] at e
      cases e
    · rw [g.1.1] at g1
      obtain ⟨b, hb, rfl⟩ := zlN (by omega) g0 g1
      obtain ⟨r, lr, rfl⟩ := zge (x := x1) (n := 5) ⟨gr.1, gr.2⟩
      have eC : fRG_clear P S (nI b) (nI r) = .ok (fRG_countCircle P (fPR_endCommand P S (nI (6 * b + r))).1, (fPR_endCommand P S (nI (6 * b + r))).2) := by
        unfold fRG_clear; rw [c1]
        show zbind (fRG_requireRing P S (nI r)) _ = _
        rw [c2]
        show zbind (fRG_requireStarted P S) _ = _
        rw [zst_ok d]
        have e9 : nI b * 6 + nI r = nI (6 * b + r) := by rw [z6, nI_mul, nI_add, show b * 6 + r = 6 * b + r by omega]
        rw [← e9]
        rfl
      rw [eC] at e
      cases e
      exact (k.w (k.1.ec g zd01 hb (by omega)) ((q_fPR_endCommand P S (nI (6 * b + r))).2 23 (by decide))).cc
theorem zKw.tik {P P' S : ZS} {nb nl : Nat} {x0 : Int32} {z : ZS × Int32} (k : zKw P nb nl S) (g : zGeo P P' nb nl) (d : ¬ P.I 2 = 0) (e : fRG_ticks P S x0 = .ok z) : zKw P nb nl z.1 := by
  rw [fRG_ticks] at e
  split at e
  · rw [fRG_ticks_12] at e; cases e
  · split at e
    · rw [zst_ok d] at e
      have e2 : (if S.I 3 + x0 ≤ 20000 then Except.ok (zfix (fun S9 _ _ => (S9, 0)) (fRG_ticks_50 P) 258 S x0 0) else Except.error 2) = Except.ok z := e
      split at e2
      · cases e2
        exact zKw.tks g x0 258 S 0 k
      · cases e2
    · rw [fRG_ticks_12] at e; cases e
theorem zKw.hst {P P' S : ZS} {nb nl : Nat} {x0 x1 : Int32} {z : ZS × Int32} (k : zKw P nb nl S) (g : zGeo P P' nb nl) (d : ¬ P.I 2 = 0) (e : fRG_host P S x0 x1 = .ok z) : zKw P nb nl z.1 := by
  have hn := g.nb
  have q9 := q_fRG_host P S x0 x1 z e
  refine ⟨k.1.fr q9 (by decide), fun j => ?_⟩
  unfold fRG_host at e
  cases eh : fRG_requireHost P S x0 with
  | error q => rw [eh] at e; cases e
  | ok u =>
    rw [eh] at e
    have e2 : zbind (fRG_requireBridge P S x1) _ = _ := e
    rcases zqB g.2.1 S S x1 with ⟨-, c1⟩ | ⟨-, c1, g0, g1⟩
    · rw [c1] at e2; cases e2
    · rw [c1] at e2
      have e3 : zbind (fRG_requireStarted P S) _ = _ := e2
      rw [zst_ok d] at e3
      have e4 : Except.ok (fTA_forgetHost P (S.setF 23 x0.toNatClampNeg x1) x0, S.F 23 x0.toNatClampNeg) = Except.ok z := e3
      cases e4
      show (fTA_forgetHost P (S.setF 23 x0.toNatClampNeg x1) x0).F 23 j = -1 ∨ ∃ b, b < nb ∧ (fTA_forgetHost P (S.setF 23 x0.toNatClampNeg x1) x0).F 23 j = nI b
      rw [(q_fTA_forgetHost P (S.setF 23 x0.toNatClampNeg x1) x0).2 23 (by decide), zFsk]
      rw [g.1.1] at g1
      obtain ⟨b, hb, rfl⟩ := zlN (by omega) g0 g1
      by_cases c : j = x0.toNatClampNeg
      · rw [c, upd_at]; exact Or.inr ⟨b, hb, rfl⟩
      · rw [upd_ne _ _ c]; exact k.2 j

/-! the other calls -/
theorem zd_ticks {n : Nat} {P P' S S' : ZS} (h : zIv P P') (hT : zXr n P S P' S') (hn : n ≤ 600) (x0 : Int32) : zAns n P P' S' (fRG_ticks P S x0) (fMO_ticks P' S' x0) := by
  have hs := h.2.2.2.1
  have n1 : ¬ (1 : Int32) = 0 := by decide
  have z1 : (1 : Int32).toInt = 1 := by decide
  have z200 : (200 : Int32).toInt = 200 := by decide
  have e17 : fMO_ticks_17 P' S' x0 = (S'.setI 3 1, 0) := by
    rw [fMO_ticks_17, fMO_ticks_18]
    repeat rw [fMO_ticks_41]
    repeat rw [fMO_ticks_42]
    repeat (first | rw [zl] | rw [zl2])
    rw [zgoF0, zgoF0, if_pos rfl]
    split
    · rfl
    · split <;> rfl
  by_cases c1 : x0 < 1
  · refine Or.inl ⟨1, 0, ?_, Or.inl rfl, ?_⟩
    · rw [fRG_ticks, if_pos c1, fRG_ticks_12]
    · rw [fMO_ticks, if_pos c1, e17]
      rfl
  · by_cases c2 : x0 ≤ 200
    · have c2' : ¬ (200 : Int32) < x0 := fun q => by
        have := Int32.le_iff_toInt_le.mp c2
        have := Int32.lt_iff_toInt_lt.mp q
        omega
      have eM : fMO_ticks P' S' x0 = fMO_ticks_18 P' S' x0 1 := by rw [fMO_ticks, if_neg c1, if_neg c2']
      have e41 : fMO_ticks_41 P' S' x0 1 = (S'.setI 3 2, 0) := by
        rw [fMO_ticks_41, fMO_ticks_42]
        repeat (first | rw [zl] | rw [zl2])
        rw [zgoF1, if_pos rfl]
      by_cases d : P.I 2 = 0
      · refine Or.inl ⟨2, 0, ?_, Or.inr rfl, ?_⟩
        · rw [fRG_ticks, if_neg c1, if_pos c2, zst_er d]; rfl
        · rw [eM, fMO_ticks_18, zl, if_pos (by rw [hs]; exact d), e41]
          rfl
      · obtain ⟨nb, nl, t, hp, hpl, ht, hx⟩ := hT
        rcases hx with ⟨d9, -⟩ | ⟨-, g, hY⟩
        · exact absurd d9 d
        · have y1 := hY.1
          have y2 := hY.2.1
          have q1 := Int32.le_iff_toInt_le.mp (znlt c1)
          have q2 := Int32.le_iff_toInt_le.mp c2
          obtain ⟨k, lk, rfl⟩ := zge (x := x0) (n := 200) ⟨by omega, by omega⟩
          have z20 : (20000 : Int32) = nI 20000 := by decide
          have eM2 : fMO_ticks P' S' (nI k) = if 20000 < nI (t + k) then (S'.setI 3 2, 0) else zfix (fun S9 _ _ => (S9, 0)) (fMO_ticks_52 P') 257 (S'.setI 3 0) (nI k) 0 := by
            rw [eM, fMO_ticks_18, zl, if_neg (by rw [hs]; exact d), zl, zl, e41, y2, y1, nI_add, fMO_ticks_42]
            repeat (first | rw [zl] | rw [zl2])
            rw [zgoOk P' S' 1 n1, if_neg n1]
          have eC : fRG_ticks P S (nI k) = if nI (t + k) ≤ 20000 then .ok (zfix (fun S9 _ _ => (S9, 0)) (fRG_ticks_50 P) 258 S (nI k) 0) else .error 2 := by
            have e9 : ∀ q : Unit → Except Nat (ZS × Int32), zbind (Except.ok ()) q = q () := fun q => rfl
            rw [fRG_ticks, if_neg c1, if_pos c2, zst_ok d, e9, zl, zl, y1, nI_add]
          rw [eC, eM2]
          by_cases w : t + k ≤ 20000
          · rw [z20, if_pos (nI_le w (by omega)), if_neg (nI_nlt w (by omega))]
            have hY2 : zY nb nl (n + 1) t P S (S'.setI 3 0) := by
              obtain ⟨a1, a2, a3, a4, ⟨c, m, K, hC⟩, hI, hBd, hG⟩ := hY
              exact ⟨a1, a2, a3, a4, ⟨c, m, K, hC.ri (by decide) (by decide)⟩, zI_of hI rfl rfl rfl rfl, hBd.upn (by omega), hG⟩
            obtain ⟨T, T', e1, e2, e3, e4⟩ := zticks (n := n + 1) (c := k) g (by omega) (by omega) 258 257 0 t S (S'.setI 3 0) (by omega) (by omega) (by omega) hY2 rfl (by omega)
            have z0 : (0 : Int32) = nI 0 := by decide
            rw [← z0] at e1 e2
            rw [e1, e2, e3.2.1]
            exact Or.inr ⟨T, T', T.I 3, rfl, rfl, e4, ⟨nb, nl, t + (k - 0), hp, hpl, by omega, Or.inr ⟨d, g, e3⟩⟩⟩
          · rw [z20, if_neg (nI_ge (by omega) (by omega)), if_pos (nI_lt (by omega) (by omega))]
            exact Or.inl ⟨2, 0, rfl, Or.inr rfl, rfl⟩
    · have c2' : (200 : Int32) < x0 := znle c2
      refine Or.inl ⟨1, 0, ?_, Or.inl rfl, ?_⟩
      · rw [fRG_ticks, if_neg c1, if_neg c2, fRG_ticks_12]
      · rw [fMO_ticks, if_neg c1, if_pos c2', e17]
        rfl
theorem zXr.h22 {n : Nat} {P S P' S' : ZS} (h : zXr n P S P' S') : S'.F 22 = S.F 23 := by
  obtain ⟨nb, nl, t, -, -, -, hx⟩ := h
  rcases hx with ⟨-, -, -, -, e⟩ | ⟨-, -, hY⟩
  · exact e
  · exact hY.2.2.2.1
/-! a host goes elsewhere: what was learned of it is forgotten, on both sides -/
theorem zfg10 {P : ZS} {rc : ZS → Int32 → Int32 → ZS} {hh b : Nat} (hb : b < 48) (h64 : hh < 64) : ∀ (n i : Nat) (S : ZS), i ≤ 4 → 4 - i < n → ∃ T, zfix (fun S9 _ _ _ => S9) (fTA_forgetHost_10 P rc) n S (nI hh) (nI b) (nI i) = rc T (nI hh) (nI (b + 1)) ∧ ∀ b2 t, (b2 = b ∧ t % 64 = hh ∧ i ≤ t / 64 ∧ t / 64 < 4 → T.F (28 + b2) t = -1) ∧ (¬ (b2 = b ∧ t % 64 = hh ∧ i ≤ t / 64 ∧ t / 64 < 4) → T.F (28 + b2) t = S.F (28 + b2) t) := by
  have z4 : (4 : Int32) = nI 4 := by decide
  have z64 : (64 : Int32) = nI 64 := by decide
  intro n
  induction n with
  | zero => intro i S h1 h2; omega
  | succ n ih =>
    intro i S h1 h2
    rw [zfix_s]
    generalize zfix (fun S9 _ _ _ => S9) (fTA_forgetHost_10 P rc) n = rd at ih ⊢
    rw [fTA_forgetHost_10]
    repeat rw [zl]
    by_cases d : i = 4
    · rw [z4, if_pos (nI_le (by omega) (by omega)), nI_1]
      exact ⟨S, rfl, fun b2 t => ⟨fun w => by obtain ⟨-, -, w1, w2⟩ := w; omega, fun _ => rfl⟩⟩
    · rw [z4, if_neg (nI_ge (by omega) (by omega)), z64, nI_mul, nI_add, nI_clamp (by omega), nI_clamp (by omega), nI_1]
      obtain ⟨T, e1, e2⟩ := ih (i + 1) (S.setF (28 + b) (i * 64 + hh) (-1)) (by omega) (by omega)
      refine ⟨T, e1, fun b2 t => ⟨fun w => ?_, fun w => ?_⟩⟩
      · obtain ⟨w1, w2, w3, w4⟩ := w
        by_cases c3 : t = i * 64 + hh
        · rw [(e2 b2 t).2 (fun v => by obtain ⟨-, -, v3, -⟩ := v; omega), w1, zFsk, c3, upd_at]
        · exact (e2 b2 t).1 ⟨w1, w2, by omega, w4⟩
      · rw [(e2 b2 t).2 (fun v => w ⟨v.1, v.2.1, by have := v.2.2.1; omega, v.2.2.2⟩)]
        by_cases c : b2 = b
        · have ne : ¬ t = i * 64 + hh := fun e => w ⟨c, by omega, by omega, by omega⟩
          rw [c, zFsk, upd_ne _ _ ne]
        · rw [zFsn _ (by omega)]
theorem zfgt {P : ZS} {hh : Nat} (h64 : hh < 64) : ∀ (n b : Nat) (S : ZS), b ≤ 48 → 48 - b < n → ∀ b2 t, (b ≤ b2 ∧ b2 < 48 ∧ t % 64 = hh ∧ t / 64 < 4 → (zfix (fun S9 _ _ => S9) (fTA_forgetHost_2 P) n S (nI hh) (nI b)).F (28 + b2) t = -1) ∧ (¬ (b ≤ b2 ∧ b2 < 48 ∧ t % 64 = hh ∧ t / 64 < 4) → (zfix (fun S9 _ _ => S9) (fTA_forgetHost_2 P) n S (nI hh) (nI b)).F (28 + b2) t = S.F (28 + b2) t) := by
  have z48 : (48 : Int32) = nI 48 := by decide
  have z0 : (0 : Int32) = nI 0 := by decide
  intro n
  induction n with
  | zero => intro b S h1 h2; omega
  | succ n ih =>
    intro b S h1 h2 b2 t
    rw [zfix_s]
    generalize zfix (fun S9 _ _ => S9) (fTA_forgetHost_2 P) n = rc at ih ⊢
    rw [fTA_forgetHost_2]
    by_cases d : b = 48
    · rw [z48, if_pos (nI_le (by omega) (by omega))]
      exact ⟨fun w => by obtain ⟨w1, w2, -⟩ := w; omega, fun _ => rfl⟩
    · rw [z48, if_neg (nI_ge (by omega) (by omega))]
      obtain ⟨T, e1, e2⟩ := zfg10 (P := P) (rc := rc) (b := b) (by omega) h64 5 0 S (by omega) (by omega)
      rw [← z0] at e1
      rw [e1]
      have k := ih (b + 1) T (by omega) (by omega) b2 t
      refine ⟨fun w => ?_, fun w => ?_⟩
      · by_cases c : b2 = b
        · rw [k.2 (fun v => by have := v.1; omega)]
          exact (e2 b2 t).1 ⟨c, w.2.2.1, Nat.zero_le _, w.2.2.2⟩
        · exact k.1 ⟨by have := w.1; omega, w.2⟩
      · rw [k.2 (fun v => w ⟨by have := v.1; omega, v.2⟩)]
        exact (e2 b2 t).2 (fun v => w ⟨by have := v.1; omega, by have := v.1; omega, v.2.1, v.2.2.2⟩)
theorem zfm65 {P : ZS} {rc : ZS → Int32 → Int32 → Int32 → (ZS × Int32)} {hh b : Nat} {v : Int32} (hb : b < 48) (h64 : hh < 64) : ∀ (n i : Nat) (S : ZS), i ≤ 4 → 4 - i < n → ∃ T, zfix (fun S9 _ _ _ _ => (S9, 0)) (fMO_host_65 P rc) n S (nI hh) v (nI b) (nI i) = rc T (nI hh) v (nI (b + 1)) ∧ ∀ b2 t, t < 256 → (b2 = b ∧ t % 64 = hh ∧ i ≤ t / 64 → T.F 20 (256 * b2 + t) = -1) ∧ (¬ (b2 = b ∧ t % 64 = hh ∧ i ≤ t / 64) → T.F 20 (256 * b2 + t) = S.F 20 (256 * b2 + t)) := by
  have z4 : (4 : Int32) = nI 4 := by decide
  have z64 : (64 : Int32) = nI 64 := by decide
  have z256 : (256 : Int32) = nI 256 := by decide
  intro n
  induction n with
  | zero => intro i S h1 h2; omega
  | succ n ih =>
    intro i S h1 h2
    rw [zfix_s]
    generalize zfix (fun S9 _ _ _ _ => (S9, 0)) (fMO_host_65 P rc) n = rd at ih ⊢
    rw [fMO_host_65]
    repeat rw [zl]
    by_cases d : i = 4
    · rw [z4, if_pos (nI_le (by omega) (by omega)), nI_1]
      exact ⟨S, rfl, fun b2 t ht => ⟨fun w => by obtain ⟨-, -, w1⟩ := w; omega, fun _ => rfl⟩⟩
    · rw [z4, if_neg (nI_ge (by omega) (by omega)), z64, z256, nI_mul, nI_mul, nI_add, nI_add, nI_clamp (by omega), nI_1]
      obtain ⟨T, e1, e2⟩ := ih (i + 1) (S.setF 20 (256 * b + 64 * i + hh) (-1)) (by omega) (by omega)
      refine ⟨T, e1, fun b2 t ht => ⟨fun w => ?_, fun w => ?_⟩⟩
      · obtain ⟨w1, w2, w3⟩ := w
        by_cases c3 : t = i * 64 + hh
        · rw [(e2 b2 t ht).2 (fun v => by obtain ⟨-, -, v3⟩ := v; omega), zFsk, show 256 * b2 + t = 256 * b + 64 * i + hh by omega, upd_at]
        · exact (e2 b2 t ht).1 ⟨w1, w2, by omega⟩
      · rw [(e2 b2 t ht).2 (fun v => w ⟨v.1, v.2.1, by have := v.2.2; omega⟩)]
        have ne : ¬ 256 * b2 + t = 256 * b + 64 * i + hh := fun e => w ⟨by omega, by omega, by omega⟩
        rw [zFsk, upd_ne _ _ ne]
theorem zfm53 {P : ZS} {nb hh : Nat} {v : Int32} (hP : P.I 1 = nI nb) (hn : nb ≤ 48) (h64 : hh < 64) : ∀ (n b : Nat) (S : ZS), b ≤ nb → nb - b < n → ∀ b2 t, b2 < nb → t < 256 → (b ≤ b2 ∧ t % 64 = hh → (zfix (fun S9 _ _ _ => (S9, 0)) (fMO_host_53 P) n S (nI hh) v (nI b)).1.F 20 (256 * b2 + t) = -1) ∧ (¬ (b ≤ b2 ∧ t % 64 = hh) → (zfix (fun S9 _ _ _ => (S9, 0)) (fMO_host_53 P) n S (nI hh) v (nI b)).1.F 20 (256 * b2 + t) = S.F 20 (256 * b2 + t)) := by
  have z0 : (0 : Int32) = nI 0 := by decide
  intro n
  induction n with
  | zero => intro b S h1 h2; omega
  | succ n ih =>
    intro b S h1 h2 b2 t hb2 ht
    rw [zfix_s]
    generalize zfix (fun S9 _ _ _ => (S9, 0)) (fMO_host_53 P) n = rc at ih ⊢
    rw [fMO_host_53]
    repeat rw [zl]
    rw [hP]
    by_cases d : b = nb
    · rw [if_pos (nI_le (by omega) (by omega))]
      exact ⟨fun w => by obtain ⟨w1, -⟩ := w; omega, fun _ => rfl⟩
    · rw [if_neg (nI_ge (by omega) (by omega))]
      obtain ⟨T, e1, e2⟩ := zfm65 (P := P) (rc := rc) (b := b) (v := v) (by omega) h64 5 0 S (by omega) (by omega)
      rw [← z0] at e1
      rw [e1]
      have k := ih (b + 1) T (by omega) (by omega) b2 t hb2 ht
      refine ⟨fun w => ?_, fun w => ?_⟩
      · by_cases c : b2 = b
        · rw [k.2 (fun v => by have := v.1; omega)]
          exact (e2 b2 t ht).1 ⟨c, w.2, Nat.zero_le _⟩
        · exact k.1 ⟨by have := w.1; omega, w.2⟩
      · rw [k.2 (fun v => w ⟨by have := v.1; omega, v.2⟩)]
        exact (e2 b2 t ht).2 (fun v => w ⟨by have := v.1; omega, v.2.1⟩)
theorem zfgO {P P' S S' : ZS} {nb hh : Nat} {v x : Int32} (hP : P'.I 1 = nI nb) (hn : nb ≤ 48) (h64 : hh < 64) (ov : zOv nb S S') {T' : ZS} (f21 : T'.F 21 = S'.F 21) (e : T'.F 20 = (zfix (fun S9 _ _ _ => (S9, 0)) (fMO_host_53 P') 49 ((S'.setI 3 0).setF 22 hh x) (nI hh) v 0).1.F 20) : zOv nb (fTA_forgetHost P (S.setF 23 hh x) (nI hh)) T' := by
  have z0 : (0 : Int32) = nI 0 := by decide
  intro b t hb ht
  have a1 := zfgt (P := P) h64 49 0 (S.setF 23 hh x) (by omega) (by omega) b t
  have a2 := zfm53 (v := v) hP hn h64 49 0 ((S'.setI 3 0).setF 22 hh x) (by omega) (by omega) b t hb ht
  rw [← z0] at a1 a2
  have eg : fTA_forgetHost P (S.setF 23 hh x) (nI hh) = zfix (fun S9 _ _ => S9) (fTA_forgetHost_2 P) 49 (S.setF 23 hh x) (nI hh) 0 := by rw [fTA_forgetHost]
  rw [eg, e, f21]
  by_cases c : t % 64 = hh
  · rw [a1.1 ⟨Nat.zero_le _, by omega, c, by omega⟩, a2.1 ⟨Nat.zero_le _, c⟩]
    exact Or.inl ⟨rfl, rfl⟩
  · rw [a1.2 (fun w => c w.2.2.1), a2.2 (fun w => c w.2), zFsn _ (by omega), zFsn _ (by decide)]
    exact ov b t hb ht
/-! calls that change what was learned, on both sides -/
theorem zC.f0 {no : Nat} {c : Int32} {m K : Nat} {S S' T T' : ZS} {ws fs ws' fs' : List Nat} (h : zC no False c m K S S') (f : zfr 28 ws fs S T) (f' : zfr 100 ws' fs' S' T') (q : ∀ x ∈ zprs, min x.2 28 ∉ fs) (q' : ∀ x ∈ zprs, min x.1 100 ∉ fs') (l : ∀ x ∈ [11, 12], min x 28 ∉ fs) (l' : ∀ x ∈ [24, 25, 26, 27], min x 100 ∉ fs') (q9 : 9 ∉ ws) (q10 : 10 ∉ ws) (q5 : 5 ∉ ws') (ov : zOv no T T') : zC no False c m K T T' := by
  refine ⟨(h.1.fl f q q9).fR f' q' q5, h.2.1.cg (f.2 11 (l 11 (by decide))) (f.2 12 (l 12 (by decide))) (f'.2 24 (l' 24 (by decide))) (f'.2 25 (l' 25 (by decide))) (f'.2 26 (l' 26 (by decide))) (f'.2 27 (l' 27 (by decide))), ov, ?_⟩
  obtain ⟨e, a, b, d, g⟩ := h.2.2.2
  exact ⟨e, a, b, by rw [f.1 9 q9, f.1 10 q10]; exact d, fun w => w.elim⟩
abbrev zLC : List Nat := [11, 12, 13, 14, 15, 16, 17, 18, 19, 20, 21, 22, 27]
abbrev zLM : List Nat := [7, 8, 9, 10, 11, 12, 13, 14, 15, 16, 17, 18, 19, 23, 24, 25, 26, 27]
theorem zXr.fo {n : Nat} {P S P' S' T T' : ZS} {ws fs ws' fs' : List Nat} (h : zXr n P S P' S') (d0 : ¬ P.I 2 = 0) (fC : zfr 28 ws fs S T) (fM : zfr 100 ws' fs' S' T') (c1 : ∀ x ∈ zLC, min x 28 ∉ fs) (c2 : ∀ x ∈ [3, 6, 7, 9, 10, 11, 14], x ∉ ws) (d1 : ∀ x ∈ zLM, min x 100 ∉ fs') (d2 : ∀ x ∈ [4, 5, 9], x ∉ ws') (hh : S'.F 22 = S.F 23 → T'.F 22 = T.F 23) (ho : ∀ nb nl t, zGeo P P' nb nl → S.I 3 = nI t → t ≤ 20000 → S'.I 4 = nI t → S'.F 10 = S.F 14 → zIS P nb nl S S' → zOv nb S S' → zOv nb T T') : zXr (n + 1) P T P' T' := by
  obtain ⟨nb, nl, t, a, b, c, d⟩ := h
  refine ⟨nb, nl, t, a, b, c, ?_⟩
  rcases d with ⟨d, -⟩ | ⟨d, e, f⟩
  · exact absurd d d0
  · obtain ⟨y1, y2, y3, y4, ⟨c9, m, K, hC⟩, hI, hBd, hG⟩ := f
    have rC : ∀ x ∈ zLC, T.F x = S.F x := fun x hx => fC.2 x (c1 x hx)
    have rM : ∀ x ∈ zLM, T'.F x = S'.F x := fun x hx => fM.2 x (d1 x hx)
    have iC : ∀ x ∈ [3, 6, 7, 9, 10, 11, 14], T.I x = S.I x := fun x hx => fC.1 x (c2 x hx)
    have iM : ∀ x ∈ [4, 5, 9], T'.I x = S'.I x := fun x hx => fM.1 x (d2 x hx)
    refine Or.inr ⟨d, e, ?_, ?_, ?_, ?_, ⟨c9, m, K, hC.f0 fC fM (fun x hx => c1 x.2 ((show ∀ y ∈ zprs, y.2 ∈ zLC by decide) x hx)) (fun x hx => d1 x.1 ((show ∀ y ∈ zprs, y.1 ∈ zLM by decide) x hx)) (fun x hx => c1 x ((show ∀ y ∈ [11, 12], y ∈ zLC by decide) x hx)) (fun x hx => d1 x ((show ∀ y ∈ [24, 25, 26, 27], y ∈ zLM by decide) x hx)) (c2 9 (by decide)) (c2 10 (by decide)) (d2 5 (by decide)) (ho nb nl t e y1 c (y2.trans y1) (hC.g 10 14 (by decide)) hI hC.2.2.1)⟩, ?_, ?_, fun e9 => ?_⟩
    · rw [iC 3 (by decide)]; exact y1
    · rw [iM 4 (by decide), iC 3 (by decide)]; exact y2
    · rw [iM 9 (by decide), iC 7 (by decide)]; exact y3
    · exact hh y4
    · exact zI_of hI (rC 14 (by decide)) (rM 7 (by decide)) (rM 15 (by decide)) (rM 16 (by decide))
    · refine (hBd.upn (by omega)).cg (fun q hq => rC q ((show ∀ y ∈ zbr, y ∈ zLC by decide) q hq))
    · rw [iC 11 (by decide)] at e9
      exact zGp_of (hG e9) (rC 27 (by decide)) (rC 14 (by decide)) (iC 6 (by decide)) (iC 14 (by decide))
theorem zqH (P S : ZS) (x : Int32) : (fRG_requireHost P S x = .error 1 ∧ (x < 0 ∨ 64 ≤ x)) ∨ (fRG_requireHost P S x = .ok () ∧ ¬ x < 0 ∧ ¬ 64 ≤ x ∧ ∃ k, k < 64 ∧ x = nI k) := by
  have z64 : (64 : Int32) = nI 64 := by decide
  have z0 : (0 : Int32).toInt = 0 := by decide
  have i64 : (64 : Int32).toInt = 64 := by decide
  unfold fRG_requireHost fRG_requireHost_10
  by_cases a : x < 0
  · rw [if_pos a]; exact Or.inl ⟨rfl, Or.inl a⟩
  · rw [if_neg a]
    by_cases b : x < 64
    · have lt := Int32.lt_iff_toInt_lt.mp b
      have ge : 0 ≤ x.toInt := by
        have := Int.not_lt.mp (fun w => a (Int32.lt_iff_toInt_lt.mpr w))
        omega
      rw [if_pos b]
      refine Or.inr ⟨rfl, a, fun w => ?_, zlN (by omega) ge (by rw [← z64]; exact lt)⟩
      have := Int32.le_iff_toInt_le.mp w
      omega
    · rw [if_neg b]
      refine Or.inl ⟨rfl, Or.inr (Int32.le_iff_toInt_le.mpr ?_)⟩
      exact Int.not_lt.mp (fun w => b (Int32.lt_iff_toInt_lt.mpr w))
theorem zqT (P S : ZS) (x : Int32) : (fRG_requireTag P S x = .error 1 ∧ (x < 0 ∨ 4 ≤ x)) ∨ (fRG_requireTag P S x = .ok () ∧ ¬ x < 0 ∧ ¬ 4 ≤ x ∧ ∃ k, k < 4 ∧ x = nI k) := by
  have z4 : (4 : Int32) = nI 4 := by decide
  have z0 : (0 : Int32).toInt = 0 := by decide
  unfold fRG_requireTag fRG_requireTag_9
  by_cases a : x < 0
  · rw [if_pos a]; exact Or.inl ⟨rfl, Or.inl a⟩
  · rw [if_neg a]
    by_cases b : x < 4
    · have lt := Int32.lt_iff_toInt_lt.mp b
      have ge : 0 ≤ x.toInt := by
        have := Int.not_lt.mp (fun w => a (Int32.lt_iff_toInt_lt.mpr w))
        omega
      rw [if_pos b]
      refine Or.inr ⟨rfl, a, fun w => ?_, zlN (by omega) ge (by rw [← z4]; exact lt)⟩
      have := Int32.le_iff_toInt_le.mp w
      omega
    · rw [if_neg b]
      refine Or.inl ⟨rfl, Or.inr (Int32.le_iff_toInt_le.mpr ?_)⟩
      exact Int.not_lt.mp (fun w => b (Int32.lt_iff_toInt_lt.mpr w))
theorem zsM0 (P S : ZS) (x0 x1 x2 : Int32) : fMO_send P S x0 x1 x2 = if ((x0 < 0 ∨ 64 ≤ x0) ∨ (x1 < 0 ∨ 64 ≤ x1)) ∨ ((x2 < 0 ∨ 4 ≤ x2) ∨ x0 = x1) then (S.setI 3 1, 0) else if S.F 22 x0.toNatClampNeg = -1 ∨ S.F 22 x1.toNatClampNeg = -1 then (S.setI 3 1, 0) else fMO_send_72 P S x0 x1 x2 1 := by
  have n1 : ¬ (1 : Int32) = 0 := by decide
  have e71 : fMO_send_71 P S x0 x1 x2 = (S.setI 3 1, 0) := by
    rw [fMO_send_71, fMO_send_72]
    repeat (first | rw [zl] | rw [zl2])
    rw [zgoF0, if_pos rfl]
  have e38 : fMO_send_38 P S x0 x1 x2 = (S.setI 3 1, 0) := by rw [fMO_send_38, fMO_send_39, if_pos rfl, e71]
  have e39 : fMO_send_39 P S x0 x1 x2 1 = if S.F 22 x0.toNatClampNeg = -1 ∨ S.F 22 x1.toNatClampNeg = -1 then (S.setI 3 1, 0) else fMO_send_72 P S x0 x1 x2 1 := by
    rw [fMO_send_39, if_neg n1]
    repeat rw [zl]
    rw [e71]
    by_cases a : S.F 22 x0.toNatClampNeg = -1
    · rw [if_pos a, if_pos (Or.inl a)]
    · rw [if_neg a]
      by_cases b : S.F 22 x1.toNatClampNeg = -1
      · rw [if_pos b, if_pos (Or.inr b)]
      · rw [if_neg b, if_neg (fun w => w.elim a b)]
  rw [fMO_send, e38, e39]
  by_cases a0 : x0 < 0
  · rw [if_pos a0, if_pos (Or.inl (Or.inl (Or.inl a0)))]
  · rw [if_neg a0]
    by_cases a1 : 64 ≤ x0
    · rw [if_pos a1, if_pos (Or.inl (Or.inl (Or.inr a1)))]
    · rw [if_neg a1]
      by_cases a2 : x1 < 0
      · rw [if_pos a2, if_pos (Or.inl (Or.inr (Or.inl a2)))]
      · rw [if_neg a2]
        by_cases a3 : 64 ≤ x1
        · rw [if_pos a3, if_pos (Or.inl (Or.inr (Or.inr a3)))]
        · rw [if_neg a3]
          by_cases a4 : x2 < 0
          · rw [if_pos a4, if_pos (Or.inr (Or.inl (Or.inl a4)))]
          · rw [if_neg a4]
            by_cases a5 : 4 ≤ x2
            · rw [if_pos a5, if_pos (Or.inr (Or.inl (Or.inr a5)))]
            · rw [if_neg a5]
              by_cases a6 : x0 = x1
              · rw [if_pos a6, if_pos (Or.inr (Or.inr a6))]
              · have nw : ¬ (((x0 < 0 ∨ 64 ≤ x0) ∨ (x1 < 0 ∨ 64 ≤ x1)) ∨ ((x2 < 0 ∨ 4 ≤ x2) ∨ x0 = x1)) := fun w => by
                  rcases w with ((w | w) | (w | w)) | ((w | w) | w)
                  · exact a0 w
                  · exact a1 w
                  · exact a2 w
                  · exact a3 w
                  · exact a4 w
                  · exact a5 w
                  · exact a6 w
                rw [if_neg a6, if_neg nw]
/-- what the class keeps, once started -/
def zKept (P P' S : ZS) : Prop := (P.I 2 = 0 → ∀ j, S.F 23 j = -1) ∧ ∀ nb nl, zPn P nb nl → ¬ P.I 2 = 0 → zGeo P P' nb nl → zKw P nb nl S ∧ ∀ l, l < nl → zshp (zAA P) (zBB P) (zrg P) nl (zrg P l)
theorem zXr.h22b {n : Nat} {P S P' S' : ZS} (h : zXr n P S P' S') : S'.F 22 = S.F 23 := h.h22
/-- send: both refuse alike, or both carry the frame alike -/
theorem zd_send {n : Nat} {P P' S S' : ZS} (h : zIv P P') (hT : zXr n P S P' S') (hK : zKept P P' S) (x0 x1 x2 : Int32) : (∃ k v, fRG_send P S x0 x1 x2 = .error k ∧ (k = 1 ∨ k = 2) ∧ fMO_send P' S' x0 x1 x2 = (S'.setI 3 (if k = 1 then 1 else 2), v)) ∨ ∃ T T' v, fRG_send P S x0 x1 x2 = .ok (T, v) ∧ fMO_send P' S' x0 x1 x2 = (T', v) ∧ T'.I 3 = 0 ∧ T'.I 6 = T.I 13 ∧ zXr (n + 1) P T P' T' := by
  have hs := h.2.2.2.1
  have n1 : ¬ (1 : Int32) = 0 := by decide
  have h22 := hT.h22
  have bad1 : fRG_send P S x0 x1 x2 = .error 1 → fMO_send P' S' x0 x1 x2 = (S'.setI 3 1, 0) → _ := fun e1 e2 => (Or.inl ⟨1, 0, e1, Or.inl rfl, e2⟩ : (∃ k v, fRG_send P S x0 x1 x2 = .error k ∧ (k = 1 ∨ k = 2) ∧ fMO_send P' S' x0 x1 x2 = (S'.setI 3 (if k = 1 then 1 else 2), v)) ∨ ∃ T T' v, fRG_send P S x0 x1 x2 = .ok (T, v) ∧ fMO_send P' S' x0 x1 x2 = (T', v) ∧ T'.I 3 = 0 ∧ T'.I 6 = T.I 13 ∧ zXr (n + 1) P T P' T')
  rcases zqH P S x0 with ⟨c0, b0⟩ | ⟨c0, p0, q0, fh, lf, rfl⟩
  · exact bad1 (by unfold fRG_send; rw [c0]; rfl) (by rw [zsM0, if_pos (Or.inl (Or.inl b0))])
  · rcases zqH P S x1 with ⟨c1, b1⟩ | ⟨c1, p1, q1, th, lt, rfl⟩
    · exact bad1 (by
        unfold fRG_send
        rw [c0]
        show zbind (fRG_requireHost P S x1) _ = _
        rw [c1]; rfl) (by rw [zsM0, if_pos (Or.inl (Or.inr b1))])
    · rcases zqT P S x2 with ⟨c2, b2⟩ | ⟨c2, p2, q2, tg, lg, rfl⟩
      · exact bad1 (by
          unfold fRG_send
          rw [c0]
          show zbind (fRG_requireHost P S (nI th)) _ = _
          rw [c1]
          show zbind (fRG_requireTag P S x2) _ = _
          rw [c2]; rfl) (by rw [zsM0, if_pos (Or.inr (Or.inl b2))])
      · have cf : (nI fh).toNatClampNeg = fh := nI_clamp (by omega)
        have ct : (nI th).toNatClampNeg = th := nI_clamp (by omega)
        have eC : fRG_send P S (nI fh) (nI th) (nI tg) = (if nI fh = nI th then .error 1 else if S.F 23 fh = -1 then .error 1 else if S.F 23 th = -1 then .error 1 else zbind (fRG_requireStarted P S) (fun _ => .ok ((fFR_carry P S (nI fh) (nI th) (nI tg) (S.I 3)).1, (fFR_carry P S (nI fh) (nI th) (nI tg) (S.I 3)).2))) := by
          unfold fRG_send fRG_send_46
          rw [c0]
          show zbind (fRG_requireHost P S (nI th)) _ = _
          rw [c1]
          show zbind (fRG_requireTag P S (nI tg)) _ = _
          rw [c2]
          show (if nI fh = nI th then _ else zl (S.F 23 (nI fh).toNatClampNeg) _) = _
          rw [zl, cf, zl, ct]
          rfl
        have eM := zsM0 P' S' (nI fh) (nI th) (nI tg)
        rw [cf, ct, h22] at eM
        by_cases a1 : nI fh = nI th
        · exact bad1 (by rw [eC, if_pos a1]) (by rw [eM, if_pos (Or.inr (Or.inr a1))])
        · rw [if_neg (fun w => by
            rcases w with ((w | w) | (w | w)) | ((w | w) | w)
            · exact p0 w
            · exact q0 w
            · exact p1 w
            · exact q1 w
            · exact p2 w
            · exact q2 w
            · exact a1 w)] at eM
          rw [if_neg a1] at eC
          by_cases a2 : S.F 23 fh = -1
          · exact bad1 (by rw [eC, if_pos a2]) (by rw [eM, if_pos (Or.inl a2)])
          · rw [if_neg a2] at eC
            by_cases a3 : S.F 23 th = -1
            · exact bad1 (by rw [eC, if_pos a3]) (by rw [eM, if_pos (Or.inr a3)])
            · rw [if_neg a3] at eC
              rw [if_neg (fun w => w.elim a2 a3)] at eM
              by_cases d : P.I 2 = 0
              · refine Or.inl ⟨2, 0, ?_, Or.inr rfl, ?_⟩
                · rw [eC, zst_er d]; rfl
                · rw [eM, fMO_send_72]
                  repeat (first | rw [zl] | rw [zl2])
                  rw [hs, d, zgoF1, if_pos rfl]
                  rfl
              · rw [zst_ok d] at eC
                have eM2 : fMO_send P' S' (nI fh) (nI th) (nI tg) = zfix (fun S9 _ _ _ _ => (S9, 0)) (fMO_send_92 P') 121 ((S'.setI 3 0).setI 6 0) (nI fh) (nI th) (nI tg) 0 := by
                  rw [eM, fMO_send_72]
                  repeat (first | rw [zl] | rw [zl2])
                  rw [zgoOk P' S' _ (by rw [hs]; exact d), if_neg n1]
                have hX := hT
                obtain ⟨nb, nl, t, hp, hpl, ht, hx⟩ := hT
                rcases hx with ⟨d9, -⟩ | ⟨-, g, hY⟩
                · exact absurd d9 d
                · obtain ⟨y1, y2, y3, y4, ⟨c, m, K, hC⟩, hI, hBd, hG⟩ := hY
                  obtain ⟨⟨kw, kh⟩, sh⟩ := hK.2 nb nl hp d g
                  obtain ⟨rk, up, hr⟩ := zforest g sh kw.1
                  obtain ⟨b, hb, eb⟩ := (kh fh).resolve_left a2
                  have hf : ∀ l, l < nl → S.F 14 (2 * l) &&& 1 = 0 → (S'.setI 3 0).F 7 l = 0 := fun l hl w => by
                    have w1 := hI.1 (2 * l) (by omega)
                    rw [show 2 * l / 2 = l by omega] at w1
                    exact w1.mp w
                  obtain ⟨T', v, e1, e2, e3, e4⟩ := zsend9 (S' := S'.setI 3 0) g hr hf lf lt lg ht (hC.g 10 14 (by decide)) h22 (y2.trans y1) (hC.2.2.1.cg (fun _ => rfl) rfl rfl) hb eb
                  rw [y1] at eC
                  have qC := q_fFR_carry P S (nI fh) (nI th) (nI tg) (nI t)
                  have qM := q_fMO_send P' S' (nI fh) (nI th) (nI tg)
                  rw [eM2] at qM ⊢
                  rw [e1] at qM ⊢
                  have q92 := z_fMO_send_92 P' 121 ((S'.setI 3 0).setI 6 0) (nI fh) (nI th) (nI tg) 0
                  rw [e1] at q92
                  refine Or.inr ⟨(fFR_carry P S (nI fh) (nI th) (nI tg) (nI t)).1, T', v, ?_, rfl, ?_, e4, ?_⟩
                  · rw [eC, ← e2]; rfl
                  · exact (q92.1 3 (by decide)).trans rfl
                  · exact hX.fo d qC qM (by decide) (by decide) (by decide) (by decide) (fun e => by rw [qM.2 22 (by decide), qC.2 23 (by decide)]; exact e) (fun nb2 nl2 t2 g2 _ _ _ _ _ _ => by
                      have en : nb2 = nb := by
                        have a := g2.1.1
                        rw [hp.1] at a
                        have := g2.nb
                        have := g.nb
                        exact ((nI_eq (by omega) (by omega)).mp a).symm
                      rw [en]
                      exact e3)
theorem zk_host {n : Nat} {P P' S S' : ZS} {f : Nat → Int64} {x0 x1 r r' : Int32} {w : ZS × ZS × (Nat → Int64)} {x9 : ZS} (h : zIv P P') (hT : zXr n P S P' S') (h1 : zH_host P S f x0 x1 r w) (h2 : (x9, r') = fMO_host P' S' x0 x1) : zXr (n + 1) P w.2.1 P' x9 := by
  have k := (zs_host0 h hT.h22 h1 h2).2
  have qM := q_fMO_host P' S' x0 x1
  rw [← h2] at qM
  have hs := h.2.2.2.1
  have n1 : ¬ (1 : Int32) = 0 := by decide
  have bad : ∀ kk c, fRG_host P S x0 x1 = .error kk → fMO_host P' S' x0 x1 = (S'.setI 3 c, 0) → zXr (n + 1) P w.2.1 P' x9 := fun kk c e1 e2 => by
    unfold zH_host at h1
    rw [e1] at h1
    rw [e2] at h2
    rw [h1.2]
    cases h2
    exact hT.s3 _
  rcases zqH P S x0 with ⟨c0, b0⟩ | ⟨c0, p0, q0, hh, lh, rfl⟩
  · refine bad 1 1 (by unfold fRG_host; rw [c0]; rfl) ?_
    unfold fMO_host fMO_host_23
    rcases b0 with b | b
    · rw [if_pos b, zhm0]
    · by_cases b2 : x0 < 0
      · rw [if_pos b2, zhm0]
      · rw [if_neg b2, if_pos b, zhm0]
  · rcases zqB h.2.2.1 S S' x1 with ⟨m1, d1⟩ | ⟨m1, d1, -, -⟩
    · refine bad 1 1 (by
        unfold fRG_host
        rw [c0]
        show zbind (fRG_requireBridge P S x1) _ = _
        rw [d1]; rfl) ?_
      unfold fMO_host fMO_host_23
      simp only [zl]
      rw [if_neg p0, if_neg q0, m1, if_pos rfl, zhm0]
    · have m0 : fMO_host P' S' (nI hh) x1 = fMO_host_24 P' S' (nI hh) x1 1 := by
        unfold fMO_host
        simp only [zl]
        rw [if_neg p0, if_neg q0, m1, if_neg n1]
      by_cases d : P.I 2 = 0
      · refine bad 2 2 (by
          unfold fRG_host
          rw [c0]
          show zbind (fRG_requireBridge P S x1) _ = _
          rw [d1]
          show zbind (fRG_requireStarted P S) _ = _
          rw [zst_er d]; rfl) (by rw [m0, zhm2 (by rw [hs]; exact d)])
      · have ch : (nI hh).toNatClampNeg = hh := nI_clamp (by omega)
        have e1 : fRG_host P S (nI hh) x1 = .ok (fTA_forgetHost P (S.setF 23 (nI hh).toNatClampNeg x1) (nI hh), S.F 23 (nI hh).toNatClampNeg) := by
          unfold fRG_host
          rw [c0]
          show zbind (fRG_requireBridge P S x1) _ = _
          rw [d1]
          show zbind (fRG_requireStarted P S) _ = _
          rw [zst_ok d]
          rfl
        rw [ch] at e1
        have qC := q_fRG_host P S (nI hh) x1 _ e1
        rw [m0, zhm1 (by rw [hs]; exact d), ch] at h2
        have x20 : x9.F 20 = (zfix (fun S9 _ _ _ => (S9, 0)) (fMO_host_53 P') 49 ((S'.setI 3 0).setF 22 hh x1) (nI hh) (S'.F 22 hh) 0).1.F 20 := by rw [← h2]
        unfold zH_host at h1
        rw [e1] at h1
        rw [h1.2] at k ⊢
        exact hT.fo d qC qM (by decide) (by decide) (by decide) (by decide) (fun _ => k) (fun nb nl t g _ _ _ _ _ ov => zfgO (g.2.1.1.trans g.1.1) g.nb lh ov (qM.2 21 (by decide)) x20)
/-- joined, the reference's groups -/
theorem zjoM {P P' : ZS} {nb nl : Nat} (hp : zPn P nb nl) (hr : zRP P P') {h f : Nat → Int32} (h1 : ∀ l, l < nl → h (2 * l) &&& 1 = 0 → f l = 0) {a b : Nat} (ha : a < nb) (hb : b < nb) : ∀ (n l : Nat) (X : ZS), l ≤ nl → nl - l < n → X.F 10 = h → X.F 7 = f → (∀ i, i < nb → X.F 33 i = zgc P h nb l i) →
    ∃ T, zfix (fun S9 _ _ _ => (S9, 0)) (fMO_joined_59 P') n X (nI a) (nI b) (nI l) = (T, if zgc P h nb nl a = zgc P h nb nl b then 1 else 0) := by
  obtain ⟨hB, hb48, hL, hl60, hR, hE⟩ := hp
  obtain ⟨r1, r2, r3, r4, r5, -⟩ := hr
  intro n
  induction n with
  | zero => intro l X g1 g2; omega
  | succ n ih =>
    intro l X g1 g2 h10 h7 hs
    rw [zfix_s]
    generalize zfix (fun S9 _ _ _ => (S9, 0)) (fMO_joined_59 P') n = rc at ih ⊢
    unfold fMO_joined_59 fMO_joined_98 fMO_joined_99
    simp only [zl, zl2]
    rw [r2, hL, r3, r4]
    by_cases d : l = nl
    · rw [if_pos (nI_le (by omega) (by omega)), nI_clamp (by omega), nI_clamp (by omega), hs a ha, hs b hb, d]
      by_cases w : zgc P h nb nl a = zgc P h nb nl b
      · rw [if_pos w, if_pos w]; exact ⟨X, rfl⟩
      · rw [if_neg w, if_neg w]; exact ⟨X, rfl⟩
    · rw [if_neg (nI_ge (by omega) (by omega)), nI_clamp (by omega), nI_1]
      obtain ⟨la, lb, -⟩ := hE l (by omega)
      by_cases o : zopn h l
      · have o' : ¬ fMO_isOpen P' X (nI l) = 0 := fun e => (zopM (by omega) (by rw [h10, h7]; exact h1 l (by omega))).mp e (by rw [h10]; exact o)
        rw [if_neg o']
        have qj := q_fMO_join P' X (P.F 0 l) (P.F 1 l)
        obtain ⟨X1, e1, f1⟩ := zmj (P := P') (S := X) (a := P.F 0 l) (b := P.F 1 l) (r1.trans hB) hb48
        rw [e1] at qj
        rw [e1]
        have k := ih (l + 1) X1 (by omega) (by omega) ((qj.2 10 (by decide)).trans h10) ((qj.2 7 (by decide)).trans h7) (fun i hi => by
          rw [f1 i, zgc_s, if_pos o]
          unfold zgo
          rw [hs i hi, hs _ la, hs _ lb])
        split
        · exact k
        · exact k
      · have o' : fMO_isOpen P' X (nI l) = 0 := (zopM (by omega) (by rw [h10, h7]; exact h1 l (by omega))).mpr (by rw [h10]; exact o)
        rw [if_pos o']
        exact ih (l + 1) X (by omega) (by omega) h10 h7 (fun i hi => by rw [zgc_s, if_neg o]; exact hs i hi)
theorem zjoinM {P P' : ZS} {nb nl : Nat} (hp : zPn P nb nl) (hr : zRP P P') (S : ZS) (h1 : ∀ l, l < nl → S.F 10 (2 * l) &&& 1 = 0 → S.F 7 l = 0) {a b : Nat} (ha : a < nb) (hb : b < nb) : ∃ T, fMO_joined_22 P' S (nI a) (nI b) 0 = (T, if zgc P (S.F 10) nb nl a = zgc P (S.F 10) nb nl b then 1 else 0) := by
  have z0 : (0 : Int32) = nI 0 := by decide
  have hB := hp.1
  have hb48 := hp.2.1
  have hl60 := hp.2.2.2.1
  have r1 := hr.1
  have key : ∀ (n i : Nat) (X : ZS), i ≤ nb → nb - i < n → X.F 10 = S.F 10 → X.F 7 = S.F 7 → (∀ j, j < i → X.F 33 j = nI j) → ∃ T, zfix (fun S9 _ _ _ => (S9, 0)) (fMO_joined_36 P') n X (nI a) (nI b) (nI i) = (T, if zgc P (S.F 10) nb nl a = zgc P (S.F 10) nb nl b then 1 else 0) := by
    intro n
    induction n with
    | zero => intro i X g1 g2; omega
    | succ n ih =>
      intro i X g1 g2 x10 x7 xs
      rw [zfix_s]
      generalize zfix (fun S9 _ _ _ => (S9, 0)) (fMO_joined_36 P') n = rc at ih ⊢
      unfold fMO_joined_36
      simp only [zl]
      rw [r1, hB]
      by_cases d : i = nb
      · rw [if_pos (nI_le (by omega) (by omega)), z0]
        exact zjoM hp hr h1 ha hb 61 0 X (Nat.zero_le _) (by omega) x10 x7 (fun j hj => xs j (by omega))
      · rw [if_neg (nI_ge (by omega) (by omega)), nI_clamp (by omega), nI_1]
        refine ih (i + 1) (X.setF 33 i (nI i)) (by omega) (by omega) ?_ ?_ (fun j hj => ?_)
        · rw [zFsn _ (by decide)]; exact x10
        · rw [zFsn _ (by decide)]; exact x7
        · rw [zset27]
          by_cases e : j = i
          · rw [if_pos e, e]
          · rw [if_neg e]; exact xs j (by omega)
  unfold fMO_joined_22
  simp only [zl]
  rw [if_pos (by decide)]
  exact key 49 0 (S.setI 3 0) (Nat.zero_le _) (by omega) rfl rfl (fun j hj => absurd hj (Nat.not_lt_zero _))
theorem zd_joined {n : Nat} {P P' S S' : ZS} (h : zIv P P') (hT : zXr n P S P' S') (x0 x1 : Int32) : zAns n P P' S' (fRG_joined P S x0 x1) (fMO_joined P' S' x0 x1) := by
  have n1 : ¬ (1 : Int32) = 0 := by decide
  have e21 : fMO_joined_21 P' S' x0 x1 = (S'.setI 3 1, 0) := by
    unfold fMO_joined_21 fMO_joined_22
    simp only [zl]
    rw [if_neg (by decide)]
  rcases zqB h.2.2.1 S S' x0 with ⟨a1, c1⟩ | ⟨a1, c1, g0, g1⟩
  · refine Or.inl ⟨1, 0, ?_, Or.inl rfl, ?_⟩
    · unfold fRG_joined; rw [c1]; rfl
    · rw [fMO_joined]
      repeat rw [zl]
      rw [a1, if_pos rfl, e21]
      rfl
  · rcases zqB h.2.2.1 S S' x1 with ⟨a2, c2⟩ | ⟨a2, c2, g2, g3⟩
    · refine Or.inl ⟨1, 0, ?_, Or.inl rfl, ?_⟩
      · unfold fRG_joined; rw [c1]
        show zbind (fRG_requireBridge P S x1) _ = _
        rw [c2]; rfl
      · rw [fMO_joined]
        repeat rw [zl]
        rw [a1, if_neg n1, a2, if_pos rfl, e21]
        rfl
    · have hX := hT
      obtain ⟨nb, nl, t, hp, hpl, ht, hx⟩ := hT
      have hb48 := hp.2.1
      rw [hp.1] at g1 g3
      obtain ⟨a, ha, rfl⟩ := zlN (by omega) g0 g1
      obtain ⟨b, hb, rfl⟩ := zlN (by omega) g2 g3
      have qM := q_fMO_joined P' S' (nI a) (nI b)
      have eM : fMO_joined P' S' (nI a) (nI b) = fMO_joined_22 P' S' (nI a) (nI b) 0 := by
        rw [fMO_joined]
        repeat rw [zl]
        rw [a1, a2, if_neg n1, if_neg n1]
      have h10 : S'.F 10 = S.F 14 ∧ ∀ l, l < nl → S'.F 10 (2 * l) &&& 1 = 0 → S'.F 7 l = 0 := by
        rcases hx with ⟨-, -, f1, f2, -⟩ | ⟨-, g, hY⟩
        · have e1 := f2.1 10 (by decide)
          have e2 := f1.1 14 (by decide)
          have e3 := f2.1 7 (by decide)
          exact ⟨by rw [e1, e2], fun l _ _ => by rw [e3]⟩
        · obtain ⟨-, -, -, -, ⟨c, m, K, hC⟩, hI, -⟩ := hY
          have e := hC.g 10 14 (by decide)
          refine ⟨e, fun l hl e9 => ?_⟩
          have w := hI.1 (2 * l) (by omega)
          rw [show 2 * l / 2 = l by omega] at w
          exact w.mp (by rw [← e]; exact e9)
      obtain ⟨T', eT⟩ := zjoinM hp h.2.2.1 S' h10.2 ha hb
      have m3 : T'.I 3 = 0 := by
        have e : (fMO_joined_22 P' S' (nI a) (nI b) 0).1.I 3 = 0 := by
          unfold fMO_joined_22
          simp only [zl]
          rw [if_pos (by decide)]
          exact ((z_fMO_joined_36 P' 49 (S'.setI 3 0) (nI a) (nI b) 0).1 3 (by decide)).trans rfl
        rw [eT] at e
        exact e
      rw [eM, eT] at qM
      rw [eM, eT, h10.1]
      have gp := zgrp hp S
      have qG := q_fRG_groupByOpenLinks P S
      have e14 : (fRG_groupByOpenLinks P S).F 14 = S.F 14 := qG.2 14 (by decide)
      have eC : fRG_joined P S (nI a) (nI b) = .ok (fRG_groupByOpenLinks P S, if zgc P (S.F 14) nb nl a = zgc P (S.F 14) nb nl b then 1 else 0) := by
        unfold fRG_joined; rw [c1]
        show zbind (fRG_requireBridge P S (nI b)) _ = _
        rw [c2]
        have sm := gp.1 a b ha hb
        rw [e14] at sm
        show Except.ok (if (fRG_groupByOpenLinks P S).F 27 (nI a).toNatClampNeg = (fRG_groupByOpenLinks P S).F 27 (nI b).toNatClampNeg then (fRG_groupByOpenLinks P S, (1 : Int32)) else (fRG_groupByOpenLinks P S, 0)) = _
        rw [nI_clamp (by omega), nI_clamp (by omega)]
        by_cases w : zgc P (S.F 14) nb nl a = zgc P (S.F 14) nb nl b
        · rw [if_pos (sm.mpr w), if_pos w]
        · rw [if_neg (fun e => w (sm.mp e)), if_neg w]
      rw [eC]
      refine Or.inr ⟨_, T', _, rfl, rfl, m3, ⟨nb, nl, t, hp, hpl, ht, ?_⟩⟩
      rcases hx with ⟨d, e, f1, f2, f3⟩ | ⟨d, g, hY⟩
      · refine Or.inl ⟨d, e, ⟨fun x hx => ?_, ?_, ?_, ?_, ?_, fun b9 => ?_⟩, ⟨fun x hx => ?_, ?_, ?_, ?_, ?_⟩, ?_⟩
        · rw [qG.2 x ((show ∀ y ∈ zr0C, min y 28 ∉ [27] by decide) x hx)]; exact f1.1 x hx
        · rw [qG.1 3 (by decide)]; exact f1.2.1
        · rw [qG.1 7 (by decide)]; exact f1.2.2.1
        · rw [qG.1 9 (by decide)]; exact f1.2.2.2.1
        · rw [qG.1 11 (by decide)]; exact f1.2.2.2.2.1
        · rw [qG.2 (28 + b9) (by rw [Nat.min_eq_right (Nat.le_add_right 28 b9)]; exact (by decide))]; exact f1.2.2.2.2.2 b9
        · rw [show T'.F x = S'.F x from qM.2 x ((show ∀ y ∈ zr0M, min y 100 ∉ [33] by decide) x hx)]; exact f2.1 x hx
        · rw [show T'.I 4 = S'.I 4 from qM.1 4 (by decide)]; exact f2.2.1
        · rw [show T'.I 5 = S'.I 5 from qM.1 5 (by decide)]; exact f2.2.2.1
        · rw [show T'.I 9 = S'.I 9 from qM.1 9 (by decide)]; exact f2.2.2.2.1
        · rw [show T'.F 20 = S'.F 20 from qM.2 20 (by decide)]; exact f2.2.2.2.2
        · rw [show T'.F 22 = S'.F 22 from qM.2 22 (by decide), qG.2 23 (by decide)]; exact f3
      · obtain ⟨y1, y2, y3, y4, ⟨c, m, K, hC⟩, hI, hBd, hG⟩ := hY
        refine Or.inr ⟨d, g, ?_, ?_, ?_, ?_, ⟨c, m, K, (hC.fl qG (by decide) (by decide) (by decide)).fr (T' := T') qM (by decide) (by decide)⟩, zI_of hI e14 (qM.2 7 (by decide)) (qM.2 15 (by decide)) (qM.2 16 (by decide)), (hBd.upn (by omega)).fr qG (by decide), fun _ => gp⟩
        · rw [qG.1 3 (by decide)]; exact y1
        · rw [show T'.I 4 = S'.I 4 from qM.1 4 (by decide), qG.1 3 (by decide)]; exact y2
        · rw [show T'.I 9 = S'.I 9 from qM.1 9 (by decide), qG.1 7 (by decide)]; exact y3
        · rw [show T'.F 22 = S'.F 22 from qM.2 22 (by decide), qG.2 23 (by decide)]; exact y4

/-! the plan's calls, and the start -/
theorem zXr.sP {n : Nat} {P S P' S' Q Q' T' : ZS} (h : zXr n P S P' S') (d : P.I 2 = 0) (fM : zfr 100 [3] [] S' T') {nb nl : Nat} (hp : zPn Q nb nl) (hpl : zplace Q nl) (d2 : Q.I 2 = 0) (h6 : (∀ j, P'.F 6 j = -1) → ∀ j, Q'.F 6 j = -1) : zXr (n + 1) Q S Q' T' := by
  obtain ⟨nb9, nl9, t, -, -, -, hx⟩ := h
  rcases hx with ⟨-, e, f1, f2, f3⟩ | ⟨d9, -⟩
  · refine ⟨nb, nl, 0, hp, hpl, by omega, Or.inl ⟨d2, h6 e, f1, ⟨fun x hx => ?_, ?_, ?_, ?_, ?_⟩, ?_⟩⟩
    · rw [fM.2 x (by simp)]; exact f2.1 x hx
    · rw [fM.1 4 (by decide)]; exact f2.2.1
    · rw [fM.1 5 (by decide)]; exact f2.2.2.1
    · rw [fM.1 9 (by decide)]; exact f2.2.2.2.1
    · rw [fM.2 20 (by decide)]; exact f2.2.2.2.2
    · rw [fM.2 22 (by simp)]; exact f3
  · exact absurd d d9
theorem zXr.s1 {n : Nat} {P S P' S' T' : ZS} (h : zXr n P S P' S') (fM : zfr 100 [3] [] S' T') : zXr (n + 1) P S P' T' := h.fr (ws := []) (fs := []) zfr.rf fM (by decide) (by decide) (by decide) (by decide) (by decide) (by decide)
theorem zXr.pl {n : Nat} {P S P' S' : ZS} (h : zXr n P S P' S') {nb nl : Nat} (hp : zPn P nb nl) : zplace P nl := by
  obtain ⟨nb9, nl9, t, hp9, hpl, -⟩ := h
  have e : nl9 = nl := by
    have w := hp9.2.2.1
    rw [hp.2.2.1] at w
    have := hp.2.2.2.1
    have := hp9.2.2.2.1
    exact ((nI_eq (by omega) (by omega)).mp w).symm
  rw [← e]
  exact hpl
theorem znst {P S : ZS} (d : ¬ P.I 2 = 0) : fRG_requireNotStarted P S = .error 2 := by
  rw [fRG_requireNotStarted, zl, if_neg d]
theorem zk_bridge {n : Nat} {P P' S S' : ZS} {f : Nat → Int64} {r r' : Int32} {w : ZS × ZS × (Nat → Int64)} {w' : ZS × ZS} (h : zIv P P') (hT : zXr n P S P' S') (h1 : zH_bridge P S f r w) (h2 : (w'.1, w'.2, r') = fMO_bridge P' S') (hJ : zIv w.1 w'.1) : zXr (n + 1) w.1 w.2.1 w'.1 w'.2 := by
  obtain ⟨P1, S1, f1⟩ := w
  obtain ⟨P2, S2⟩ := w'
  have qM := q_fMO_bridge P' S'
  rw [← h2] at qM
  rcases zbridge h S S' with ⟨⟨k, e1⟩, e2⟩ | ⟨e1, e2, e3⟩
  · unfold zH_bridge at h1
    rw [e1] at h1
    rw [e2] at h2
    obtain ⟨-, hw⟩ := h1
    cases hw
    cases h2
    exact hT.s1 qM
  · have d : P.I 2 = 0 := by
      by_cases d : P.I 2 = 0
      · exact d
      · unfold fRG_bridge at e1
        rw [znst d] at e1
        cases e1
    unfold zH_bridge at h1
    rw [e1] at h1
    rw [e2] at h2
    obtain ⟨-, hw⟩ := h1
    cases hw
    cases h2
    obtain ⟨-, -, -, -, -, ⟨nb, nl, hp, -⟩, -⟩ := hJ
    have hX := hT
    obtain ⟨nb0, nl0, t, hp0, hpl, -⟩ := hT
    have e : nl0 = nl := by
      have w := hp0.2.2.1
      have w2 : P.I 1 = nI nl := hp.2.2.1
      rw [w2] at w
      have := hp.2.2.2.1
      have := hp0.2.2.2.1
      exact ((nI_eq (by omega) (by omega)).mp w).symm
    exact hX.sP d qM hp (by rw [← e]; exact hpl) d (fun e => e)
theorem zk_owner {n : Nat} {P P' S S' : ZS} {f : Nat → Int64} {x0 x1 x2 r : Int32} {w : ZS × ZS × (Nat → Int64)} {w' : ZS × ZS} (h : zIv P P') (hT : zXr n P S P' S') (h1 : zH_owner P S f x0 x1 x2 r w) (h2 : w' = fMO_owner P' S' x0 x1 x2) (hJ : zIv w.1 w'.1) : zXr (n + 1) w.1 w.2.1 w'.1 w'.2 := by
  obtain ⟨P1, S1, f1⟩ := w
  obtain ⟨P2, S2⟩ := w'
  have qM := q_fMO_owner P' S' x0 x1 x2
  rw [← h2] at qM
  rcases zowner h S S' x0 x1 x2 with ⟨k, S3, e1, e2⟩ | ⟨S3, e1, e2, e3⟩
  · unfold zH_owner at h1
    rw [e1] at h1
    rw [e2] at h2
    obtain ⟨-, hw⟩ := h1
    cases hw
    cases h2
    exact hT.s1 qM
  · have d : P.I 2 = 0 := by
      by_cases d : P.I 2 = 0
      · exact d
      · unfold fRG_owner at e1
        rw [znst d] at e1
        cases e4 : fRG_requireRing P S x0 with
        | error q => rw [e4] at e1; cases e1
        | ok u =>
          rw [e4] at e1
          cases e5 : fRG_requireBridge P S x1 with
          | error q => rw [e5] at e1; cases e1
          | ok u2 =>
            rw [e5] at e1
            cases e6 : fRG_requireLink P S x2 with
            | error q => rw [e6] at e1; cases e1
            | ok u3 => rw [e6] at e1; cases e1
    unfold zH_owner at h1
    rw [e1] at h1
    rw [e2] at h2
    obtain ⟨-, hw⟩ := h1
    cases hw
    cases h2
    obtain ⟨-, -, -, -, -, ⟨nb, nl, hp, -⟩, -⟩ := hJ
    have hp1 : zPn P nb nl := by
      have e0 : ((P.setF 3 x0.toNatClampNeg x1).setF 4 x0.toNatClampNeg x2).F 0 = P.F 0 := by rw [zFsn _ (by decide), zFsn _ (by decide)]
      have e1 : ((P.setF 3 x0.toNatClampNeg x1).setF 4 x0.toNatClampNeg x2).F 1 = P.F 1 := by rw [zFsn _ (by decide), zFsn _ (by decide)]
      have e2 : ((P.setF 3 x0.toNatClampNeg x1).setF 4 x0.toNatClampNeg x2).F 2 = P.F 2 := by rw [zFsn _ (by decide), zFsn _ (by decide)]
      unfold zPn at hp ⊢
      rw [e0, e1, e2] at hp
      exact hp
    have hpl := hT.pl hp1
    refine hT.sP d qM hp (fun l hl => ?_) d (fun e j => ?_)
    · have w := hpl l hl
      unfold zpl at w ⊢
      rw [zFsn _ (by decide), zFsn _ (by decide), zFsn _ (by decide), zFsn _ (by decide), zFsn _ (by decide), zFsn _ (by decide), zFsn _ (by decide), zFsn _ (by decide)]
      exact w
    · rw [zFsn _ (by decide), zFsn _ (by decide)]
      exact e j
theorem zk_link {n : Nat} {P P' S S' : ZS} {f : Nat → Int64} {x0 x1 x2 r r' : Int32} {w : ZS × ZS × (Nat → Int64)} {w' : ZS × ZS} (h : zIv P P') (hT : zXr n P S P' S') (h1 : zH_link P S f x0 x1 x2 r w) (h2 : (w'.1, w'.2, r') = fMO_link P' S' x0 x1 x2) (hJ : zIv w.1 w'.1) : zXr (n + 1) w.1 w.2.1 w'.1 w'.2 := by
  obtain ⟨P1, S1, f1⟩ := w
  obtain ⟨P2, S2⟩ := w'
  have qM := q_fMO_link P' S' x0 x1 x2
  rw [← h2] at qM
  rcases zlink h S S' x0 x1 x2 with ⟨k, S3, e1, e2⟩ | ⟨S3, e1, e2, e3⟩
  · unfold zH_link at h1
    rw [e1] at h1
    rw [e2] at h2
    obtain ⟨-, hw⟩ := h1
    cases hw
    cases h2
    exact hT.s1 qM
  · have d : P.I 2 = 0 := by
      by_cases d : P.I 2 = 0
      · exact d
      · unfold fRG_link at e1
        rw [znst d] at e1
        cases e4 : fRG_requireBridge P S x0 with
        | error q => rw [e4] at e1; cases e1
        | ok u =>
          rw [e4] at e1
          cases e5 : fRG_requireBridge P S x1 with
          | error q => rw [e5] at e1; cases e1
          | ok u2 =>
            rw [e5] at e1
            cases e6 : fRG_requireRing P S x2 with
            | error q => rw [e6] at e1; cases e1
            | ok u3 =>
              rw [e6] at e1
              simp only [zbind] at e1
              split at e1 <;> cases e1
    unfold zH_link at h1
    rw [e1] at h1
    rw [e2] at h2
    obtain ⟨-, hw⟩ := h1
    cases hw
    cases h2
    obtain ⟨-, -, -, -, -, ⟨nb, nl, hp, -⟩, -⟩ := hJ
    have hX := hT
    obtain ⟨nb0, nl0, t, hp0, hpl, -⟩ := hT
    have hl0 := hp0.2.2.2.1
    have hl1 := hp.2.2.2.1
    have e : nl = nl0 + 1 := by
      have w : P.I 1 + 1 = nI nl := hp.2.2.1
      rw [hp0.2.2.1, nI_1] at w
      exact ((nI_eq (by omega) (by omega)).mp w).symm
    have ec : (P.I 1).toNatClampNeg = nl0 := by rw [hp0.2.2.1]; exact nI_clamp (by omega)
    have z2 : (2 : Int32) = nI 2 := by decide
    have e20 : (2 * P.I 1).toNatClampNeg = 2 * nl0 := by rw [hp0.2.2.1, z2, nI_mul]; exact nI_clamp (by omega)
    have e21 : (2 * P.I 1 + 1).toNatClampNeg = 2 * nl0 + 1 := by rw [hp0.2.2.1, z2, nI_mul, nI_1]; exact nI_clamp (by omega)
    have z6 : (6 : Int32) = nI 6 := by decide
    refine hX.sP d qM hp (fun l hl => ?_) d (fun e9 j => ?_)
    · unfold zpl
      rw [zadd_5, zadd_5, zadd_0, zadd_1, zadd_2, ec, e20, e21]
      by_cases el : l = nl0
      · subst el
        obtain ⟨-, -, -, q4, q5⟩ := hp.2.2.2.2.2 l (by omega)
        have q2 := hp.2.2.2.2.1 l
        rw [zadd_0, ec, if_pos rfl] at q4
        rw [zadd_1, ec, if_pos rfl] at q5
        rw [zadd_2, ec, if_pos rfl] at q2
        have t4 := q4.2
        have t5 := q5.2
        have t2 := q2.2
        have u4 := q4.1
        have u5 := q5.1
        have u2 := q2.1
        rw [if_neg (by omega), if_pos rfl, if_pos rfl, if_pos rfl, if_pos rfl, if_pos rfl]
        have w4 : x0.toNatClampNeg ≤ 47 := by show x0.toInt.toNat ≤ 47; omega
        have w5 : x1.toNatClampNeg ≤ 47 := by show x1.toInt.toNat ≤ 47; omega
        have w2 : x2.toNatClampNeg ≤ 5 := by show x2.toInt.toNat ≤ 5; omega
        have e4 := znI q4
        have e5 := znI q5
        have e2 := znI q2
        constructor
        · have : x0 * 6 + x2 = nI (x0.toNatClampNeg * 6 + x2.toNatClampNeg) := by
            rw [← nI_add, ← nI_mul, ← z6, ← e4, ← e2]
          rw [this, nI_clamp (by omega)]
          omega
        · have : x1 * 6 + x2 = nI (x1.toNatClampNeg * 6 + x2.toNatClampNeg) := by
            rw [← nI_add, ← nI_mul, ← z6, ← e5, ← e2]
          rw [this, nI_clamp (by omega)]
          omega
      · rw [if_neg (show ¬ 2 * l = 2 * nl0 + 1 by omega), if_neg (show ¬ 2 * l = 2 * nl0 by omega), if_neg (show ¬ 2 * l + 1 = 2 * nl0 + 1 by omega), if_neg (show ¬ 2 * l + 1 = 2 * nl0 by omega), if_neg el, if_neg el, if_neg el]
        exact hpl l (by omega)
    · have w : (zaddM P' x0 x1 x2).F 6 = P'.F 6 := zaddM_F (by decide) (by decide) (by decide)
      show (zaddM P' x0 x1 x2).F 6 j = -1
      rw [w]
      exact e9 j
theorem zdg_I (P : ZS) (t : Nat) (v : Int32) (b r : Int32) : ∀ n, zdg (P.setI t v) b r n = zdg P b r n
  | 0 => rfl
  | n + 1 => by
    show zdg (P.setI t v) b r n + _ = zdg P b r n + _
    rw [zdg_I P t v b r n]
    rfl
theorem zFC_C {nb : Nat} {S S' : ZS} (h : zFC S) (h' : zFM S') : zC nb False (S.I 10 + S.I 9) 0 0 S S' := by
  refine ⟨⟨fun p hp => ?_, by rw [h'.2.2.1, h.2.2.2.1]⟩, fun L => ⟨0, by omega, by rw [h.1 12 (by decide)]; rfl, fun k hk => absurd hk (Nat.not_lt_zero _)⟩, fun b t hb ht => Or.inl ⟨congrFun (h.2.2.2.2.2 b) t, congrFun h'.2.2.2.2 _⟩, ⟨0, Nat.le_refl _, Nat.le_refl _, ?_, fun w => w.elim⟩⟩
  · rw [h'.1 p.1 ((show ∀ y ∈ zprs, y.1 ∈ zr0M by decide) p hp), h.1 p.2 ((show ∀ y ∈ zprs, y.2 ∈ zr0C by decide) p hp)]
  · rw [nI_0]
    exact (zadd0 _).symm
theorem zFC_I {P : ZS} {nb nl : Nat} {S S' : ZS} (h : zFC S) (h' : zFM S') : zIS P nb nl S S' := by
  show zI P nb nl _ _ _ _
  rw [h.1 14 (by decide), h'.1 7 (by decide), h'.1 15 (by decide), h'.1 16 (by decide)]
  exact ⟨fun q hq => ⟨fun _ => rfl, fun _ => zand0 1⟩, fun k => Or.inl ⟨rfl, fun q hq hp => zand0 6⟩, fun q hq => Or.inl (zand0 16)⟩
theorem zFC_B {P : ZS} {n : Nat} {S : ZS} (h : zFC S) : zBd P n 0 0 0 S := by
  have z : (0 : Int32).toInt = 0 := by decide
  intro row j
  by_cases c : row ∈ zbr
  · rcases zbr_c c with rfl | rfl | rfl | rfl | rfl | rfl | rfl | rfl
    · rw [h.1 12 (by decide)]; intro _; rfl
    · rw [h.1 13 (by decide)]; exact Int.le_of_eq z.symm
    · rw [h.1 15 (by decide)]; exact Int.le_of_eq z.symm
    · rw [h.1 16 (by decide)]; exact zbq16
    · rw [h.1 17 (by decide)]; exact Int.le_of_eq z.symm
    · rw [h.1 18 (by decide)]
      show 0 ≤ (0 : Int32).toInt ∧ (0 : Int32).toInt ≤ ((0 : Nat) : Int) + 1 + (if zop P j < 0 then 1 else 0)
      rw [z, if_neg (Nat.not_lt_zero _)]
      omega
    · rw [h.1 19 (by decide)]
      show 0 ≤ (0 : Int32).toInt ∧ (0 : Int32).toInt ≤ (n : Int)
      rw [z]; omega
    · rw [h.1 20 (by decide)]
      show 0 ≤ (0 : Int32).toInt ∧ (0 : Int32).toInt ≤ (n : Int)
      rw [z]; omega
  · exact zbq_o c
theorem zFC.fr {S T : ZS} {ws fs : List Nat} (h : zFC S) (f : zfr 28 ws fs S T) (q : ∀ x ∈ zr0C ++ [28], min x 28 ∉ fs) (q2 : ∀ x ∈ [3, 7, 9, 11], x ∉ ws) : zFC T := ⟨fun x hx => by rw [f.2 x (q x (List.mem_append_left _ hx))]; exact h.1 x hx, by rw [f.1 3 (q2 3 (by decide))]; exact h.2.1, by rw [f.1 7 (q2 7 (by decide))]; exact h.2.2.1, by rw [f.1 9 (q2 9 (by decide))]; exact h.2.2.2.1, by rw [f.1 11 (q2 11 (by decide))]; exact h.2.2.2.2.1, fun b9 => by rw [f.2 (28 + b9) (by rw [Nat.min_eq_right (Nat.le_add_right 28 b9)]; exact q 28 (by decide))]; exact h.2.2.2.2.2 b9⟩
theorem zFM.fr {S T : ZS} {ws fs : List Nat} (h : zFM S) (f : zfr 100 ws fs S T) (q : ∀ x ∈ zr0M ++ [20], min x 100 ∉ fs) (q2 : ∀ x ∈ [4, 5, 9], x ∉ ws) : zFM T := ⟨fun x hx => by rw [f.2 x (q x (List.mem_append_left _ hx))]; exact h.1 x hx, by rw [f.1 4 (q2 4 (by decide))]; exact h.2.1, by rw [f.1 5 (q2 5 (by decide))]; exact h.2.2.1, by rw [f.1 9 (q2 9 (by decide))]; exact h.2.2.2.1, by rw [f.2 20 (q 20 (by decide))]; exact h.2.2.2.2⟩
theorem zk_start {n : Nat} {P P' S S' : ZS} {f : Nat → Int64} {r r' : Int32} {w : ZS × ZS × (Nat → Int64)} {w' : ZS × ZS} (h : zIv P P') (hT : zXr n P S P' S') (h1 : zH_start P S f r w) (g1 : cok w.1) (h2 : (w'.1, w'.2, r') = fMO_start P' S') : zXr (n + 1) w.1 w.2.1 w'.1 w'.2 := by
  obtain ⟨P1, S1, f1⟩ := w
  obtain ⟨P2, S2⟩ := w'
  obtain ⟨hc, hm, hr, hs, hm2, ⟨nb, nl, hp, hc0⟩, hq⟩ := h
  have z0 : (0 : Int32).toInt = 0 := by decide
  by_cases d : P.I 2 = 0
  · have hpre : zPre P := by
      rcases hq with ⟨_, hq⟩ | ⟨hq, _⟩
      · exact hq
      · exact absurd d hq
    have hpl := hT.pl hp
    obtain ⟨nb9, nl9, t9, -, -, -, hx⟩ := hT
    rcases hx with ⟨-, h6, fC, fM, h22⟩ | ⟨d9, -⟩
    · have en : fRG_requireNotStarted P S = .ok () := by
        rw [fRG_requireNotStarted, zl, if_pos d]
      have d' : P'.I 0 = 0 := by rw [hs]; exact d
      obtain ⟨fe, fc⟩ := zfaults (S := S) (S' := S'.setI 3 0) hp (fun j => hc.1 4 j) hr hm2 hc0
      have pos := zff_pos P S
      have dg := zff_dg (S := S) hp
      obtain ⟨k8, kOw⟩ := zff (P := P) (S := S) (P1 := (fPL_firstFault P S).1) (S1 := (fPL_firstFault P S).2.1) (k := (fPL_firstFault P S).2.2) rfl
      obtain ⟨k5, -⟩ := zfo (P := P') (S := S'.setI 3 0) (P1 := (fMO_faultOf P' (S'.setI 3 0)).1) (S1 := (fMO_faultOf P' (S'.setI 3 0)).2.1) (k := (fMO_faultOf P' (S'.setI 3 0)).2.2) hm rfl
      have hrk := zRP_k hr k8 k5
      have ec : fRG_start P S = .ok (if (fPL_firstFault P S).2.2 = 0 then ((fPL_layPorts ((fPL_firstFault P S).1.setI 2 1) (fPL_firstFault P S).2.1).1, fPR_takeAllHolds (fPL_layPorts ((fPL_firstFault P S).1.setI 2 1) (fPL_firstFault P S).2.1).1 (fPL_layPorts ((fPL_firstFault P S).1.setI 2 1) (fPL_firstFault P S).2.1).2, (fPL_firstFault P S).2.2) else fPL_firstFault P S) := by
        simp only [fRG_start, zl, zl2, zl3, fRG_start_39]
        rw [en]
        rfl
      have em : fMO_start P' S' = (if (fMO_faultOf P' (S'.setI 3 0)).2.2 ≤ 0 then zfix (fun P9 S9 _ => (P9, S9, 0)) fMO_start_43 49 ((fMO_faultOf P' (S'.setI 3 0)).1.setI 0 1) (fMO_faultOf P' (S'.setI 3 0)).2.1 0 else fMO_faultOf P' (S'.setI 3 0)) := by
        simp only [fMO_start, fMO_start_13, zl, zl3]
        rw [if_pos d', if_pos (by decide : (0 : Int32) ≤ 0)]
      have qC := q_fPL_firstFault P S
      have qM := q_fMO_faultOf P' (S'.setI 3 0)
      unfold zH_start at h1
      rw [ec] at h1
      rw [em] at h2
      have gC : zFC (fPL_firstFault P S).2.1 := fC.fr qC (by decide) (by decide)
      have fM0 : zFM (S'.setI 3 0) := fM.fr (zfr.I zfr.rf (by decide) : zfr 100 [3] [] S' (S'.setI 3 0)) (by decide) (by decide)
      have gM : zFM (fMO_faultOf P' (S'.setI 3 0)).2.1 := fM0.fr qM (by decide) (by decide)
      have g22 : (fMO_faultOf P' (S'.setI 3 0)).2.1.F 22 = (fPL_firstFault P S).2.1.F 23 := by
        rw [qM.2 22 (by decide), qC.2 23 (by decide)]
        exact h22
      generalize fPL_firstFault P S = O at fe fc pos dg k8 kOw hrk qC gC g22 h1
      generalize fMO_faultOf P' (S'.setI 3 0) = O' at fe k5 hrk qM gM g22 h2
      have hpO : zPn O.1 nb nl := zPn_k k8 hp
      have hplO : zplace O.1 nl := fun l hl => by
        have w := hpl l hl
        unfold zpl at w ⊢
        rw [k8.2 5 (by decide), k8.2 0 (by decide), k8.2 1 (by decide), k8.2 2 (by decide)]
        exact w
      have h6O : ∀ j, O'.1.F 6 j = -1 := fun j => by rw [k5.2 6 (by decide)]; exact h6 j
      by_cases c : O.2.2 = 0
      · have c' : O'.2.2 ≤ 0 := by rw [← fe, c]; decide
        rw [if_pos c] at h1
        rw [if_pos c'] at h2
        -- the plan that is laid
        obtain ⟨-, hw⟩ := h1
        cases hw
        have i1 : (O.1.setI 2 1).I 1 = P.I 1 := by
          show O.1.I 1 = P.I 1
          rw [k8.1]
        obtain ⟨y1, y2⟩ := zlay_fr (P := O.1.setI 2 1) (S := O.2.1) (by rw [i1]; exact hc.2.1 1) (fun j => by
          show zr 0 287 (O.1.F 5 j)
          rw [k8.2 5 (by decide)]
          exact hc.1 5 j)
        have gP2 : cok (O.1.setI 2 1) := by
          refine ⟨fun q j => ?_, fun t => ?_, fun q hq9 j => ?_⟩
          · by_cases e6 : q = 6
            · rw [e6]
              show zr _ _ (O.1.F 6 j)
              rw [k8.2 6 (by decide)]
              exact hc.1 6 j
            · by_cases e7 : q = 7
              · rw [e7]
                show zr _ _ (O.1.F 7 j)
                rw [k8.2 7 (by decide)]
                exact hc.1 7 j
              · have := g1.1 q j
                rw [y2 q e6 e7] at this
                exact this
          · have := g1.2.1 t
            rw [y1] at this
            exact this
          · by_cases e6 : q = 6
            · rw [e6] at hq9; exact absurd hq9 (by decide)
            · by_cases e7 : q = 7
              · rw [e7] at hq9; exact absurd hq9 (by decide)
              · have := g1.2.2 q hq9 j
                rw [y2 q e6 e7] at this
                exact this
        have hpP : zPn (O.1.setI 2 1) nb nl := hpO
        have hrP : zRP (O.1.setI 2 1) (O'.1.setI 0 1) := hrk
        have hplP : zplace (O.1.setI 2 1) nl := hplO
        have z00 : (0 : Int32) = nI 0 := by decide
        obtain ⟨Q1, kQ, lQ, eQ⟩ := zlayM hpP hplP hrP 49 (O'.1.setI 0 1) O'.2.1 0 zk.rf (fun c9 r9 hc9 hr9 => by
          have es : zseen nl 0 0 c9 = 0 := by
            unfold zseen
            rw [if_neg (Nat.not_lt_zero _)]
            split <;> rfl
          rw [es]
          exact ⟨h6O _, h6O _⟩) (Nat.zero_le _) (by have := hp.2.1; omega)
        have geo : zGeo (fPL_layPorts (O.1.setI 2 1) O.2.1).1 Q1 nb nl := zgeo_lay gP2 hpP hrP hplP (zPre_I (zPre_k hpre k8)) (fun b hb r hr9 => by
          rw [zdg_I, zdg_k k8]
          exact dg c b hb r hr9) (zOwned_I (kOw c)) kQ lQ
        have qL := q_fPL_layPorts (O.1.setI 2 1) O.2.1
        have gL : zFC (fPL_layPorts (O.1.setI 2 1) O.2.1).2 := gC.fr qL (by decide) (by decide)
        have l22 : O'.2.1.F 22 = (fPL_layPorts (O.1.setI 2 1) O.2.1).2.F 23 := by
          rw [qL.2 23 (by decide)]
          exact g22
        have hI3 : (fPL_layPorts (O.1.setI 2 1) O.2.1).1.I 2 = 1 := by rw [y1]; rfl
        rw [← z00] at eQ
        rw [eQ] at h2
        generalize (fPL_layPorts (O.1.setI 2 1) O.2.1).1 = P3 at geo hI3 ⊢
        generalize (fPL_layPorts (O.1.setI 2 1) O.2.1).2 = S3 at gL l22 ⊢
        obtain ⟨U', e1, e2, e3, e4, e5⟩ := ztkall (n := n + 1) (tk := False) (c := S3.I 10 + S3.I 9) (m := 0) geo 7 0 0 S3 O'.2.1 (by omega) (by omega) (zFC_C (nb := nb) gL gM) (zFC_I gL gM) (zFC_B gL) (fun j => by rw [gL.1 17 (by decide)]) (fun j _ => by rw [gL.1 18 (by decide)])
        rw [← z00] at e1 e2 e3 e4
        rw [e1] at h2
        cases h2
        have qT := q_fPR_takeAllHolds P3 S3
        have hcT := hc_fPR_takeAllHolds P3 S3
        have eA : fPR_takeAllHolds P3 S3 = zfix (fun S9 _ => S9) (fPR_takeAllHolds_2 P3) 7 S3 0 := rfl
        rw [← eA] at e2 e3 e4
        refine ⟨nb, nl, 0, geo.1, geo.2.2.1, by omega, Or.inr ⟨by rw [hI3]; decide, geo, ?_, ?_, ?_, ?_, ⟨_, _, _, e2⟩, e3, e4, fun e9 => ?_⟩⟩
        · rw [qT.1 3 (by decide), gL.2.1]; decide
        · rw [e5.1 4 (by decide), gM.2.1, qT.1 3 (by decide), gL.2.1]
        · rw [e5.1 9 (by decide), gM.2.2.2.1, qT.1 7 (by decide), gL.2.2.1]
        · rw [e5.2, qT.2 23 (by decide)]; exact l22
        · have := (hcT e9).1
          rw [gL.2.2.2.2.1] at this
          exact absurd this (by decide)
      · have c' : ¬ O'.2.2 ≤ 0 := fun q => by
          rw [← fe] at q
          have := Int32.le_iff_toInt_le.mp q
          exact c (Int32.toInt_inj.mp (by omega))
        rw [if_neg c] at h1
        rw [if_neg c'] at h2
        obtain ⟨-, hw⟩ := h1
        obtain ⟨O1, O2, O3⟩ := O
        obtain ⟨Q1, Q2, Q3⟩ := O'
        cases hw
        cases h2
        exact ⟨nb, nl, 0, hpO, hplO, by omega, Or.inl ⟨by rw [show O1.I 2 = P.I 2 by rw [k8.1]]; exact d, h6O, gC, gM, g22⟩⟩
    · exact absurd d d9
  · have e1 : fRG_start P S = .error 2 := by
      unfold fRG_start
      rw [znst d]
      rfl
    have d' : ¬ P'.I 0 = 0 := by rw [hs]; exact d
    have e2 : fMO_start P' S' = (P', S'.setI 3 1, 0) := by
      simp only [fMO_start, fMO_start_13, zl, zl3]
      rw [if_neg d', if_neg (by decide : ¬ (1 : Int32) ≤ 0)]
    unfold zH_start at h1
    rw [e1] at h1
    rw [e2] at h2
    obtain ⟨-, hw⟩ := h1
    cases hw
    cases h2
    exact hT.s3 1
/-! answers that are read off -/
theorem zs_holds {n : Nat} {P P' S S' : ZS} {f : Nat → Int64} {x0 x1 r r' : Int32} {w : ZS × ZS × (Nat → Int64)} {x9 : ZS} (h : zIv P P') (hT : zXr n P S P' S') (h1 : zH_holds P S f x0 x1 r w) (h2 : (x9, r') = fMO_holds P' S' x0 x1) : (x9.I 3 = r ∧ (r = 0 → w.2.2 (0 : Int32).toNatClampNeg = r'.toInt64)) ∧ zXr (n + 1) P w.2.1 P' x9 := by
  obtain ⟨P1, S1, f1⟩ := w
  have n1 : ¬ (1 : Int32) = 0 := by decide
  have qM := q_fMO_holds P' S' x0 x1
  rw [← h2] at qM
  have hX := hT
  obtain ⟨nb, nl, t, hp, hpl, ht, hx⟩ := hT
  have e30 : fMO_holds_30 P' S' x0 x1 = (S'.setI 3 1, 0) := by
    unfold fMO_holds_30 fMO_holds_31
    simp only [zl]
    rw [if_neg (by decide)]
  rcases zqP h.2.2.1 hp S S' x0 x1 with ⟨c1, a1⟩ | ⟨b, l, q, hb, hl, rfl, rfl, c1, a1, a2, a3, ep, hql, hq2, hends⟩
  · have e1 : fRG_holds P S x0 x1 = .error 1 := by
      unfold fRG_holds; rw [c1]; rfl
    have eM : fMO_holds P' S' x0 x1 = (S'.setI 3 1, 0) := by
      rw [fMO_holds]
      repeat rw [zl]
      rcases a1 with a | a | a
      · rw [a, if_pos rfl, e30]
      · rw [a]
        split
        · rw [e30]
        · rw [if_pos rfl, e30]
      · rw [a]
        split
        · rw [e30]
        · split
          · rw [e30]
          · rw [if_pos rfl, e30]
    unfold zH_holds at h1
    rw [e1] at h1
    rw [eM] at h2
    obtain ⟨hr, hw⟩ := h1
    cases hw
    cases h2
    exact ⟨⟨by rw [hr]; rfl, fun r0 => by rw [hr] at r0; exact absurd r0 n1⟩, hX.s3 1⟩
  · have hl60 := hp.2.2.2.1
    have e1 : fRG_holds P S (nI b) (nI l) = .ok (S.F 14 q) := by
      unfold fRG_holds; rw [c1]
      show Except.ok (zl (fPL_portOf P S (nI b) (nI l)) _) = _
      rw [ep]
      show Except.ok (S.F 14 (nI q).toNatClampNeg) = _
      rw [nI_clamp (by omega)]
    have z2 : (2 : Int32) = nI 2 := by decide
    have z0 : (0 : Int32) = nI 0 := by decide
    have ee : fMO_end P' (S'.setI 3 0) (nI b) (nI l) = nI q := by
      rw [fMO_end]
      repeat rw [zl]
      rw [h.2.2.1.2.2.1, nI_clamp (by omega)]
      rcases hends with ⟨w1, w2⟩ | ⟨w1, w2, -⟩
      · rw [if_pos w2, fMO_end_18, zl, z2, nI_mul, z0, nI_add]
        congr 1
        omega
      · rw [if_neg w2, fMO_end_18, zl, z2, nI_mul, nI_1]
        congr 1
        omega
    have h10 : S'.F 10 = S.F 14 := by
      rcases hx with ⟨-, -, f1, f2, -⟩ | ⟨-, g, hY⟩
      · rw [f2.1 10 (by decide), f1.1 14 (by decide)]
      · obtain ⟨-, -, -, -, ⟨c, m, K, hC⟩, -⟩ := hY
        exact hC.g 10 14 (by decide)
    have eM : fMO_holds P' S' (nI b) (nI l) = (S'.setI 3 0, S.F 14 q) := by
      rw [fMO_holds]
      repeat rw [zl]
      rw [a1, a2, a3, if_neg n1, if_neg n1, if_neg n1, fMO_holds_31]
      repeat rw [zl]
      rw [if_pos (by decide), ee, nI_clamp (by omega)]
      show (S'.setI 3 0, S'.F 10 q) = _
      rw [h10]
    unfold zH_holds at h1
    rw [e1] at h1
    rw [eM] at h2
    obtain ⟨hr, hw⟩ := h1
    cases hw
    cases h2
    exact ⟨⟨by rw [hr]; rfl, fun _ => rfl⟩, hX.s3 0⟩
theorem za_lost {n : Nat} {P P' S S' : ZS} {y : ZS} {r : Int32} (hT : zXr n P S P' S') (h2 : (y, r) = fMO_lost P' S') : fRG_lost P S = r := by
  have e : fMO_lost P' S' = (S'.setI 3 0, S'.I 5) := rfl
  rw [e] at h2
  cases h2
  show S.I 9 = S'.I 5
  obtain ⟨nb, nl, t, -, -, -, hx⟩ := hT
  rcases hx with ⟨-, -, f1, f2, -⟩ | ⟨-, -, hY⟩
  · rw [f1.2.2.2.1, f2.2.2.1]
  · obtain ⟨-, -, -, -, ⟨c, m, K, hC⟩, -⟩ := hY
    exact hC.1.2.symm
theorem za_circles {n : Nat} {P P' S S' : ZS} {y : ZS} {r : Int32} (hT : zXr n P S P' S') (h2 : (y, r) = fMO_circles P' S') : fRG_circles P S = r := by
  have e : fMO_circles P' S' = (S'.setI 3 0, S'.I 9) := rfl
  rw [e] at h2
  cases h2
  show S.I 7 = S'.I 9
  obtain ⟨nb, nl, t, -, -, -, hx⟩ := hT
  rcases hx with ⟨-, -, f1, f2, -⟩ | ⟨-, -, hY⟩
  · rw [f1.2.2.1, f2.2.2.2.1]
  · exact hY.2.2.1.symm
theorem za_casts {n : Nat} {P P' S S' : ZS} {y : ZS} {r : Int32} (hT : zXr n P S P' S') (h2 : (y, r) = fMO_casts P' S') : fRG_casts P S = r := by
  have h12 : S'.F 23 = S.F 12 := by
    obtain ⟨nb, nl, t, -, -, -, hx⟩ := hT
    rcases hx with ⟨-, -, f1, f2, -⟩ | ⟨-, -, hY⟩
    · rw [f1.1 12 (by decide), f2.1 23 (by decide)]
    · obtain ⟨-, -, -, -, ⟨c, m, K, hC⟩, -⟩ := hY
      exact hC.g 23 12 (by decide)
  have key : ∀ (n : Nat) (x i : Int32), (zfix (fun S9 _ _ => (S9, 0)) (fMO_casts_9 P') n (S'.setI 3 0) x i).2 = zfix (fun _ _ => 0) (fWI_countOnLinks_4 P S) n x i := by
    intro n
    induction n with
    | zero => intro x i; rw [zfix_0, zfix_0]
    | succ n ih =>
      intro x i
      rw [zfix_s, zfix_s]
      generalize zfix (fun S9 _ _ => (S9, 0)) (fMO_casts_9 P') n = rc' at ih ⊢
      generalize zfix (fun _ _ => 0) (fWI_countOnLinks_4 P S) n = rc at ih ⊢
      unfold fMO_casts_9 fWI_countOnLinks_4
      simp only [zl]
      by_cases c : 120 ≤ i
      · rw [if_pos c, if_pos c]
      · rw [if_neg c, if_neg c]
        have e : (S'.setI 3 0).F 23 = S.F 12 := h12
        rw [e]
        exact ih _ _
  have e : fMO_casts P' S' = zfix (fun S9 _ _ => (S9, 0)) (fMO_casts_9 P') 121 (S'.setI 3 0) 0 0 := rfl
  have k := key 121 0 0
  rw [← e, ← h2] at k
  exact k.symm
theorem zlrn {n tg hh : Nat} {P S P' S' : ZS} {x0 : Int32} (hT : zXr n P S P' S') (g0 : 0 ≤ x0.toInt) (g1 : x0.toInt < (P.I 0).toInt) (lg : tg < 4) (lh : hh < 64) : fTA_linkTo P S x0 (nI tg) (nI hh) (S.I 3) = fMO_known P' (S'.setI 3 0) x0 (nI tg) (nI hh) := by
  have z0 : (0 : Int32) = nI 0 := by decide
  obtain ⟨nb, nl, t, hp, hpl, ht, hx⟩ := hT
  have hn := hp.2.1
  rw [hp.1] at g1
  obtain ⟨b, hb, rfl⟩ := zlN (by omega) g0 g1
  rcases hx with ⟨-, -, f1, f2, -⟩ | ⟨-, g, hY⟩
  · have ov : zOv nb S (S'.setI 3 0) := fun b t _ _ => Or.inl ⟨congrFun (f1.2.2.2.2.2 b) t, congrFun f2.2.2.2.2 _⟩
    have h4 : (S'.setI 3 0).I 4 = nI 0 := by
      show S'.I 4 = nI 0
      rw [f2.2.1]
      exact z0
    have k := zknown (P := P) (P' := P') ov hb hn lg lh h4
    rw [f1.2.1]
    rw [← z0] at k
    exact k
  · obtain ⟨y1, y2, -, -, ⟨c, m, K, hC⟩, -⟩ := hY
    rw [y1]
    exact zknown (P := P) (P' := P') (nb := nb) (hC.2.2.1.cg (fun _ => rfl) rfl rfl) hb hn lg lh (y2.trans y1)
theorem zs_learned {n : Nat} {P P' S S' : ZS} {f : Nat → Int64} {x0 x1 x2 r r' : Int32} {w : ZS × ZS × (Nat → Int64)} {x9 : ZS} (h : zIv P P') (hT : zXr n P S P' S') (h1 : zH_learned P S f x0 x1 x2 r w) (h2 : (x9, r') = fMO_learned P' S' x0 x1 x2) : (x9.I 3 = r ∧ (r = 0 → w.2.2 (0 : Int32).toNatClampNeg = r'.toInt64)) ∧ zXr (n + 1) P w.2.1 P' x9 := by
  obtain ⟨P1, S1, f1⟩ := w
  have n1 : ¬ (1 : Int32) = 0 := by decide
  have e32 : fMO_learned_32 P' S' x0 x1 x2 = (S'.setI 3 1, -1) := by
    rw [fMO_learned_32, fMO_learned_33]
    repeat rw [zl]
    rw [if_neg (by decide)]
  have bad : fRG_learned P S x0 x1 x2 = .error 1 → fMO_learned P' S' x0 x1 x2 = (S'.setI 3 1, -1) → (x9.I 3 = r ∧ (r = 0 → f1 (0 : Int32).toNatClampNeg = r'.toInt64)) ∧ zXr (n + 1) P S1 P' x9 := fun e1 eM => by
    unfold zH_learned at h1
    rw [e1] at h1
    rw [eM] at h2
    obtain ⟨hr, hw⟩ := h1
    cases hw
    cases h2
    exact ⟨⟨by rw [hr]; rfl, fun r0 => by rw [hr] at r0; exact absurd r0 n1⟩, hT.s3 1⟩
  rcases zqB h.2.2.1 S S' x0 with ⟨m1, d1⟩ | ⟨m1, d1, g0, g1⟩
  · refine bad (by unfold fRG_learned; rw [d1]; rfl) ?_
    rw [fMO_learned, zl, m1, if_pos rfl, e32]
  · rcases zqT P S x1 with ⟨c1, b1⟩ | ⟨c1, p1, q1, tg, lg, rfl⟩
    · refine bad (by
        unfold fRG_learned
        rw [d1]
        show zbind (fRG_requireTag P S x1) _ = _
        rw [c1]; rfl) ?_
      rw [fMO_learned, zl, m1, if_neg n1, e32]
      rcases b1 with b | b
      · rw [if_pos b]
      · by_cases b3 : x1 < 0
        · rw [if_pos b3]
        · rw [if_neg b3, if_pos b]
    · rcases zqH P S x2 with ⟨c2, b2⟩ | ⟨c2, p2, q2, hh, lh, rfl⟩
      · refine bad (by
          unfold fRG_learned
          rw [d1]
          show zbind (fRG_requireTag P S (nI tg)) _ = _
          rw [c1]
          show zbind (fRG_requireHost P S x2) _ = _
          rw [c2]; rfl) ?_
        rw [fMO_learned, zl, m1, if_neg n1, if_neg p1, if_neg q1, e32]
        rcases b2 with b | b
        · rw [if_pos b]
        · by_cases b3 : x2 < 0
          · rw [if_pos b3]
          · rw [if_neg b3, if_pos b]
      · have ek := zlrn hT g0 g1 lg lh
        have e1 : fRG_learned P S x0 (nI tg) (nI hh) = .ok (fTA_linkTo P S x0 (nI tg) (nI hh) (S.I 3)) := by
          unfold fRG_learned
          rw [d1]
          show zbind (fRG_requireTag P S (nI tg)) _ = _
          rw [c1]
          show zbind (fRG_requireHost P S (nI hh)) _ = _
          rw [c2]
          show Except.ok (zl (S.I 3) (fun k10 => zl (fTA_linkTo P S x0 (nI tg) (nI hh) k10) (fun k12 => k12))) = _
          rw [zl, zl]
        have eM : fMO_learned P' S' x0 (nI tg) (nI hh) = (S'.setI 3 0, fMO_known P' (S'.setI 3 0) x0 (nI tg) (nI hh)) := by
          rw [fMO_learned, zl, m1, if_neg n1, if_neg p1, if_neg q1, if_neg p2, if_neg q2, fMO_learned_33]
          repeat rw [zl]
          rw [if_pos (by decide)]
        rw [← ek] at eM
        generalize fTA_linkTo P S x0 (nI tg) (nI hh) (S.I 3) = y at e1 eM
        unfold zH_learned at h1
        rw [e1] at h1
        rw [eM] at h2
        obtain ⟨hr, hw⟩ := h1
        cases hw
        cases h2
        exact ⟨⟨by rw [hr]; rfl, fun _ => rfl⟩, hT.s3 0⟩
/-- with what the class keeps, and the count of visits -/
def zXx (n : Nat) (P S P' S' : ZS) : Prop := zXr n P S P' S' ∧ zKept P P' S ∧ S'.I 6 = S.I 13
theorem zXx.up {n n2 : Nat} {P S P' S' : ZS} (h : zXx n P S P' S') (hn : n ≤ n2) : zXx n2 P S P' S' := ⟨h.1.up hn, h.2⟩
