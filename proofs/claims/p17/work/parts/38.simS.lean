
/-- nothing changed the holds, unless it says so -/
def zhc (S T : ZS) : Prop := T.I 11 = 0 → (S.I 11 = 0 ∧ T.F 14 = S.F 14)
theorem zhc.rf {S : ZS} : zhc S S := fun h => ⟨h, rfl⟩
theorem zhc.t {S X Y : ZS} (h : zhc S X) (h2 : zhc X Y) : zhc S Y := fun e => ⟨(h (h2 e).1).1, (h2 e).2.trans (h (h2 e).1).2⟩
theorem zhc.fr {ws fs : List Nat} {S X Y : ZS} (h : zhc S X) (h2 : zfr 28 ws fs X Y) (m : min 14 28 ∉ fs) (m2 : 11 ∉ ws) : zhc S Y := h.t (fun e => ⟨by rw [← h2.1 11 m2]; exact e, h2.2 14 m⟩)
theorem zhc.I {S X : ZS} {t : Nat} {v : Int32} (h : zhc S X) (m : 11 ≠ t) : zhc S (X.setI t v) := h.t (fun e => ⟨by
  have e2 : (if 11 = t then v else X.I 11) = 0 := e
  rw [if_neg m] at e2
  exact e2, rfl⟩)
theorem zhc.R {S X : ZS} {k : Nat} {f : Nat → Int32} (h : zhc S X) (m : 14 ≠ k) : zhc S (X.row k f) := h.t (fun e => ⟨e, ZS.row_ne X f m⟩)
theorem zhc.F {S X : ZS} {k i : Nat} {v : Int32} (h : zhc S X) (m : 14 ≠ k) : zhc S (X.setF k i v) := h.R m
def zhcA (S : ZS) (y : ZS) : Prop := zhc S y
def zhcB (S : ZS) (y : ZS × Int32) : Prop := zhc S y.1
def zhcC (S : ZS) (y : ZS × ZS × Int32) : Prop := zhc S y.2.1
def zhcD (S : ZS) (y : ZS × ZS) : Prop := zhc S y.2
theorem zu_s {β : Type} {Z : β → Prop} {S v : ZS} {f : ZS → β} (hv : zhc S v) (h : ∀ x, zhc S x → Z (f x)) : Z (zl v f) := h v hv
theorem zu_2 {β : Type} {Z : β → Prop} {S : ZS} {v : ZS × Int32} {f : ZS → Int32 → β} (hv : zhc S v.1) (h : ∀ x k, zhc S x → Z (f x k)) : Z (zl2 v f) := h _ _ hv
theorem zu_d {β : Type} {Z : β → Prop} {S : ZS} {v : ZS × ZS} {f : ZS → ZS → β} (hv : zhc S v.2) (h : ∀ p x, zhc S x → Z (f p x)) : Z (zl2 v f) := h _ _ hv
theorem zu_3 {β : Type} {Z : β → Prop} {S : ZS} {v : ZS × ZS × Int32} {f : ZS → ZS → Int32 → β} (hv : zhc S v.2.1) (h : ∀ p x k, zhc S x → Z (f p x k)) : Z (zl3 v f) := h _ _ _ hv
theorem hc_fPR_setHolds (P S : ZS) (x v : Int32) : zhcA S (fPR_setHolds P S x v) := by
  unfold fPR_setHolds
  refine zq_l (fun k1 => ?_)
  refine zq_if zhc.rf ?_
  intro e
  exact absurd (show (1 : Int32) = 0 from e) (by decide)
theorem hc_fPR_endHold (P S : ZS) (x0 : Int32) (x1 : Int32) : zhcA S (fPR_endHold P S x0 x1) := by
  unfold fPR_endHold
  have hS : zhc S S := zhc.rf
  refine zq_l (fun k1 => ?_)
  refine zq_l (fun k2 => ?_)
  refine zq_l (fun k3 => ?_)
  refine zq_l (fun k4 => ?_)
  refine zu_s (hS.t (hc_fPR_setHolds _ _ _ _)) (fun S6 hS6 => ?_)
  refine zq_l (fun k8 => ?_)
  refine zq_l (fun k9 => ?_)
  refine zq_l (fun k10 => ?_)
  refine zq_l (fun k11 => ?_)
  refine zu_s (hS6.F (by decide)) (fun S12 hS12 => ?_)
  refine zq_l (fun k14 => ?_)
  refine zq_l (fun k15 => ?_)
  refine zu_s (hS12.I (by decide)) (fun S16 hS16 => ?_)
  exact hS16
theorem hc_fPR_endCommand (P S : ZS) (x0 : Int32) : zhcB S (fPR_endCommand P S x0) := by
  unfold fPR_endCommand
  have hS : zhc S S := zhc.rf
  refine zq_l (fun k2 => ?_)
  refine zq_if ?_ ?_
  · skip
    exact hS
  · skip
    refine zq_l (fun k3 => ?_)
    refine zq_l (fun k4 => ?_)
    refine zu_s (hS.t (hc_fPR_endHold _ _ _ _)) (fun S6 hS6 => ?_)
    exact hS6
theorem hc_fPR_endOwnerHold (P S : ZS) (x0 : Int32) : zhcA S (fPR_endOwnerHold P S x0) := by
  unfold fPR_endOwnerHold
  have hS : zhc S S := zhc.rf
  refine zq_l (fun k2 => ?_)
  refine zq_if ?_ ?_
  · skip
    exact hS
  · skip
    refine zq_l (fun k3 => ?_)
    refine zq_l (fun k4 => ?_)
    refine zq_l (fun k5 => ?_)
    refine zq_l (fun k6 => ?_)
    refine zu_s (hS.t (hc_fPR_setHolds _ _ _ _)) (fun S8 hS8 => ?_)
    refine zq_l (fun k10 => ?_)
    refine zu_s (hS8.F (by decide)) (fun S11 hS11 => ?_)
    exact hS11
theorem hc_fPR_beginHold (P S : ZS) (x0 : Int32) (x1 : Int32) : zhcA S (fPR_beginHold P S x0 x1) := by
  unfold fPR_beginHold
  have hS : zhc S S := zhc.rf
  refine zq_l (fun k1 => ?_)
  refine zq_l (fun k2 => ?_)
  refine zu_s (hS.t (hc_fPR_setHolds _ _ _ _)) (fun S4 hS4 => ?_)
  refine zq_l (fun k6 => ?_)
  refine zu_s (hS4.t (hc_fPR_endOwnerHold _ _ _)) (fun S8 hS8 => ?_)
  refine zq_l (fun k10 => ?_)
  refine zq_l (fun k11 => ?_)
  refine zu_s (hS8.I (by decide)) (fun S12 hS12 => ?_)
  exact hS12
theorem hc_fPR_endWaiting_42 (P : ZS) (rc4 : ZS → Int32 → Int32 → (ZS)) (S_42 : ZS) (x42_1 : Int32) (x42_2 : Int32) (hrc4 : ∀ (a0 : ZS) (a1 : Int32) (a2 : Int32), zhcA a0 (rc4 a0 a1 a2)) : zhcA S_42 (fPR_endWaiting_42 P rc4 S_42 x42_1 x42_2) := by
  unfold fPR_endWaiting_42
  have hS_42 : zhc S_42 S_42 := zhc.rf
  refine zq_l (fun k1 => ?_)
  exact zhc.t hS_42 (hrc4 _ _ _)
theorem hc_fPR_endWaiting_4 (P : ZS) (rc4 : ZS → Int32 → Int32 → (ZS)) (S_4 : ZS) (x4_1 : Int32) (x4_2 : Int32) (hrc4 : ∀ (a0 : ZS) (a1 : Int32) (a2 : Int32), zhcA a0 (rc4 a0 a1 a2)) : zhcA S_4 (fPR_endWaiting_4 P rc4 S_4 x4_1 x4_2) := by
  unfold fPR_endWaiting_4
  have hS_4 : zhc S_4 S_4 := zhc.rf
  refine zq_l (fun k2 => ?_)
  refine zq_l (fun k3 => ?_)
  refine zq_if ?_ ?_
  · skip
    exact hS_4
  · skip
    refine zq_l (fun k4 => ?_)
    refine zq_if ?_ ?_
    · skip
      exact zhc.t hS_4 (hc_fPR_endWaiting_42 _ rc4 _ _ _ hrc4)
    · skip
      refine zq_l (fun k5 => ?_)
      refine zq_l (fun k6 => ?_)
      refine zu_s (hS_4.t (hc_fPR_setHolds _ _ _ _)) (fun S8 hS8 => ?_)
      exact zhc.t hS8 (hc_fPR_endWaiting_42 _ rc4 _ _ _ hrc4)
theorem hz_fPR_endWaiting_4 (P : ZS) : ∀ (n : Nat) (S_4 : ZS) (x4_1 : Int32) (x4_2 : Int32), zhcA S_4 (zfix (fun S9 _ _ => S9) (fPR_endWaiting_4 P) n S_4 x4_1 x4_2) := by
  intro n
  induction n with
  | zero => intro S_4 x4_1 x4_2; rw [zfix_0]; exact zhc.rf
  | succ n ih => intro S_4 x4_1 x4_2; rw [zfix_s]; exact hc_fPR_endWaiting_4 P _ _ _ _  ih
theorem hc_fPR_endWaiting (P S : ZS) (x0 : Int32) : zhcA S (fPR_endWaiting P S x0) := by
  unfold fPR_endWaiting
  have hS : zhc S S := zhc.rf
  refine zq_l (fun k10 => ?_)
  exact zhc.t hS (hz_fPR_endWaiting_4 P  577 _ _ _)
theorem hc_fPR_takeHold (P S : ZS) (x0 : Int32) : zhcA S (fPR_takeHold P S x0) := by
  unfold fPR_takeHold
  have hS : zhc S S := zhc.rf
  refine zq_l (fun k1 => ?_)
  refine zq_l (fun k2 => ?_)
  refine zq_l (fun k3 => ?_)
  refine zu_s (hS.t (hc_fPR_setHolds _ _ _ _)) (fun S5 hS5 => ?_)
  refine zq_l (fun k7 => ?_)
  refine zq_l (fun k8 => ?_)
  refine zu_s (hS5.F (by decide)) (fun S9 hS9 => ?_)
  refine zq_l (fun k11 => ?_)
  refine zq_l (fun k12 => ?_)
  refine zq_l (fun k13 => ?_)
  refine zu_s (hS9.fr (q_fPR_takeNews _ _ _ _ _) (by decide) (by decide)) (fun S15 hS15 => ?_)
  exact hS15
theorem hc_fPR_takeAllHolds_26 (P : ZS) (rc2 : ZS → Int32 → (ZS)) (S_26 : ZS) (x26_1 : Int32) (hrc2 : ∀ (a0 : ZS) (a1 : Int32), zhcA a0 (rc2 a0 a1)) : zhcA S_26 (fPR_takeAllHolds_26 P rc2 S_26 x26_1) := by
  unfold fPR_takeAllHolds_26
  have hS_26 : zhc S_26 S_26 := zhc.rf
  refine zq_l (fun k1 => ?_)
  exact zhc.t hS_26 (hrc2 _ _)
theorem hc_fPR_takeAllHolds_2 (P : ZS) (rc2 : ZS → Int32 → (ZS)) (S_2 : ZS) (x2_1 : Int32) (hrc2 : ∀ (a0 : ZS) (a1 : Int32), zhcA a0 (rc2 a0 a1)) : zhcA S_2 (fPR_takeAllHolds_2 P rc2 S_2 x2_1) := by
  unfold fPR_takeAllHolds_2
  have hS_2 : zhc S_2 S_2 := zhc.rf
  refine zq_if ?_ ?_
  · skip
    exact hS_2
  · skip
    refine zq_l (fun k2 => ?_)
    refine zq_if ?_ ?_
    · skip
      exact zhc.t hS_2 (hc_fPR_takeAllHolds_26 _ rc2 _ _ hrc2)
    · skip
      refine zu_s (hS_2.t (hc_fPR_takeHold _ _ _)) (fun S4 hS4 => ?_)
      exact zhc.t hS4 (hc_fPR_takeAllHolds_26 _ rc2 _ _ hrc2)
theorem hz_fPR_takeAllHolds_2 (P : ZS) : ∀ (n : Nat) (S_2 : ZS) (x2_1 : Int32), zhcA S_2 (zfix (fun S9 _ => S9) (fPR_takeAllHolds_2 P) n S_2 x2_1) := by
  intro n
  induction n with
  | zero => intro S_2 x2_1; rw [zfix_0]; exact zhc.rf
  | succ n ih => intro S_2 x2_1; rw [zfix_s]; exact hc_fPR_takeAllHolds_2 P _ _ _  ih
theorem hc_fPR_takeAllHolds (P S : ZS) : zhcA S (fPR_takeAllHolds P S) := by
  unfold fPR_takeAllHolds
  have hS : zhc S S := zhc.rf
  exact zhc.t hS (hz_fPR_takeAllHolds_2 P  7 _ _)
theorem hc_fPR_breakLink_14 (P : ZS) (rc14 : ZS → Int32 → Int32 → (ZS)) (S_14 : ZS) (x14_1 : Int32) (x14_2 : Int32) (hrc14 : ∀ (a0 : ZS) (a1 : Int32) (a2 : Int32), zhcA a0 (rc14 a0 a1 a2)) : zhcA S_14 (fPR_breakLink_14 P rc14 S_14 x14_1 x14_2) := by
  unfold fPR_breakLink_14
  have hS_14 : zhc S_14 S_14 := zhc.rf
  refine zq_l (fun k1 => ?_)
  refine zq_l (fun k2 => ?_)
  refine zq_if ?_ ?_
  · skip
    exact hS_14
  · skip
    refine zq_l (fun k3 => ?_)
    refine zq_l (fun k4 => ?_)
    refine zu_s (hS_14.t (hc_fPR_setHolds _ _ _ _)) (fun S6 hS6 => ?_)
    refine zu_s (hS6.t (hc_fPR_beginHold _ _ _ _)) (fun S9 hS9 => ?_)
    refine zq_l (fun k11 => ?_)
    refine zq_l (fun k12 => ?_)
    refine zu_s (hS9.fr (q_fPR_takeNews _ _ _ _ _) (by decide) (by decide)) (fun S14 hS14 => ?_)
    refine zq_l (fun k16 => ?_)
    exact zhc.t hS14 (hrc14 _ _ _)
theorem hz_fPR_breakLink_14 (P : ZS) : ∀ (n : Nat) (S_14 : ZS) (x14_1 : Int32) (x14_2 : Int32), zhcA S_14 (zfix (fun S9 _ _ => S9) (fPR_breakLink_14 P) n S_14 x14_1 x14_2) := by
  intro n
  induction n with
  | zero => intro S_14 x14_1 x14_2; rw [zfix_0]; exact zhc.rf
  | succ n ih => intro S_14 x14_1 x14_2; rw [zfix_s]; exact hc_fPR_breakLink_14 P _ _ _ _  ih
theorem hc_fPR_breakLink (P S : ZS) (x0 : Int32) : zhcA S (fPR_breakLink P S x0) := by
  unfold fPR_breakLink
  have hS : zhc S S := zhc.rf
  refine zq_l (fun k17 => ?_)
  refine zq_l (fun k18 => ?_)
  refine zu_s (hS.F (by decide)) (fun S19 hS19 => ?_)
  refine zq_l (fun k21 => ?_)
  exact zhc.t hS19 (hz_fPR_breakLink_14 P  121 _ _ _)
theorem hc_fPR_mendLink (P S : ZS) (x0 : Int32) : zhcA S (fPR_mendLink P S x0) := by
  unfold fPR_mendLink
  have hS : zhc S S := zhc.rf
  refine zq_l (fun k1 => ?_)
  refine zu_s (hS.t (hc_fPR_endHold _ _ _ _)) (fun S3 hS3 => ?_)
  refine zq_l (fun k5 => ?_)
  refine zq_l (fun k6 => ?_)
  refine zu_s (hS3.t (hc_fPR_endHold _ _ _ _)) (fun S8 hS8 => ?_)
  exact hS8
theorem hc_fPR_giveCommand (P S : ZS) (x0 : Int32) (x1 : Int32) : zhcB S (fPR_giveCommand P S x0 x1) := by
  unfold fPR_giveCommand
  have hS : zhc S S := zhc.rf
  refine zq_l (fun k1 => ?_)
  refine zq_l (fun k2 => ?_)
  refine zq_if ?_ ?_
  · skip
    refine zq_l (fun k3 => ?_)
    refine zq_l (fun k4 => ?_)
    refine zu_2 (hS.t (hc_fPR_endCommand _ _ _)) (fun S7 k6 hS7 => ?_)
    refine zu_s (hS7.t (hc_fPR_beginHold _ _ _ _)) (fun S10 hS10 => ?_)
    refine zq_l (fun k12 => ?_)
    refine zq_l (fun k13 => ?_)
    refine zu_s (hS10.F (by decide)) (fun S14 hS14 => ?_)
    refine zq_l (fun k16 => ?_)
    refine zq_l (fun k17 => ?_)
    refine zu_s (hS14.fr (q_fPR_takeNews _ _ _ _ _) (by decide) (by decide)) (fun S19 hS19 => ?_)
    exact hS19
  · skip
    exact hS
theorem hc_fPR_hearOfBlock_80 (P : ZS) (S_80 : ZS) (x80_4 : Int32) : zhcA S_80 (fPR_hearOfBlock_80 P S_80 x80_4) := by
  unfold fPR_hearOfBlock_80
  have hS_80 : zhc S_80 S_80 := zhc.rf
  refine zq_l (fun k1 => ?_)
  refine zq_l (fun k2 => ?_)
  refine zu_s (hS_80.t (hc_fPR_endHold _ _ _ _)) (fun S4 hS4 => ?_)
  exact hS4
theorem hc_fPR_hearOfBlock_59 (P : ZS) (S_59 : ZS) (x59_1 : Int32) (x59_2 : Int32) (x59_3 : Int32) (x59_4 : Int32) (x59_5 : Int32) (y59_0 : Int32) : zhcA S_59 (fPR_hearOfBlock_59 P S_59 x59_1 x59_2 x59_3 x59_4 x59_5 y59_0) := by
  unfold fPR_hearOfBlock_59
  have hS_59 : zhc S_59 S_59 := zhc.rf
  refine zq_if ?_ ?_
  · skip
    refine zq_if ?_ ?_
    · skip
      refine zq_l (fun k6 => ?_)
      refine zq_if ?_ ?_
      · skip
        exact hS_59
      · skip
        exact zhc.t hS_59 (hc_fPR_hearOfBlock_80 _ _ _ )
    · skip
      exact hS_59
  · skip
    exact zhc.t hS_59 (hc_fPR_hearOfBlock_80 _ _ _ )
theorem hc_fPR_hearOfBlock_58 (P : ZS) (S_58 : ZS) (x58_1 : Int32) (x58_2 : Int32) (x58_3 : Int32) (x58_4 : Int32) (x58_5 : Int32) : zhcA S_58 (fPR_hearOfBlock_58 P S_58 x58_1 x58_2 x58_3 x58_4 x58_5) := by
  unfold fPR_hearOfBlock_58
  have hS_58 : zhc S_58 S_58 := zhc.rf
  exact zhc.t hS_58 (hc_fPR_hearOfBlock_59 _ _ _ _ _ _ _ _ )
theorem hc_fPR_hearOfBlock_41 (P : ZS) (S_41 : ZS) (x41_1 : Int32) (x41_2 : Int32) (x41_3 : Int32) (x41_4 : Int32) (y41_0 : Int32) : zhcA S_41 (fPR_hearOfBlock_41 P S_41 x41_1 x41_2 x41_3 x41_4 y41_0) := by
  unfold fPR_hearOfBlock_41
  have hS_41 : zhc S_41 S_41 := zhc.rf
  refine zq_if ?_ ?_
  · skip
    refine zq_if ?_ ?_
    · skip
      exact zhc.t hS_41 (hc_fPR_hearOfBlock_58 _ _ _ _ _ _ _ )
    · skip
      exact zhc.t hS_41 (hc_fPR_hearOfBlock_59 _ _ _ _ _ _ _ _ )
  · skip
    exact zhc.t hS_41 (hc_fPR_hearOfBlock_58 _ _ _ _ _ _ _ )
theorem hc_fPR_hearOfBlock (P S : ZS) (x0 : Int32) (x1 : Int32) (x2 : Int32) : zhcA S (fPR_hearOfBlock P S x0 x1 x2) := by
  unfold fPR_hearOfBlock
  have hS : zhc S S := zhc.rf
  refine zu_s (hS.t (hc_fPR_endOwnerHold _ _ _)) (fun S8 hS8 => ?_)
  refine zu_s (hS8.t (hc_fPR_endWaiting _ _ _)) (fun S11 hS11 => ?_)
  refine zq_l (fun k14 => ?_)
  refine zq_if ?_ ?_
  · skip
    exact hS11
  · skip
    refine zq_l (fun k15 => ?_)
    refine zq_l (fun k16 => ?_)
    refine zq_if ?_ ?_
    · skip
      exact zhc.t hS11 (hc_fPR_hearOfBlock_41 _ _ _ _ _ _ _ )
    · skip
      exact zhc.t hS11 (hc_fPR_hearOfBlock_41 _ _ _ _ _ _ _ )
theorem hc_fPR_hear_23 (P : ZS) (S_23 : ZS) (x23_1 : Int32) (x23_2 : Int32) (x23_3 : Int32) : zhcA S_23 (fPR_hear_23 P S_23 x23_1 x23_2 x23_3) := by
  unfold fPR_hear_23
  have hS_23 : zhc S_23 S_23 := zhc.rf
  refine zq_l (fun k1 => ?_)
  refine zq_if ?_ ?_
  · skip
    refine zq_if ?_ ?_
    · skip
      refine zq_l (fun k3 => ?_)
      refine zu_s (hS_23.t (hc_fPR_hearOfBlock _ _ _ _ _)) (fun S5 hS5 => ?_)
      exact hS5
    · skip
      refine zq_if ?_ ?_
      · skip
        refine zq_l (fun k8 => ?_)
        refine zu_s (hS_23.t (hc_fPR_hearOfBlock _ _ _ _ _)) (fun S10 hS10 => ?_)
        exact hS10
      · skip
        refine zq_if ?_ ?_
        · skip
          refine zq_l (fun k13 => ?_)
          refine zu_s (hS_23.t (hc_fPR_hearOfBlock _ _ _ _ _)) (fun S15 hS15 => ?_)
          exact hS15
        · skip
          refine zq_if ?_ ?_
          · skip
            refine zu_s (hS_23.fr (q_fPR_hearOfHealing _ _ _) (by decide) (by decide)) (fun S18 hS18 => ?_)
            exact hS18
          · skip
            refine zq_if ?_ ?_
            · skip
              refine zu_s (hS_23.t (hc_fPR_endWaiting _ _ _)) (fun S21 hS21 => ?_)
              exact hS21
            · skip
              exact hS_23
  · skip
    exact hS_23
theorem hc_fPR_hear (P S : ZS) (x0 : Int32) (x1 : Int32) : zhcA S (fPR_hear P S x0 x1) := by
  unfold fPR_hear
  have hS : zhc S S := zhc.rf
  refine zq_l (fun k24 => ?_)
  refine zq_if ?_ ?_
  · skip
    exact zhc.t hS (hc_fPR_hear_23 _ _ _ _ _ )
  · skip
    refine zq_l (fun k26 => ?_)
    refine zq_l (fun k28 => ?_)
    refine zu_s (hS.fr (q_fPR_takeNews _ _ _ _ _) (by decide) (by decide)) (fun S30 hS30 => ?_)
    exact zhc.t hS30 (hc_fPR_hear_23 _ _ _ _ _ )
theorem hc_fPR_arrive (P S : ZS) (x0 : Int32) (x1 : Int32) : zhcA S (fPR_arrive P S x0 x1) := by
  unfold fPR_arrive
  have hS : zhc S S := zhc.rf
  refine zq_l (fun k2 => ?_)
  refine zq_if ?_ ?_
  · skip
    refine zq_l (fun k3 => ?_)
    refine zu_2 (hS.fr (q_fWI_losesOne _ _ _) (by decide) (by decide)) (fun S6 k5 hS6 => ?_)
    refine zq_if ?_ ?_
    · skip
      refine zq_l (fun k8 => ?_)
      refine zq_l (fun k10 => ?_)
      refine zq_l (fun k11 => ?_)
      refine zq_if ?_ ?_
      · skip
        exact hS6
      · skip
        refine zu_s (hS6.t (hc_fPR_hear _ _ _ _)) (fun S13 hS13 => ?_)
        refine zq_l (fun k16 => ?_)
        refine zq_if ?_ ?_
        · skip
          exact hS13
        · skip
          refine zq_l (fun k18 => ?_)
          refine zq_if ?_ ?_
          · skip
            refine zq_l (fun k19 => ?_)
            refine zu_s (hS13.fr (q_fWI_put _ _ _ _) (by decide) (by decide)) (fun S21 hS21 => ?_)
            exact hS21
          · skip
            exact hS13
    · skip
      exact hS6
  · skip
    exact hS
theorem hc_fPR_arriveAll_33 (P : ZS) (rc9 : ZS → Int32 → (ZS)) (rc33 : ZS → Int32 → Int32 → Int32 → (ZS)) (S_33 : ZS) (x33_1 : Int32) (x33_2 : Int32) (x33_3 : Int32) (hrc9 : ∀ (a0 : ZS) (a1 : Int32), zhcA a0 (rc9 a0 a1)) (hrc33 : ∀ (a0 : ZS) (a1 : Int32) (a2 : Int32) (a3 : Int32), zhcA a0 (rc33 a0 a1 a2 a3)) : zhcA S_33 (fPR_arriveAll_33 P rc9 rc33 S_33 x33_1 x33_2 x33_3) := by
  unfold fPR_arriveAll_33
  have hS_33 : zhc S_33 S_33 := zhc.rf
  refine zq_if ?_ ?_
  · skip
    refine zq_l (fun k1 => ?_)
    exact zhc.t hS_33 (hrc9 _ _)
  · skip
    refine zq_l (fun k3 => ?_)
    refine zu_s (hS_33.t (hc_fPR_arrive _ _ _ _)) (fun S5 hS5 => ?_)
    refine zq_l (fun k7 => ?_)
    exact zhc.t hS5 (hrc33 _ _ _ _)
theorem hz_fPR_arriveAll_33 (P : ZS) (rc9 : ZS → Int32 → (ZS)) (hrc9 : ∀ (a0 : ZS) (a1 : Int32), zhcA a0 (rc9 a0 a1)) : ∀ (n : Nat) (S_33 : ZS) (x33_1 : Int32) (x33_2 : Int32) (x33_3 : Int32), zhcA S_33 (zfix (fun S9 _ _ _ => S9) (fPR_arriveAll_33 P rc9) n S_33 x33_1 x33_2 x33_3) := by
  intro n
  induction n with
  | zero => intro S_33 x33_1 x33_2 x33_3; rw [zfix_0]; exact zhc.rf
  | succ n ih => intro S_33 x33_1 x33_2 x33_3; rw [zfix_s]; exact hc_fPR_arriveAll_33 P rc9 _ _ _ _ _ hrc9 ih
theorem hc_fPR_arriveAll_9 (P : ZS) (rc9 : ZS → Int32 → (ZS)) (S_9 : ZS) (x9_1 : Int32) (hrc9 : ∀ (a0 : ZS) (a1 : Int32), zhcA a0 (rc9 a0 a1)) : zhcA S_9 (fPR_arriveAll_9 P rc9 S_9 x9_1) := by
  unfold fPR_arriveAll_9
  have hS_9 : zhc S_9 S_9 := zhc.rf
  refine zq_l (fun k8 => ?_)
  refine zq_l (fun k9 => ?_)
  refine zq_if ?_ ?_
  · skip
    exact hS_9
  · skip
    refine zq_l (fun k11 => ?_)
    exact zhc.t hS_9 (hz_fPR_arriveAll_33 P rc9 hrc9 65 _ _ _ _)
theorem hz_fPR_arriveAll_9 (P : ZS) : ∀ (n : Nat) (S_9 : ZS) (x9_1 : Int32), zhcA S_9 (zfix (fun S9 _ => S9) (fPR_arriveAll_9 P) n S_9 x9_1) := by
  intro n
  induction n with
  | zero => intro S_9 x9_1; rw [zfix_0]; exact zhc.rf
  | succ n ih => intro S_9 x9_1; rw [zfix_s]; exact hc_fPR_arriveAll_9 P _ _ _  ih
theorem hc_fPR_arriveAll (P S : ZS) : zhcA S (fPR_arriveAll P S) := by
  unfold fPR_arriveAll
  have hS : zhc S S := zhc.rf
  refine zu_s (hS.fr (q_zturnf _ _) (by decide) (by decide)) (fun S13 hS13 => ?_)
  exact zhc.t hS13 (hz_fPR_arriveAll_9 P  121 _ _)
theorem hc_fPR_runClock_46 (P : ZS) (S_46 : ZS) (y46_0 : Int32) (y46_1 : Int32) : zhcA S_46 (fPR_runClock_46 P S_46 y46_0 y46_1) := by
  unfold fPR_runClock_46
  have hS_46 : zhc S_46 S_46 := zhc.rf
  refine zu_s (hS_46.F (by decide)) (fun S1 hS1 => ?_)
  exact hS1
theorem hc_fPR_runClock (P S : ZS) (x0 : Int32) : zhcA S (fPR_runClock P S x0) := by
  unfold fPR_runClock
  have hS : zhc S S := zhc.rf
  refine zq_l (fun k3 => ?_)
  refine zq_l (fun k5 => ?_)
  refine zq_l (fun k6 => ?_)
  refine zq_if ?_ ?_
  · skip
    refine zq_l (fun k7 => ?_)
    refine zq_if ?_ ?_
    · skip
      refine zq_l (fun k16 => ?_)
      refine zq_if ?_ ?_
      · skip
        exact zhc.t hS (hc_fPR_runClock_46 _ _ _ _ )
      · skip
        exact zhc.t hS (hc_fPR_runClock_46 _ _ _ _ )
    · skip
      refine zq_l (fun k8 => ?_)
      refine zq_l (fun k9 => ?_)
      refine zu_s (hS.F (by decide)) (fun S10 hS10 => ?_)
      refine zq_l (fun k12 => ?_)
      refine zq_if ?_ ?_
      · skip
        refine zu_s (hS10.t (hc_fPR_takeHold _ _ _)) (fun S14 hS14 => ?_)
        exact hS14
      · skip
        exact hS10
  · skip
    exact hS
theorem hc_fPR_turnAll_121 (P : ZS) (rc2 : ZS → Int32 → (ZS)) (S_121 : ZS) (x121_1 : Int32) (hrc2 : ∀ (a0 : ZS) (a1 : Int32), zhcA a0 (rc2 a0 a1)) : zhcA S_121 (fPR_turnAll_121 P rc2 S_121 x121_1) := by
  unfold fPR_turnAll_121
  have hS_121 : zhc S_121 S_121 := zhc.rf
  refine zq_l (fun k1 => ?_)
  exact zhc.t hS_121 (hrc2 _ _)
theorem hc_fPR_turnAll_94 (P : ZS) (rc2 : ZS → Int32 → (ZS)) (S_94 : ZS) (x94_1 : Int32) (hrc2 : ∀ (a0 : ZS) (a1 : Int32), zhcA a0 (rc2 a0 a1)) : zhcA S_94 (fPR_turnAll_94 P rc2 S_94 x94_1) := by
  unfold fPR_turnAll_94
  have hS_94 : zhc S_94 S_94 := zhc.rf
  refine zq_l (fun k2 => ?_)
  refine zq_l (fun k3 => ?_)
  refine zu_s (hS_94.F (by decide)) (fun S4 hS4 => ?_)
  refine zq_l (fun k6 => ?_)
  refine zq_l (fun k8 => ?_)
  refine zq_if ?_ ?_
  · skip
    exact zhc.t hS4 (hc_fPR_turnAll_121 _ rc2 _ _ hrc2)
  · skip
    refine zu_s (hS4.fr (q_fPR_speak _ _ _) (by decide) (by decide)) (fun S10 hS10 => ?_)
    exact zhc.t hS10 (hc_fPR_turnAll_121 _ rc2 _ _ hrc2)
theorem hc_fPR_turnAll_69 (P : ZS) (rc2 : ZS → Int32 → (ZS)) (S_69 : ZS) (x69_1 : Int32) (hrc2 : ∀ (a0 : ZS) (a1 : Int32), zhcA a0 (rc2 a0 a1)) : zhcA S_69 (fPR_turnAll_69 P rc2 S_69 x69_1) := by
  unfold fPR_turnAll_69
  have hS_69 : zhc S_69 S_69 := zhc.rf
  refine zq_l (fun k12 => ?_)
  refine zq_if ?_ ?_
  · skip
    refine zq_l (fun k14 => ?_)
    refine zq_l (fun k15 => ?_)
    refine zq_if ?_ ?_
    · skip
      exact zhc.t hS_69 (hc_fPR_turnAll_94 _ rc2 _ _ hrc2)
    · skip
      refine zu_s (hS_69.t (hc_fPR_endWaiting _ _ _)) (fun S17 hS17 => ?_)
      exact zhc.t hS17 (hc_fPR_turnAll_94 _ rc2 _ _ hrc2)
  · skip
    exact zhc.t hS_69 (hc_fPR_turnAll_94 _ rc2 _ _ hrc2)
theorem hc_fPR_turnAll_53 (P : ZS) (rc2 : ZS → Int32 → (ZS)) (S_53 : ZS) (x53_1 : Int32) (hrc2 : ∀ (a0 : ZS) (a1 : Int32), zhcA a0 (rc2 a0 a1)) : zhcA S_53 (fPR_turnAll_53 P rc2 S_53 x53_1) := by
  unfold fPR_turnAll_53
  have hS_53 : zhc S_53 S_53 := zhc.rf
  refine zq_l (fun k20 => ?_)
  refine zq_if ?_ ?_
  · skip
    exact zhc.t hS_53 (hc_fPR_turnAll_69 _ rc2 _ _ hrc2)
  · skip
    refine zu_s (hS_53.t (hc_fPR_runClock _ _ _)) (fun S22 hS22 => ?_)
    exact zhc.t hS22 (hc_fPR_turnAll_69 _ rc2 _ _ hrc2)
theorem hc_fPR_turnAll_2 (P : ZS) (rc2 : ZS → Int32 → (ZS)) (S_2 : ZS) (x2_1 : Int32) (hrc2 : ∀ (a0 : ZS) (a1 : Int32), zhcA a0 (rc2 a0 a1)) : zhcA S_2 (fPR_turnAll_2 P rc2 S_2 x2_1) := by
  unfold fPR_turnAll_2
  have hS_2 : zhc S_2 S_2 := zhc.rf
  refine zq_l (fun k24 => ?_)
  refine zq_l (fun k25 => ?_)
  refine zq_if ?_ ?_
  · skip
    exact hS_2
  · skip
    refine zq_l (fun k26 => ?_)
    refine zq_l (fun k27 => ?_)
    refine zq_if ?_ ?_
    · skip
      exact zhc.t hS_2 (hc_fPR_turnAll_121 _ rc2 _ _ hrc2)
    · skip
      refine zq_l (fun k28 => ?_)
      refine zq_if ?_ ?_
      · skip
        exact zhc.t hS_2 (hc_fPR_turnAll_53 _ rc2 _ _ hrc2)
      · skip
        refine zq_l (fun k29 => ?_)
        refine zq_l (fun k30 => ?_)
        refine zu_s (hS_2.F (by decide)) (fun S31 hS31 => ?_)
        exact zhc.t hS31 (hc_fPR_turnAll_53 _ rc2 _ _ hrc2)
theorem hz_fPR_turnAll_2 (P : ZS) : ∀ (n : Nat) (S_2 : ZS) (x2_1 : Int32), zhcA S_2 (zfix (fun S9 _ => S9) (fPR_turnAll_2 P) n S_2 x2_1) := by
  intro n
  induction n with
  | zero => intro S_2 x2_1; rw [zfix_0]; exact zhc.rf
  | succ n ih => intro S_2 x2_1; rw [zfix_s]; exact hc_fPR_turnAll_2 P _ _ _  ih
theorem hc_fPR_turnAll (P S : ZS) : zhcA S (fPR_turnAll P S) := by
  unfold fPR_turnAll
  have hS : zhc S S := zhc.rf
  exact zhc.t hS (hz_fPR_turnAll_2 P  289 _ _)

/-! the start: a place has two ports at most -/
theorem zffd {nb nl : Nat} : ∀ (n r : Nat) (P S : ZS) (f : Int32), zPn P nb nl → r ≤ 6 → 6 - r < n → (zfix (fun P9 S9 _ _ => (P9, S9, 0)) fPL_firstFault_21 n P S f (nI r)).2.2 = 0 → ∀ q, r ≤ q → q < 6 → ∀ b, b < nb → zdg P (nI b) (nI q) nl ≤ 2 := by
  have z6 : (6 : Int32) = nI 6 := by decide
  intro n
  induction n with
  | zero => intro r P S f hp h1 h2; omega
  | succ n ih =>
    intro r P S f hp h1 h2 h0 q q1 q2 b hb
    rw [zfix_s] at h0
    generalize zfix (fun P9 S9 _ _ => (P9, S9, 0)) fPL_firstFault_21 n = rc at ih h0
    simp only [fPL_firstFault_21, fPL_firstFault_62, fPL_firstFault_56, zl, zl3] at h0
    rw [z6, if_neg (nI_ge (by omega) (by omega))] at h0
    have n1 : ¬ (1 + nI r : Int32) = 0 := fun e => by
      rw [Int32.add_comm, nI_1] at e
      exact nI_ne0 (by omega) (by omega) e
    by_cases k4 : fPL_hasLinks P S (nI r) = 0
    · rw [if_pos k4, nI_1] at h0
      by_cases e : q = r
      · subst e
        have : ¬ 0 < zdg P (nI b) (nI q) nl := fun w => by
          obtain ⟨l, hl, h2, -⟩ := (zdg_pos nl).mp w
          exact (zhl_iff (S := S) hp.2.2.1 hp.2.2.2.1).mpr ⟨l, hl, h2⟩ k4
        omega
      · exact ih (r + 1) P S f hp (by omega) (by omega) h0 q (by omega) q2 b hb
    · rw [if_neg k4] at h0
      by_cases k6 : (fPL_hasRightShape P S (nI r) f).2.2 = 0
      · rw [if_pos k6] at h0
        exact absurd h0 n1
      · rw [if_neg k6] at h0
        by_cases k11 : fPL_hasRightOwner (fPL_hasRightShape P S (nI r) f).1 (fPL_hasRightShape P S (nI r) f).2.1 (nI r) = 0
        · rw [if_pos k11] at h0
          exact absurd h0 n1
        · rw [if_neg k11, nI_1] at h0
          by_cases e : q = r
          · subst e
            by_cases w : zdg P (nI b) (nI q) nl ≤ 2
            · exact w
            · have e9 := (zshC (P := P) (S := S) (f := f) (r := q) hp (by omega)).2 ⟨b, hb, by omega⟩
              rw [e9] at k6
              exact absurd rfl k6
          · have k8 := zshape_P (P := P) (S := S) (x := nI r) (y := f)
            have w := ih (r + 1) _ _ 0 (zPn_k k8 hp) (by omega) (by omega) h0 q (by omega) q2 b hb
            rw [zdg_k k8] at w
            exact w
theorem zff_dg {P S : ZS} {nb nl : Nat} (hp : zPn P nb nl) (h : (fPL_firstFault P S).2.2 = 0) : ∀ b, b < nb → ∀ r, r < 6 → zdg P (nI b) (nI r) nl ≤ 2 := by
  have n7 : ¬ (7 : Int32) = 0 := by decide
  simp only [fPL_firstFault, fPL_firstFault_14, zl] at h
  split at h
  · exact absurd h n7
  · split at h
    · intro b hb r hr
      exact zffd 7 0 P S 1 hp (by omega) (by omega) h r (by omega) hr b hb
    · exact absurd h n7
theorem zsp_full {pl : Nat → Nat} {k : Nat} : ∀ x, (zct (fun q => pl q = k) x = 0 → zsp pl k x = (none, none)) ∧ (zct (fun q => pl q = k) x = 1 → ∃ a, zsp pl k x = (some a, none)) ∧ (zct (fun q => pl q = k) x ≤ 2 → ∀ q, q < x → pl q = k → (zsp pl k x).1 = some q ∨ (zsp pl k x).2 = some q)
  | 0 => ⟨fun _ => rfl, fun h => absurd h (by show ¬ 0 = 1; omega), fun _ q hq => absurd hq (Nat.not_lt_zero _)⟩
  | x + 1 => by
    obtain ⟨i0, i1, i2⟩ := zsp_full (pl := pl) (k := k) x
    by_cases c : pl x = k
    · rw [zct_1 (p := fun q => pl q = k) c]
      refine ⟨fun h => by omega, fun h => ?_, fun h q hq hp => ?_⟩
      · have e := i0 (by omega)
        exact ⟨x, by rw [zsp_0 c (by rw [e]), e]⟩
      · rcases Nat.lt_or_ge (zct (fun q => pl q = k) x) 1 with w | w
        · have e := i0 (by omega)
          rw [zsp_0 c (by rw [e])]
          by_cases eq : q = x
          · exact Or.inl (by rw [eq])
          · have := (zct_pos2 (p := fun q => pl q = k) x).mpr ⟨q, by omega, hp⟩
            omega
        · obtain ⟨a, ea⟩ := i1 (by omega)
          rw [zsp_1 c (show (zsp pl k x).1 = some a by rw [ea])]
          by_cases eq : q = x
          · exact Or.inr (by rw [eq])
          · rcases i2 (by omega) q (by omega) hp with e | e
            · rw [ea] at e; exact Or.inl e
            · rw [ea] at e; cases e
    · rw [zct_0 (p := fun q => pl q = k) c, zsp_n c]
      refine ⟨i0, i1, fun h q hq hp => i2 h q ?_ hp⟩
      by_cases eq : q = x
      · rw [eq] at hp; exact absurd hp c
      · omega
theorem zct_deg {P : ZS} {nb nl b r : Nat} (hp : zPn P nb nl) (hpl : zplace P nl) (hb : b < 48) (hr : r < 6) : ∀ l, l ≤ nl → zct (fun q => zpl P q = 6 * b + r) (2 * l) = zdg P (nI b) (nI r) l
  | 0, _ => rfl
  | l + 1, hl => by
    have ih := zct_deg hp hpl hb hr l (by omega)
    obtain ⟨hB, hb48, hL, hl60, hR, hE⟩ := hp
    obtain ⟨a1, a2, a3, a4, a5⟩ := hE l (by omega)
    obtain ⟨p1, p2⟩ := hpl l (by omega)
    have fr : zr 0 5 (P.F 2 l) := hR l
    have f1 := fr.1
    have f2 := fr.2
    have rl : (P.F 2 l).toNatClampNeg < 6 := by
      show (P.F 2 l).toInt.toNat < 6
      omega
    have e2 : P.F 2 l = nI (P.F 2 l).toNatClampNeg := znI fr
    have eA : P.F 0 l = nI (P.F 0 l).toNatClampNeg := znI a4
    have eB : P.F 1 l = nI (P.F 1 l).toNatClampNeg := znI a5
    have nAB : ¬ (P.F 0 l).toNatClampNeg = (P.F 1 l).toNatClampNeg := fun q => a3 (by rw [eA, eB, q])
    rw [show 2 * (l + 1) = 2 * l + 1 + 1 by omega]
    by_cases c0 : zpl P (2 * l) = 6 * b + r
    · have x1 : ¬ zpl P (2 * l + 1) = 6 * b + r := fun q => by omega
      rw [zct_0 (p := fun q => zpl P q = 6 * b + r) x1, zct_1 (p := fun q => zpl P q = 6 * b + r) c0, ih, zdg_1]
      · rw [e2, show (P.F 2 l).toNatClampNeg = r by omega]
      · exact Or.inl (by rw [eA, show (P.F 0 l).toNatClampNeg = b by omega])
    · by_cases c1 : zpl P (2 * l + 1) = 6 * b + r
      · rw [zct_1 (p := fun q => zpl P q = 6 * b + r) c1, zct_0 (p := fun q => zpl P q = 6 * b + r) c0, ih, zdg_1]
        · rw [e2, show (P.F 2 l).toNatClampNeg = r by omega]
        · exact Or.inr (by rw [eB, show (P.F 1 l).toNatClampNeg = b by omega])
      · rw [zct_0 (p := fun q => zpl P q = 6 * b + r) c1, zct_0 (p := fun q => zpl P q = 6 * b + r) c0, ih, zdg_0]
        rintro ⟨w1, w2⟩
        rw [e2] at w1
        have w3 := (nI_eq (by omega) (by omega)).mp w1
        rcases w2 with w | w
        · rw [eA] at w
          have := (nI_eq (by omega) (by omega)).mp w
          omega
        · rw [eB] at w
          have := (nI_eq (by omega) (by omega)).mp w
          omega
/-- ports, places and owners from the start on -/
theorem zgeo_lay {P0 P0' P2' S : ZS} {nb nl : Nat} (g0 : cok P0) (hp : zPn P0 nb nl) (hr : zRP P0 P0') (hpl : zplace P0 nl) (hpre : zPre P0) (hdg : ∀ b, b < nb → ∀ r, r < 6 → zdg P0 (nI b) (nI r) nl ≤ 2) (ho : zOwned P0) (k6 : zk 6 P0' P2') (hM : zlaidM (zpl P0) P2' nb nl nb 0) : zGeo (fPL_layPorts P0 S).1 P2' nb nl := by
  obtain ⟨hp1, hp2, hp3, hp4⟩ := hpre
  have hB := hp.1
  have hb48 := hp.2.1
  have hL := hp.2.2.1
  have hl60 := hp.2.2.2.1
  have rI : zr 0 60 (P0.I 1) := g0.2.1 1
  have rI1 := rI.1
  have rI2 := rI.2
  have lC := zlayC (S := S) g0 hL hl60 hp1
  obtain ⟨yI, yF⟩ := zlay_fr (P := P0) (S := S) rI (fun j => g0.1 5 j)
  -- the owners' ports
  have own : ∀ r : Int32, zr 0 5 r → (fPL_layPorts P0 S).1.F 6 r.toNatClampNeg = zGi P0 S r := by
    obtain ⟨P1, k1, en, e1⟩ := zlay1 g0 121 P0 S 0 zk.rf (fun j => Or.inl (hp1 j)) (by decide) (by show (0 : Int32).toInt ≤ _; rw [show (0 : Int32).toInt = 0 by decide]; omega) (by rw [show (0 : Int32).toInt = 0 by decide]; omega)
    obtain ⟨P3, k2, o1, o2, e2⟩ := zlay2 (P1 := P1) (S0 := S) 7 P1 S 0 zk.rf (fun j => Or.inl (by rw [k1.2 6 (by decide)]; exact hp2 j)) (fun r hr hx => by have := hr.1; rw [show (0 : Int32).toInt = 0 by decide] at hx; omega) (by decide) (by decide)
    intro r hr9
    have e : (fPL_layPorts P0 S).1 = P3 := by
      unfold fPL_layPorts
      rw [e1, e2]
    rw [e, o2 r hr9]
    unfold zGi
    rw [zk_hl (S := S) k1 (by decide), k1.2 3 (by decide), k1.2 4 (by decide), zk_po (S := S) k1 (by decide) (by decide)]
  generalize (fPL_layPorts P0 S).1 = P2 at lC yI yF own ⊢
  have y0 : P2.F 0 = P0.F 0 := yF 0 (by decide) (by decide)
  have y1 : P2.F 1 = P0.F 1 := yF 1 (by decide) (by decide)
  have y2 : P2.F 2 = P0.F 2 := yF 2 (by decide) (by decide)
  have y3 : P2.F 3 = P0.F 3 := yF 3 (by decide) (by decide)
  have y4 : P2.F 4 = P0.F 4 := yF 4 (by decide) (by decide)
  have y5 : P2.F 5 = P0.F 5 := yF 5 (by decide) (by decide)
  have yp : zpl P2 = zpl P0 := by
    funext q
    unfold zpl
    rw [y5]
  have hp2' : zPn P2 nb nl := by
    unfold zPn
    rw [yI, y0, y1, y2]
    exact hp
  refine ⟨hp2', ?_, ?_, fun q hq => ?_, fun k hk => ?_, fun k hk => ?_, fun q hq => ?_, fun r hr9 hl9 => ?_, fun r hr9 hl9 => ?_⟩
  · obtain ⟨b1, b2, b3, b4, b5, b6, b7⟩ := hr
    unfold zRP
    rw [k6.1, k6.2 0 (by decide), k6.2 1 (by decide), k6.2 2 (by decide), k6.2 3 (by decide), k6.2 4 (by decide), yI, y0, y1, y2, y3, y4]
    exact ⟨b1, b2, b3, b4, b5, b6, b7⟩
  · intro l hl
    rw [yp, y0, y1, y2]
    exact hpl l hl
  · rw [yp, y5]
    exact znI (g0.1 5 q)
  · unfold zA zB
    rw [yp]
    exact lC k hk
  · have w := hM (k / 6) (k % 6) (by omega) (by omega)
    have es : zseen nl nb 0 (k / 6) = 2 * nl := by
      unfold zseen
      rw [if_pos (by omega)]
    rw [es, show 6 * (k / 6) + k % 6 = k by omega] at w
    unfold zA zB
    rw [yp]
    exact w
  · have e1 : zpl P0 q = 6 * (zpl P0 q / 6) + zpl P0 q % 6 := by omega
    have rp : zr 0 287 (P0.F 5 q) := g0.1 5 q
    have rp2 := rp.2
    have lp : zpl P0 q < 288 := by
      have h0 := rp.1
      show (P0.F 5 q).toInt.toNat < 288
      omega
    unfold zA zB
    rw [yp]
    refine (zsp_full (pl := zpl P0) (k := zpl P0 q) (2 * nl)).2.2 ?_ q hq rfl
    have hb9 : zpl P0 q / 6 < nb := by
      obtain ⟨q1, q2, -⟩ := hp.2.2.2.2.2 (q / 2) (by omega)
      obtain ⟨p1, p2⟩ := hpl (q / 2) (by omega)
      have fr : zr 0 5 (P0.F 2 (q / 2)) := hp.2.2.2.2.1 _
      have f1 := fr.1
      have f2 := fr.2
      have rl : (P0.F 2 (q / 2)).toNatClampNeg < 6 := by
        show (P0.F 2 (q / 2)).toInt.toNat < 6
        omega
      rcases Nat.mod_two_eq_zero_or_one q with c | c
      · rw [show 2 * (q / 2) = q by omega] at p1; omega
      · rw [show 2 * (q / 2) + 1 = q by omega] at p2; omega
    have dg := zct_deg hp hpl (b := zpl P0 q / 6) (r := zpl P0 q % 6) (by omega) (by omega) nl (Nat.le_refl _)
    rw [← e1] at dg
    rw [dg]
    exact hdg _ hb9 _ (by omega)
  · -- the owner's port
    obtain ⟨l0, hl0, er0⟩ := hl9
    have fr0 : zr 0 5 (P0.F 2 l0) := hp.2.2.2.2.1 l0
    unfold zrg at er0
    rw [y2] at er0
    have hasl : ¬ fPL_hasLinks P0 S (nI r) = 0 := (zhl_iff (S := S) hL hl60).mpr ⟨l0, hl0, by rw [znI fr0, er0]⟩
    have rr : zr 0 5 (nI r) := by
      unfold zr
      rw [nI_toInt (by omega)]
      omega
    have cr : (nI r).toNatClampNeg = r := nI_clamp (by omega)
    obtain ⟨b1, b2, b3⟩ := zho_of (ho S (nI r) rr hasl)
    rw [cr] at b1 b2 b3
    have r4 : zr (-1) 59 (P0.F 4 r) := g0.1 4 r
    have r4' : zr 0 59 (P0.F 4 r) := zne_lo r4 b1 (by decide)
    have e4 : P0.F 4 r = nI (P0.F 4 r).toNatClampNeg := znI r4'
    have l4 := (hp4 r).resolve_left b1
    have t4 := ztn r4' (by decide)
    rw [hL, nI_toInt (by omega)] at l4
    have o9 := own (nI r) rr
    rw [cr] at o9
    unfold zGi at o9
    rw [if_neg hasl, cr] at o9
    generalize hll : (P0.F 4 r).toNatClampNeg = ll at e4 t4 b2
    rw [e4] at o9 b3
    obtain ⟨a1, a2, a3, a4, a5⟩ := hp.2.2.2.2.2 ll (by omega)
    obtain ⟨p1, p2⟩ := hpl ll (by omega)
    have eA : P0.F 0 ll = nI (P0.F 0 ll).toNatClampNeg := znI a4
    have eB : P0.F 1 ll = nI (P0.F 1 ll).toNatClampNeg := znI a5
    have e2r : (P0.F 2 ll).toNatClampNeg = r := by rw [b2, cr]
    have z2 : (2 : Int32) = nI 2 := by decide
    have w : P0.F 0 ll = P0.F 3 r ∨ P0.F 1 ll = P0.F 3 r := by
      by_cases w : P0.F 0 ll = P0.F 3 r ∨ P0.F 1 ll = P0.F 3 r
      · exact w
      · exact absurd ((zpo_iff (by omega)).mpr w) b3
    simp only [fPL_portOf, zl] at o9
    rw [nI_clamp (by omega), z2, nI_mul, nI_1] at o9
    rw [yp, y3, y4]
    by_cases w0 : P0.F 0 ll = P0.F 3 r
    · rw [if_pos w0] at o9
      exact ⟨2 * ll, (P0.F 0 ll).toNatClampNeg, by omega, a1, o9, by rw [p1, e2r], by rw [← w0]; exact eA, by rw [e4, show 2 * ll / 2 = ll by omega]⟩
    · have w1 := w.resolve_left w0
      rw [if_neg w0, if_pos w1] at o9
      exact ⟨2 * ll + 1, (P0.F 1 ll).toNatClampNeg, by omega, a2, o9, by rw [p2, e2r], by rw [← w1]; exact eB, by rw [e4, show (2 * ll + 1) / 2 = ll by omega]⟩
  · have rr : zr 0 5 (nI r) := by
      unfold zr
      rw [nI_toInt (by omega)]
      omega
    have cr : (nI r).toNatClampNeg = r := nI_clamp (by omega)
    have o9 := own (nI r) rr
    rw [cr] at o9
    have hasl : fPL_hasLinks P0 S (nI r) = 0 := by
      by_cases w : fPL_hasLinks P0 S (nI r) = 0
      · exact w
      · obtain ⟨l, hl, e⟩ := (zhl_iff (S := S) hL hl60).mp w
        exact absurd ⟨l, hl, by unfold zrg; rw [y2, e, cr]⟩ hl9
    unfold zGi at o9
    rw [if_pos hasl] at o9
    exact o9
/-- each owner takes its hold -/
theorem ztkall {no : Nat} {P P' : ZS} {nb nl n : Nat} {tk : Prop} {c : Int32} {m : Nat} (g : zGeo P P' nb nl) : ∀ (N r K : Nat) (S S' : ZS), r ≤ 6 → 6 - r < N → zC no tk c m K S S' → zIS P nb nl S S' → zBd P n 0 0 0 S → (∀ j, S.F 17 j = 0) → (∀ j, r ≤ j → S.F 18 j = 0) →
    ∃ U' : ZS, zfix (fun P9 S9 _ => (P9, S9, 0)) fMO_start_125 N P' S' (nI r) = (P', U', 0) ∧ zC no tk c m (K + 12 * (6 - r)) (zfix (fun S9 _ => S9) (fPR_takeAllHolds_2 P) N S (nI r)) U' ∧ zIS P nb nl (zfix (fun S9 _ => S9) (fPR_takeAllHolds_2 P) N S (nI r)) U' ∧ zBd P n 0 0 0 (zfix (fun S9 _ => S9) (fPR_takeAllHolds_2 P) N S (nI r)) ∧ zKI S' U' := by
  have hn := g.nb
  have hn2 := g.nl
  have z6 : (6 : Int32) = nI 6 := by decide
  have hP2 : P'.I 2 = nI nl := g.2.1.2.1.trans g.1.2.2.1
  intro N
  induction N with
  | zero => intro r K S S' h1 h2; omega
  | succ N ih =>
    intro r K S S' h1 h2 h hI hBd h17 h18
    rw [zfix_s, zfix_s]
    generalize zfix (fun P9 S9 _ => (P9, S9, 0)) fMO_start_125 N = rc' at ih ⊢
    generalize zfix (fun S9 _ => S9) (fPR_takeAllHolds_2 P) N = rc at ih ⊢
    rw [fMO_start_125, fPR_takeAllHolds_2]
    by_cases d : r = 6
    · rw [z6, if_pos (nI_le (by omega) (by omega)), if_pos (nI_le (by omega) (by omega))]
      exact ⟨S', rfl, h.mo (Nat.le_refl _) (by omega), hI, hBd, zKI.rf⟩
    · rw [z6, if_neg (nI_ge (by omega) (by omega)), if_neg (nI_ge (by omega) (by omega))]
      repeat rw [zl]
      repeat rw [fMO_start_144]
      repeat rw [fPR_takeAllHolds_26]
      repeat rw [zl]
      rw [nI_1, nI_clamp (by omega), zli_eq hP2 hn2, zcn_RP g.2.1]
      by_cases hl : ∃ l, l < nl ∧ zrg P l = r
      · obtain ⟨p, b, hp, hb, e6, epl, e3, e4⟩ := g.2.2.2.2.2.2.2.1 r (by omega) hl
        have pos : 0 < zcn P (nI r) nl := by
          rw [zcn_pos]
          obtain ⟨l, hl1, hl2⟩ := hl
          refine ⟨l, hl1, ?_⟩
          unfold zrg at hl2
          rw [znI (g.1.2.2.2.2.1 l), hl2]
        have le := zcn_le (P := P) (r := nI r) nl
        rw [if_neg (nI_nle pos (by omega)), e6, if_neg (nI_ne (by omega))]
        have e18 : S.F 18 r + 1 = nI 1 := by rw [h18 r (Nat.le_refl _)]; decide
        obtain ⟨k1, i1⟩ := h.th g hI (by omega) hl (h17 r) e18 (by omega)
        have qC := q_fPR_takeHold P S (nI r)
        have qM := q_fMO_takeHold P' S' (nI r)
        have b1 : zBd P n 0 0 0 (fPR_takeHold P S (nI r)) := by
          rw [zn_th g (by omega) hp e6 epl, e18]
          refine zBd_nw g hb (by omega) ?_ _ _
          rw [← zn_set g hp epl (by omega)]
          refine (zBd_set hBd _ _).F ?_
          show 0 ≤ (nI 1).toInt ∧ (nI 1).toInt ≤ ((0 : Nat) : Int) + 1 + (if zop P r < 0 then 1 else 0)
          rw [if_neg (Nat.not_lt_zero _)]
          decide
        have x17 : ∀ j, (fPR_takeHold P S (nI r)).F 17 j = 0 := fun j => by rw [qC.2 17 (by decide)]; exact h17 j
        have x18 : ∀ j, r + 1 ≤ j → (fPR_takeHold P S (nI r)).F 18 j = 0 := fun j hj => by
          rw [zn_th g (by omega) hp e6 epl, (q_fPR_takeNews P _ _ _ _).2 18 (by decide), zFsk, upd_ne _ _ (by omega), zhs_n (by decide) (by decide)]
          exact h18 j (by omega)
        obtain ⟨U', e1, e2, e3', e4', e5⟩ := ih (r + 1) (K + 12) _ _ (by omega) (by omega) k1 i1 b1 x17 x18
        exact ⟨U', e1, e2.mo (Nat.le_refl _) (by omega), e3', e4', zKI.t ⟨fun t ht => qM.1 t ht, qM.2 22 (by decide)⟩ e5⟩
      · have e6 := g.2.2.2.2.2.2.2.2 r (by omega) hl
        have z : zcn P (nI r) nl = 0 := by
          by_cases w : zcn P (nI r) nl = 0
          · exact w
          · obtain ⟨l, hl1, hl2⟩ := (zcn_pos nl).mp (Nat.pos_of_ne_zero w)
            refine absurd ⟨l, hl1, ?_⟩ hl
            unfold zrg
            rw [hl2, nI_clamp (by omega)]
        rw [z, if_pos (by decide), e6, if_pos rfl]
        obtain ⟨U', e1, e2, e3', e4', e5⟩ := ih (r + 1) K S S' (by omega) (by omega) h hI hBd h17 (fun j hj => h18 j (by omega))
        exact ⟨U', e1, e2.mo (Nat.le_refl _) (by omega), e3', e4', e5⟩

/-! the way of a cast: its hops visit bridges that differ -/
theorem zpig : ∀ (n m : Nat) (f : Nat → Nat), (∀ j, j < m → f j < n) → (∀ i j, i < j → j < m → ¬ f i = f j) → m ≤ n
  | 0, m, f, h, _ => by
    by_cases c : m = 0
    · omega
    · exact absurd (h 0 (by omega)) (Nat.not_lt_zero _)
  | n + 1, m, f, h, hd => by
    by_cases c : ∃ j, j < m ∧ f j = n
    · obtain ⟨j0, l0, e0⟩ := c
      have ih := zpig n (m - 1) (fun j => if j < j0 then f j else f (j + 1)) (fun j hj => by
        show (if j < j0 then f j else f (j + 1)) < n
        by_cases c : j < j0
        · rw [if_pos c]
          have h1 := h j (by omega)
          have h2 := hd j j0 c l0
          omega
        · rw [if_neg c]
          have h1 := h (j + 1) (by omega)
          have h2 := hd j0 (j + 1) (by omega) (by omega)
          omega) (fun i j hi hj => by
        show ¬ (if i < j0 then f i else f (i + 1)) = (if j < j0 then f j else f (j + 1))
        by_cases c1 : i < j0
        · rw [if_pos c1]
          by_cases c2 : j < j0
          · rw [if_pos c2]; exact hd i j hi (by omega)
          · rw [if_neg c2]; exact hd i (j + 1) (by omega) (by omega)
        · rw [if_neg c1, if_neg (by omega)]
          exact hd (i + 1) (j + 1) (by omega) (by omega))
      omega
    · have ih := zpig n m f (fun j hj => by
        have h1 := h j hj
        have h2 : ¬ f j = n := fun e => c ⟨j, hj, e⟩
        omega) hd
      omega
/-- a port's fellow on the same link -/
def zx (q : Nat) : Nat := q + 1 - 2 * (q % 2)
theorem zx_x (q : Nat) : zx (zx q) = q := by unfold zx; omega
theorem zx_h (q : Nat) : zx q / 2 = q / 2 := by unfold zx; omega
theorem zx_ne (q : Nat) : ¬ zx q = q := by unfold zx; omega
theorem zx_lt {q n : Nat} (h : q < 2 * n) : zx q < 2 * n := by unfold zx; omega
theorem zx_inj {p q : Nat} (h : zx p = zx q) : p = q := by rw [← zx_x p, h, zx_x]
theorem zoth_s {P P' : ZS} {nb nl q a : Nat} (g : zGeo P P' nb nl) (hq : q < 2 * nl) (h : zoth P nl q = some a) : zoth P nl a = some q ∧ ¬ a = q := by
  have hp := (zoth_in h).2
  unfold zoth at h ⊢
  rw [hp]
  rcases g.2.2.2.2.2.2.1 q hq with e | e
  · rw [if_pos e] at h
    obtain ⟨-, -, c, ec, lc⟩ := zB_in h
    rw [e] at ec
    cases ec
    refine ⟨?_, by omega⟩
    rw [if_neg (by rw [e]; intro w; cases w; omega)]
    exact e
  · obtain ⟨-, -, c, ec, lc⟩ := zB_in e
    rw [if_neg (by rw [ec]; intro w; cases w; omega), ec] at h
    cases h
    exact ⟨by rw [if_pos ec]; exact e, by omega⟩
/-- two ports of one place are the same or each other's other -/
theorem zoth_2 {P P' : ZS} {nb nl p q : Nat} (g : zGeo P P' nb nl) (hp : p < 2 * nl) (hq : q < 2 * nl) (e : zpl P p = zpl P q) (ne : ¬ p = q) : zoth P nl p = some q := by
  unfold zoth
  have c1 := g.2.2.2.2.2.2.1 p hp
  have c2 := g.2.2.2.2.2.2.1 q hq
  rw [← e] at c2
  by_cases c : zA P nl (zpl P p) = some p
  · rw [if_pos c]
    rcases c2 with h | h
    · rw [c] at h; cases h; exact absurd rfl ne
    · exact h
  · rw [if_neg c]
    rcases c2 with h | h
    · exact h
    · rcases c1 with w | w
      · exact absurd w c
      · rw [w] at h; cases h; exact absurd rfl ne
/-- a link's two ports are of one ring -/
theorem zx_r {P P' : ZS} {nb nl q : Nat} (g : zGeo P P' nb nl) (hq : q < 2 * nl) : zpl P (zx q) % 6 = zpl P q % 6 := by
  obtain ⟨p1, p2⟩ := g.2.2.1 (q / 2) (by omega)
  have hR := g.1.2.2.2.2.1 (q / 2)
  have f1 := hR.1
  have f2 := hR.2
  have rl : (P.F 2 (q / 2)).toNatClampNeg < 6 := by
    show (P.F 2 (q / 2)).toInt.toNat < 6
    omega
  rcases Nat.mod_two_eq_zero_or_one q with c | c
  · have e1 : 2 * (q / 2) = q := by omega
    have e2 : 2 * (q / 2) + 1 = zx q := by unfold zx; omega
    rw [e2] at p2
    rw [e1] at p1
    omega
  · have e1 : 2 * (q / 2) + 1 = q := by omega
    have e2 : 2 * (q / 2) = zx q := by unfold zx; omega
    rw [e1] at p2
    rw [e2] at p1
    omega
theorem zpl_b {P P' : ZS} {nb nl q : Nat} (g : zGeo P P' nb nl) (hq : q < 2 * nl) : zpl P q / 6 < nb ∧ zpl P q < 288 := by
  have hnb := g.nb
  obtain ⟨a, -⟩ := zprt (b := zpl P q / 6) (r := zpl P q % 6) g hq (by omega) (by omega)
  omega
/-- a cast of the source at place k lies on lane q after i hops more than the first -/
def zway (P : ZS) (nl k : Nat) : Nat → Nat → Prop
  | 0, q => ∃ p, p < 2 * nl ∧ zpl P p = k ∧ q = zx p
  | i + 1, q => ∃ q', zway P nl k i q' ∧ ¬ zpl P q' = k ∧ ∃ a, zoth P nl q' = some a ∧ q = zx a
/-- the same as a row of lanes -/
def zwf (P : ZS) (nl k : Nat) (f : Nat → Nat) (i : Nat) : Prop := (∃ p, p < 2 * nl ∧ zpl P p = k ∧ f 0 = zx p) ∧ ∀ j, j < i → ¬ zpl P (f j) = k ∧ ∃ a, zoth P nl (f j) = some a ∧ f (j + 1) = zx a
theorem zway_f {P : ZS} {nl k : Nat} : ∀ (i q : Nat), zway P nl k i q → ∃ f, zwf P nl k f i ∧ f i = q
  | 0, q, h => by
    obtain ⟨p, hp, e, eq⟩ := h
    exact ⟨fun _ => q, ⟨⟨p, hp, e, eq⟩, fun j hj => absurd hj (Nat.not_lt_zero _)⟩, rfl⟩
  | i + 1, q, h => by
    obtain ⟨q', h1, h2, a, h3, h4⟩ := h
    obtain ⟨f, ⟨f1, f2⟩, f3⟩ := zway_f i q' h1
    refine ⟨fun j => if j = i + 1 then q else f j, ⟨?_, fun j hj => ?_⟩, if_pos rfl⟩
    · obtain ⟨p, hp, e, eq⟩ := f1
      exact ⟨p, hp, e, by show (if 0 = i + 1 then q else f 0) = _; rw [if_neg (by omega)]; exact eq⟩
    · show ¬ zpl P (if j = i + 1 then q else f j) = k ∧ ∃ a, zoth P nl (if j = i + 1 then q else f j) = some a ∧ (if j + 1 = i + 1 then q else f (j + 1)) = zx a
      rw [if_neg (by omega)]
      by_cases c : j = i
      · rw [c, f3, if_pos rfl]
        exact ⟨h2, a, h3, h4⟩
      · rw [if_neg (by omega)]
        exact f2 j (by omega)
theorem zwf_in {P P' : ZS} {nb nl k i : Nat} {f : Nat → Nat} (g : zGeo P P' nb nl) (h : zwf P nl k f i) : ∀ j, j ≤ i → f j < 2 * nl ∧ zpl P (f j) % 6 = k % 6 := by
  obtain ⟨⟨p, hp, e, eq⟩, h2⟩ := h
  intro j
  induction j with
  | zero =>
    intro _
    rw [eq]
    exact ⟨zx_lt hp, by rw [zx_r g hp, e]⟩
  | succ j ih =>
    intro hj
    obtain ⟨i1, i2⟩ := ih (by omega)
    obtain ⟨-, a, ea, e2⟩ := h2 j (by omega)
    obtain ⟨la, pa⟩ := zoth_in ea
    rw [e2]
    exact ⟨zx_lt la, by rw [zx_r g la, pa]; exact i2⟩
/-- no lane comes twice -/
theorem zwf_1 {P P' : ZS} {nb nl k i : Nat} {f : Nat → Nat} (g : zGeo P P' nb nl) (h : zwf P nl k f i) : ∀ j j', j < j' → j' ≤ i → ¬ f j = f j' := by
  have hin := zwf_in g h
  obtain ⟨⟨p, hp, e, eq⟩, h2⟩ := h
  intro j
  induction j with
  | zero =>
    intro j' h0 hj w
    obtain ⟨x1, a, ea, e2⟩ := h2 (j' - 1) (by omega)
    rw [show j' - 1 + 1 = j' by omega] at e2
    rw [eq, e2] at w
    have : p = a := zx_inj w
    subst this
    exact x1 ((zoth_in ea).2.symm.trans e)
  | succ j ih =>
    intro j' h0 hj w
    obtain ⟨-, a, ea, e2⟩ := h2 j (by omega)
    obtain ⟨-, a', ea', e2'⟩ := h2 (j' - 1) (by omega)
    rw [show j' - 1 + 1 = j' by omega] at e2'
    rw [e2, e2'] at w
    have : a = a' := zx_inj w
    subst this
    have s1 := (zoth_s g (hin j (by omega)).1 ea).1
    have s2 := (zoth_s g (hin (j' - 1) (by omega)).1 ea').1
    rw [s1] at s2
    exact ih (j' - 1) (by omega) (by omega) (Option.some.inj s2)
/-- nor does it turn -/
theorem zwf_2 {P P' : ZS} {nb nl k i : Nat} {f : Nat → Nat} (g : zGeo P P' nb nl) (h : zwf P nl k f i) : ∀ d j j', j' = j + d → 0 < d → j' ≤ i → ¬ zoth P nl (f j) = some (f j') := by
  have hin := zwf_in g h
  obtain ⟨-, h2⟩ := h
  intro d
  induction d using Nat.strongRecOn with
  | ind d ih =>
    intro j j' hd h0 hj w
    obtain ⟨-, a, ea, e2⟩ := h2 j (by omega)
    rw [w] at ea
    cases ea
    obtain ⟨-, a', ea', e2'⟩ := h2 (j' - 1) (by omega)
    rw [show j' - 1 + 1 = j' by omega] at e2'
    have e3 : f (j + 1) = a' := by rw [e2, e2', zx_x]
    by_cases c1 : d = 1
    · have : j' = j + 1 := by omega
      subst this
      exact zx_ne _ e2.symm
    · have s := zoth_s g (hin (j' - 1) (by omega)).1 ea'
      rw [← e3] at s
      by_cases c2 : d = 2
      · have : j' - 1 = j + 1 := by omega
        rw [this] at s
        exact s.2 rfl
      · exact ih (d - 2) (by omega) (j + 1) (j' - 1) (by omega) (by omega) (by omega) s.1
theorem zway_le {P P' : ZS} {nb nl k i q : Nat} (g : zGeo P P' nb nl) (h : zway P nl k i q) : i + 1 ≤ nb ∧ q < 2 * nl ∧ zpl P q % 6 = k % 6 := by
  obtain ⟨f, hf, e⟩ := zway_f i q h
  have hin := zwf_in g hf
  refine ⟨zpig nb (i + 1) (fun j => zpl P (f j) / 6) (fun j hj => (zpl_b g (hin j (by omega)).1).1) (fun j j' h1 h2 w => ?_), by rw [← e]; exact hin i (Nat.le_refl _)⟩
  have i1 := hin j (by omega)
  have i2 := hin j' (by omega)
  have w' : zpl P (f j) / 6 = zpl P (f j') / 6 := w
  have e6 : zpl P (f j) = zpl P (f j') := by omega
  have n1 := zwf_1 g hf j j' h1 (by omega)
  exact zwf_2 g hf (j' - j) j j' (by omega) (by omega) (by omega) (zoth_2 g i1.1 i2.1 e6 n1)
theorem zx_xor (q : Nat) : q ^^^ 1 = zx q := by
  have x1 : (q ^^^ 1) / 2 = q / 2 := by rw [Nat.xor_div_two]; simp
  have x2 : (q ^^^ 1) % 2 = (q % 2 + 1) % 2 := by
    have t : (q ^^^ 1).testBit 0 = !(q.testBit 0) := by rw [Nat.testBit_xor]; simp
    rcases Nat.mod_two_eq_zero_or_one q with c | c
    · rw [Nat.mod_two_eq_zero_iff_testBit_zero.mp c] at t
      have := Nat.mod_two_eq_one_iff_testBit_zero.mpr t
      omega
    · rw [Nat.mod_two_eq_one_iff_testBit_zero.mp c] at t
      have := Nat.mod_two_eq_zero_iff_testBit_zero.mpr t
      omega
  unfold zx
  omega

/-! one link of each ring at least is kept closed: the class's side alone -/
def zHd (P : ZS) (nl : Nat) (h : Nat → Int32) (m : Int32) (k : Nat) : Prop := ∃ q, q < 2 * nl ∧ zpl P q = k ∧ ¬ h q &&& m = 0
theorem zHd.mo {P : ZS} {nl k : Nat} {h h' : Nat → Int32} {m m' : Int32} (a : zHd P nl h m k) (t : ∀ q, q < 2 * nl → zpl P q = k → ¬ h q &&& m = 0 → ¬ h' q &&& m' = 0) : zHd P nl h' m' k := by
  obtain ⟨q, hq, e, n⟩ := a
  exact ⟨q, hq, e, t q hq e n⟩
theorem zm_or (x a b : Int32) : x &&& (a ||| b) = 0 ↔ x &&& a = 0 ∧ x &&& b = 0 := by
  rw [Int32.and_comm, zorm0, Int32.and_comm a, Int32.and_comm b]
theorem zm_23 (x : Int32) : x &&& 23 = 0 ↔ x &&& 7 = 0 ∧ x &&& 16 = 0 := by
  have t := zm_or x 7 16
  rw [show (7 : Int32) ||| 16 = 23 by decide] at t
  exact t
theorem zm_15 (x : Int32) : x &&& 15 = 0 ↔ x &&& 7 = 0 ∧ x &&& 8 = 0 := by
  have t := zm_or x 7 8
  rw [show (7 : Int32) ||| 8 = 15 by decide] at t
  exact t
theorem zm_31 (x : Int32) : x &&& 31 = 0 ↔ x &&& 15 = 0 ∧ x &&& 16 = 0 := by
  have t := zm_or x 15 16
  rw [show (15 : Int32) ||| 16 = 31 by decide] at t
  exact t
theorem zHd_23 {P : ZS} {nl k : Nat} {h : Nat → Int32} (a : zHd P nl h 23 k) : zHd P nl h 7 k ∨ zHd P nl h 16 k := by
  obtain ⟨q, hq, e, n⟩ := a
  by_cases c : h q &&& 7 = 0
  · exact Or.inr ⟨q, hq, e, fun w => n ((zm_23 _).mpr ⟨c, w⟩)⟩
  · exact Or.inl ⟨q, hq, e, c⟩
theorem zHd_7 {P : ZS} {nl k : Nat} {h : Nat → Int32} (a : zHd P nl h 7 k) : zHd P nl h 23 k ∧ zHd P nl h 15 k := ⟨a.mo (fun q _ _ n w => n ((zm_23 _).mp w).1), a.mo (fun q _ _ n w => n ((zm_15 _).mp w).1)⟩
theorem zHd_16 {P : ZS} {nl k : Nat} {h : Nat → Int32} (a : zHd P nl h 16 k) : zHd P nl h 23 k := a.mo (fun q _ _ n w => n ((zm_23 _).mp w).2)
theorem zHd_31 {P : ZS} {nl k : Nat} {h : Nat → Int32} (a : zHd P nl h 15 k ∨ zHd P nl h 23 k) : zHd P nl h 31 k := by
  rcases a with a | a
  · exact a.mo (fun q _ _ n w => n ((zm_31 _).mp w).1)
  · refine a.mo (fun q _ _ n w => n ?_)
    have w2 := (zm_31 _).mp w
    exact (zm_23 _).mpr ⟨((zm_15 _).mp w2.1).1, w2.2⟩
/-- a block cast of the source at place k on lane q: k is active still, or guards for long -/
def zF1 (P : ZS) (nb nl : Nat) (h gd : Nat → Int32) (d : Nat → Nat) (k q : Nat) : Prop := ∃ i, zway P nl k i q ∧ (zHd P nl h 7 k ∨ 2 * (nb : Int) + 4 + (d k : Int) ≤ (gd k).toInt + (i : Int) + 1)
/-- a DONE of the owner at place k on lane q -/
def zF2 (P : ZS) (nb nl : Nat) (h gd : Nat → Int32) (d : Nat → Nat) (k q : Nat) : Prop := ∃ i, zway P nl k i q ∧ ∃ k', k' % 6 = k % 6 ∧ (zHd P nl h 23 k' ∨ (nb : Int) + 4 + (d k' : Int) ≤ (gd k').toInt + (i : Int) + 1)
def zOK (P : ZS) (nb nl : Nat) (h gd : Nat → Int32) (d : Nat → Nat) (x : Int32) (q : Nat) : Prop := ∃ s, s < 48 ∧ (x >>> ((3 : Int32) &&& 31)) &&& 63 = nI s ∧ ((x &&& 7 = 0 ∨ x &&& 7 = 1 ∨ x &&& 7 = 2) → zF1 P nb nl h gd d (6 * s + zpl P q % 6) q) ∧ (x &&& 7 = 4 → zF2 P nb nl h gd d (6 * s + zpl P q % 6) q)
/-- what holds and guards may do in one step -/
def zstp (P : ZS) (nb nl : Nat) (h gd h' gd' : Nat → Int32) : Prop := (∀ k, (zHd P nl h 7 k → zHd P nl h' 7 k ∨ gd' k = zgd nb) ∧ (gd' k = gd k ∨ gd' k = zgd nb)) ∧ ∀ k, zHd P nl h 16 k → zHd P nl h' 16 k ∨ ∃ k', k' % 6 = k % 6 ∧ (zHd P nl h' 7 k' ∨ (nb : Int) + 4 ≤ (gd' k').toInt)
theorem zgd_i {nb : Nat} (h : nb ≤ 48) : (zgd nb).toInt = 2 * (nb : Int) + 4 := by
  unfold zgd
  rw [nI_toInt (by omega)]
  omega
theorem zstp.rf {P : ZS} {nb nl : Nat} {h gd : Nat → Int32} : zstp P nb nl h gd h gd := ⟨fun k => ⟨Or.inl, Or.inl rfl⟩, fun k w => Or.inl w⟩
theorem zstp.t {P : ZS} {nb nl : Nat} {h gd h' gd' h'' gd'' : Nat → Int32} (hb : nb ≤ 48) (a : zstp P nb nl h gd h' gd') (b : zstp P nb nl h' gd' h'' gd'') : zstp P nb nl h gd h'' gd'' := by
  have eg := zgd_i hb
  refine ⟨fun k => ⟨fun w => ?_, ?_⟩, fun k w => ?_⟩
  · rcases (a.1 k).1 w with w | w
    · exact (b.1 k).1 w
    · rcases (b.1 k).2 with e | e
      · exact Or.inr (e.trans w)
      · exact Or.inr e
  · rcases (b.1 k).2 with e | e
    · rcases (a.1 k).2 with e' | e'
      · exact Or.inl (e.trans e')
      · exact Or.inr (e.trans e')
    · exact Or.inr e
  · rcases a.2 k w with w | ⟨k', e, w⟩
    · exact b.2 k w
    · refine Or.inr ⟨k', e, ?_⟩
      rcases w with w | w
      · rcases (b.1 k').1 w with w | w
        · exact Or.inl w
        · refine Or.inr ?_
          rw [w, eg]
          omega
      · rcases (b.1 k').2 with e | e
        · rw [e]; exact Or.inr w
        · refine Or.inr ?_
          rw [e, eg]
          omega
theorem zF1.mo {P : ZS} {nb nl k q : Nat} {h gd h' gd' : Nat → Int32} {d : Nat → Nat} (hb : nb ≤ 48) (hd : ∀ k, d k ≤ 1) (a : zF1 P nb nl h gd d k q) (s : zstp P nb nl h gd h' gd') : zF1 P nb nl h' gd' d k q := by
  have eg := zgd_i hb
  have d1 := hd k
  obtain ⟨i, w, c⟩ := a
  refine ⟨i, w, ?_⟩
  rcases c with c | c
  · rcases (s.1 k).1 c with c | c
    · exact Or.inl c
    · refine Or.inr ?_
      rw [c, eg]
      omega
  · refine Or.inr ?_
    rcases (s.1 k).2 with e | e
    · rw [e]; exact c
    · rw [e, eg]
      omega
theorem zF2.mo {P : ZS} {nb nl k q : Nat} {h gd h' gd' : Nat → Int32} {d : Nat → Nat} (hb : nb ≤ 48) (hd : ∀ k, d k ≤ 1) (a : zF2 P nb nl h gd d k q) (s : zstp P nb nl h gd h' gd') : zF2 P nb nl h' gd' d k q := by
  have eg := zgd_i hb
  obtain ⟨i, w, k', e, c⟩ := a
  refine ⟨i, w, ?_⟩
  rcases c with c | c
  · rcases zHd_23 c with c | c
    · refine ⟨k', e, ?_⟩
      rcases (s.1 k').1 c with c | c
      · exact Or.inl (zHd_7 c).1
      · refine Or.inr ?_
        have d1 := hd k'
        rw [c, eg]
        omega
    · rcases s.2 k' c with c | ⟨k2, e2, c⟩
      · exact ⟨k', e, Or.inl (zHd_16 c)⟩
      · refine ⟨k2, e2.trans e, ?_⟩
        rcases c with c | c
        · exact Or.inl (zHd_7 c).1
        · refine Or.inr ?_
          have d1 := hd k2
          omega
  · refine ⟨k', e, Or.inr ?_⟩
    rcases (s.1 k').2 with e | e
    · rw [e]; exact c
    · have d1 := hd k'
      rw [e, eg]
      omega
theorem zOK.mo {P : ZS} {nb nl q : Nat} {x : Int32} {h gd h' gd' : Nat → Int32} {d : Nat → Nat} (hb : nb ≤ 48) (hd : ∀ k, d k ≤ 1) (a : zOK P nb nl h gd d x q) (s : zstp P nb nl h gd h' gd') : zOK P nb nl h' gd' d x q := by
  obtain ⟨s0, a1, a2, a3, a4⟩ := a
  exact ⟨s0, a1, a2, fun w => (a3 w).mo hb hd s, fun w => (a4 w).mo hb hd s⟩
/-- guards stand by a hold; each ring has one -/
def zJ (R : Nat → Prop) (P : ZS) (nb nl : Nat) (h gd : Nat → Int32) : Prop := (∀ k, ¬ (gd k).toInt ≤ 0 → zHd P nl h 15 k) ∧ ∀ l, l < nl → R (zrg P l) → ∃ k, k % 6 = zrg P l ∧ zHd P nl h 31 k
def zgd2 (R : Nat → Prop) (P : ZS) (nb nl : Nat) (h gd h' gd' : Nat → Int32) : Prop := zstp P nb nl h gd h' gd' ∧ zJ R P nb nl h' gd'
theorem zgd2.t {R : Nat → Prop} {P : ZS} {nb nl : Nat} {h gd h' gd' h'' gd'' : Nat → Int32} (hb : nb ≤ 48) (a : zgd2 R P nb nl h gd h' gd') (b : zgd2 R P nb nl h' gd' h'' gd'') : zgd2 R P nb nl h gd h'' gd'' := ⟨a.1.t hb b.1, b.2⟩
/-- an active hold begins at a place of ring r; the owner's may end -/
theorem zE1 {R : Nat → Prop} {P : ZS} {nb nl r k0 : Nat} {h h' gd : Nat → Int32} (j : zJ R P nb nl h gd) (m7 : ∀ q, q < 2 * nl → ¬ h q &&& 7 = 0 → ¬ h' q &&& 7 = 0) (m15 : ∀ q, q < 2 * nl → ¬ h q &&& 15 = 0 → ¬ h' q &&& 15 = 0) (off : ∀ q, q < 2 * nl → ¬ zpl P q % 6 = r → h' q = h q) (h0 : k0 % 6 = r) (ac : zHd P nl h' 7 k0) : zgd2 R P nb nl h gd h' gd := by
  refine ⟨⟨fun k => ⟨fun w => Or.inl (w.mo (fun q hq _ n => m7 q hq n)), Or.inl rfl⟩, fun k w => ?_⟩, fun k hk => ?_, fun l hl hR => ?_⟩
  · by_cases c : k % 6 = r
    · exact Or.inr ⟨k0, by omega, Or.inl ac⟩
    · refine Or.inl (w.mo (fun q hq e n => ?_))
      rw [off q hq (by rw [e]; exact c)]
      exact n
  · exact (j.1 k hk).mo (fun q hq e n => m15 q hq n)
  · obtain ⟨k, e, w⟩ := j.2 l hl hR
    by_cases c : k % 6 = r
    · exact ⟨k0, by omega, zHd_31 (Or.inr (zHd_7 ac).1)⟩
    · refine ⟨k, e, w.mo (fun q hq e n => ?_)⟩
      rw [off q hq (by rw [e]; exact c)]
      exact n
/-- an active hold ends at port q: WAITING and the guard come -/
theorem zE2 {R : Nat → Prop} {P : ZS} {nb nl q : Nat} {h gd : Nat → Int32} {s : Int32} (j : zJ R P nb nl h gd) (hq : q < 2 * nl) (hs : (h q &&& (s ^^^ (-1))) &&& 16 = h q &&& 16) : zgd2 R P nb nl h gd (upd h q ((h q &&& (s ^^^ (-1))) ||| 8)) (upd gd (zpl P q) (zgd nb)) := by
  have at8 : ¬ upd h q ((h q &&& (s ^^^ (-1))) ||| 8) q &&& 8 = 0 := by
    rw [upd_at]
    intro w
    exact absurd ((zorm0 _ _ _).mp w).2 (by decide)
  have own15 : zHd P nl (upd h q ((h q &&& (s ^^^ (-1))) ||| 8)) 15 (zpl P q) := ⟨q, hq, rfl, fun w => at8 ((zm_15 _).mp w).2⟩
  refine ⟨⟨fun k => ⟨fun w => ?_, ?_⟩, fun k w => Or.inl (w.mo (fun q' hq' e n => ?_))⟩, fun k hk => ?_, fun l hl hR => ?_⟩
  · by_cases c : k = zpl P q
    · exact Or.inr (by rw [c, upd_at])
    · refine Or.inl (w.mo (fun q' hq' e n => ?_))
      rw [upd_ne _ _ (fun w => c (by rw [← e, w]))]
      exact n
  · by_cases c : k = zpl P q
    · exact Or.inr (by rw [c, upd_at])
    · exact Or.inl (upd_ne _ _ c)
  · by_cases c : q' = q
    · rw [c, upd_at]
      intro w
      have w1 := ((zorm0 _ _ _).mp w).1
      rw [hs] at w1
      rw [c] at n
      exact n w1
    · rw [upd_ne _ _ c]; exact n
  · by_cases c : k = zpl P q
    · rw [c]; exact own15
    · rw [upd_ne _ _ c] at hk
      refine (j.1 k hk).mo (fun q' hq' e n => ?_)
      rw [upd_ne _ _ (fun w => c (by rw [← e, w]))]
      exact n
  · obtain ⟨k, e, w⟩ := j.2 l hl hR
    by_cases c : k = zpl P q
    · exact ⟨k, e, by rw [c]; exact zHd_31 (Or.inl own15)⟩
    · refine ⟨k, e, w.mo (fun q' hq' e n => ?_)⟩
      rw [upd_ne _ _ (fun w => c (by rw [← e, w]))]
      exact n
/-- WAITING ends at place k0: it guards no more, and something else keeps the ring -/
theorem zE3 {R : Nat → Prop} {P : ZS} {nb nl k0 : Nat} {h h' gd : Nat → Int32} (j : zJ R P nb nl h gd) (m23 : ∀ q, h' q &&& 23 = h q &&& 23) (off : ∀ q, q < 2 * nl → ¬ zpl P q = k0 → h' q = h q) (g0 : (gd k0).toInt ≤ 0) (ot : ∃ k, k % 6 = k0 % 6 ∧ (zHd P nl h 23 k ∨ (¬ k = k0 ∧ zHd P nl h 15 k))) : zgd2 R P nb nl h gd h' gd := by
  have m7 : ∀ q, h' q &&& 7 = h q &&& 7 := fun q => zsubm (m23 q) (by decide)
  have m16 : ∀ q, h' q &&& 16 = h q &&& 16 := fun q => zsubm (m23 q) (by decide)
  refine ⟨⟨fun k => ⟨fun w => Or.inl (w.mo (fun q _ _ n => by rw [m7]; exact n)), Or.inl rfl⟩, fun k w => Or.inl (w.mo (fun q _ _ n => by rw [m16]; exact n))⟩, fun k hk => ?_, fun l hl hR => ?_⟩
  · have c : ¬ k = k0 := fun e => hk (by rw [e]; exact g0)
    refine (j.1 k hk).mo (fun q hq e n => ?_)
    rw [off q hq (by rw [e]; exact c)]
    exact n
  · obtain ⟨k, e, w⟩ := j.2 l hl hR
    by_cases c : k % 6 = k0 % 6
    · obtain ⟨k2, e2, w2⟩ := ot
      refine ⟨k2, by omega, ?_⟩
      rcases w2 with w2 | ⟨n2, w2⟩
      · exact zHd_31 (Or.inr (w2.mo (fun q _ _ n => by rw [m23]; exact n)))
      · exact zHd_31 (Or.inl (w2.mo (fun q hq e n => by rw [off q hq (by rw [e]; exact n2)]; exact n)))
    · refine ⟨k, e, w.mo (fun q hq e n => ?_)⟩
      rw [off q hq (by rw [e]; intro q9; exact c (by rw [q9]))]
      exact n
/-- the owner's hold ends, for a block is heard of -/
theorem zE4 {R : Nat → Prop} {P : ZS} {nb nl r : Nat} {h h' gd : Nat → Int32} (j : zJ R P nb nl h gd) (m15 : ∀ q, h' q &&& 15 = h q &&& 15) (off : ∀ q, q < 2 * nl → ¬ zpl P q % 6 = r → h' q = h q) (ot : ∃ k, k % 6 = r ∧ (zHd P nl h 7 k ∨ (nb : Int) + 4 ≤ (gd k).toInt)) : zgd2 R P nb nl h gd h' gd := by
  have m7 : ∀ q, h' q &&& 7 = h q &&& 7 := fun q => zsubm (m15 q) (by decide)
  refine ⟨⟨fun k => ⟨fun w => Or.inl (w.mo (fun q _ _ n => by rw [m7]; exact n)), Or.inl rfl⟩, fun k w => ?_⟩, fun k hk => (j.1 k hk).mo (fun q _ _ n => by rw [m15]; exact n), fun l hl hR => ?_⟩
  · by_cases c : k % 6 = r
    · obtain ⟨k2, e2, w2⟩ := ot
      refine Or.inr ⟨k2, by omega, ?_⟩
      rcases w2 with w2 | w2
      · exact Or.inl (w2.mo (fun q _ _ n => by rw [m7]; exact n))
      · exact Or.inr w2
    · refine Or.inl (w.mo (fun q hq e n => ?_))
      rw [off q hq (by rw [e]; exact c)]
      exact n
  · obtain ⟨k, e, w⟩ := j.2 l hl hR
    by_cases c : k % 6 = r
    · obtain ⟨k2, e2, w2⟩ := ot
      refine ⟨k2, by omega, ?_⟩
      rcases w2 with w2 | w2
      · exact zHd_31 (Or.inl ((zHd_7 w2).2.mo (fun q _ _ n => by rw [m15]; exact n)))
      · exact zHd_31 (Or.inl ((j.1 k2 (by omega)).mo (fun q _ _ n => by rw [m15]; exact n)))
    · refine ⟨k, e, w.mo (fun q hq e n => ?_)⟩
      rw [off q hq (by rw [e]; exact c)]
      exact n
/-- holds only come -/
theorem zE5 {R : Nat → Prop} {P : ZS} {nb nl : Nat} {h h' gd : Nat → Int32} (j : zJ R P nb nl h gd) (up : ∀ q m, ¬ h q &&& m = 0 → ¬ h' q &&& m = 0) : zgd2 R P nb nl h gd h' gd := by
  refine ⟨⟨fun k => ⟨fun w => Or.inl (w.mo (fun q _ _ n => up q 7 n)), Or.inl rfl⟩, fun k w => Or.inl (w.mo (fun q _ _ n => up q 16 n))⟩, fun k hk => (j.1 k hk).mo (fun q _ _ n => up q 15 n), fun l hl hR => ?_⟩
  obtain ⟨k, e, w⟩ := j.2 l hl hR
  exact ⟨k, e, w.mo (fun q _ _ n => up q 31 n)⟩

/-! open links make no circle, and a frame comes to each bridge once: links as pairs of numbers -/
abbrev zinc (A B : Nat → Nat) (l b : Nat) : Prop := A l = b ∨ B l = b
/-- how many links of E are at b -/
noncomputable def zde (A B : Nat → Nat) (E : Nat → Prop) (nl b : Nat) : Nat := zct (fun l => E l ∧ zinc A B l b) nl
def zsu (f : Nat → Nat) : Nat → Nat
  | 0 => 0
  | n + 1 => zsu f n + f n
theorem zsu_cg {f g : Nat → Nat} : ∀ n, (∀ b, b < n → f b = g b) → zsu f n = zsu g n
  | 0, _ => rfl
  | n + 1, h => by
    show zsu f n + f n = zsu g n + g n
    rw [zsu_cg n (fun b hb => h b (by omega)), h n (Nat.lt_succ_self n)]
theorem zsu_add {f g : Nat → Nat} : ∀ n, zsu (fun b => f b + g b) n = zsu f n + zsu g n
  | 0 => rfl
  | n + 1 => by
    show zsu (fun b => f b + g b) n + (f n + g n) = (zsu f n + f n) + (zsu g n + g n)
    rw [zsu_add n]
    omega
theorem zsu_z : ∀ n, zsu (fun _ => 0) n = 0
  | 0 => rfl
  | n + 1 => by
    show zsu (fun _ => 0) n + 0 = 0
    rw [zsu_z n]
theorem zsu_ct {p : Nat → Prop} : ∀ n, zsu (fun b => @ite Nat (p b) (Classical.propDecidable _) 1 0) n = zct p n
  | 0 => rfl
  | n + 1 => by
    show zsu (fun b => @ite Nat (p b) (Classical.propDecidable _) 1 0) n + _ = zct p n + _
    rw [zsu_ct n]
theorem zhand {A B : Nat → Nat} {E : Nat → Prop} {nb : Nat} : ∀ m, (∀ l, l < m → A l < nb ∧ B l < nb ∧ ¬ A l = B l) → zsu (fun b => zde A B E m b) nb = 2 * zct E m
  | 0, _ => zsu_z nb
  | m + 1, h => by
    have ih := zhand (E := E) m (fun l hl => h l (by omega))
    obtain ⟨ha, hb, hne⟩ := h m (Nat.lt_succ_self m)
    by_cases c : E m
    · have e : ∀ b, zde A B E (m + 1) b = zde A B E m b + @ite Nat (A m = b ∨ B m = b) (Classical.propDecidable _) 1 0 := fun b => by
        unfold zde
        by_cases d : A m = b ∨ B m = b
        · rw [zct_1 (p := fun l => E l ∧ zinc A B l b) ⟨c, d⟩, @if_pos _ (Classical.propDecidable _) d _ _ _]
        · rw [zct_0 (p := fun l => E l ∧ zinc A B l b) (fun q => d q.2), @if_neg _ (Classical.propDecidable _) d _ _ _, Nat.add_zero]
      rw [zsu_cg nb (fun b _ => e b), zsu_add, ih, zsu_ct (p := fun b => A m = b ∨ B m = b), zct_two hne, if_pos ha, if_pos hb, zct_1 c]
      omega
    · have e : ∀ b, zde A B E (m + 1) b = zde A B E m b := fun b => zct_0 (p := fun l => E l ∧ zinc A B l b) (fun q => c q.1)
      rw [zsu_cg nb (fun b _ => e b), ih, zct_0 c]
theorem zpar {f : Nat → Nat} {b0 : Nat} : ∀ n, (∀ b, b < n → ¬ b = b0 → f b % 2 = 0) → zsu f n % 2 = (if b0 < n then f b0 % 2 else 0)
  | 0, _ => by
    rw [if_neg (Nat.not_lt_zero _)]
    rfl
  | n + 1, h => by
    have ih := zpar n (fun b hb => h b (by omega))
    show (zsu f n + f n) % 2 = _
    by_cases c : n = b0
    · subst c
      rw [if_neg (Nat.lt_irrefl _)] at ih
      rw [if_pos (Nat.lt_succ_self _)]
      omega
    · have h9 := h n (Nat.lt_succ_self n) c
      by_cases d : b0 < n
      · rw [if_pos d] at ih
        rw [if_pos (by omega)]
        omega
      · rw [if_neg d] at ih
        rw [if_neg (by omega)]
        omega
theorem zct_sp {p q : Nat → Prop} : ∀ n, zct p n = zct (fun x => p x ∧ q x) n + zct (fun x => p x ∧ ¬ q x) n
  | 0 => rfl
  | n + 1 => by
    have ih := zct_sp (p := p) (q := q) n
    by_cases c : p n
    · by_cases d : q n
      · rw [zct_1 c, zct_1 (p := fun x => p x ∧ q x) ⟨c, d⟩, zct_0 (p := fun x => p x ∧ ¬ q x) (fun w => w.2 d)]
        omega
      · rw [zct_1 c, zct_0 (p := fun x => p x ∧ q x) (fun w => d w.2), zct_1 (p := fun x => p x ∧ ¬ q x) ⟨c, d⟩]
        omega
    · rw [zct_0 c, zct_0 (p := fun x => p x ∧ q x) (fun w => c w.1), zct_0 (p := fun x => p x ∧ ¬ q x) (fun w => c w.1)]
      exact ih
/-- two of the first n -/
theorem zct_t2 {p : Nat → Prop} : ∀ n, 2 ≤ zct p n ↔ ∃ i j, i < j ∧ j < n ∧ p i ∧ p j
  | 0 => ⟨fun h => by have : zct p 0 = 0 := rfl
                      omega, fun ⟨i, j, _, h, _⟩ => absurd h (Nat.not_lt_zero _)⟩
  | n + 1 => by
    have ih := zct_t2 (p := p) n
    have i1 := zct_pos2 (p := p) n
    by_cases c : p n
    · rw [zct_1 c]
      constructor
      · intro h
        obtain ⟨i, hi, q⟩ := i1.mp (by omega)
        exact ⟨i, n, hi, Nat.lt_succ_self n, q, c⟩
      · rintro ⟨i, j, a, b, q, q2⟩
        have := i1.mpr ⟨i, by omega, q⟩
        omega
    · rw [zct_0 c, ih]
      constructor
      · rintro ⟨i, j, a, b, q⟩
        exact ⟨i, j, a, by omega, q⟩
      · rintro ⟨i, j, a, b, q, q2⟩
        refine ⟨i, j, a, ?_, q, q2⟩
        by_cases w : j = n
        · exact absurd (w ▸ q2) c
        · omega
/-- the shape of ring r, as a start asks it -/
def zshp (A B rg : Nat → Nat) (nl r : Nat) : Prop :=
  (∀ b, zde A B (fun l => rg l = r) nl b ≤ 2) ∧
  (∀ X : Nat → Prop, (∀ l, l < nl → rg l = r → (X (A l) ↔ X (B l))) → ∀ l l', l < nl → l' < nl → rg l = r → rg l' = r → X (A l) → X (A l')) ∧
  ((∀ b, zde A B (fun l => rg l = r) nl b = 2 → ¬ ∃ l, l < nl ∧ rg l < r ∧ zinc A B l b) ∨
    ∀ b b', 0 < zde A B (fun l => rg l = r) nl b → 0 < zde A B (fun l => rg l = r) nl b' → (∃ l, l < nl ∧ rg l < r ∧ zinc A B l b) → (∃ l, l < nl ∧ rg l < r ∧ zinc A B l b') → b = b')
/-- among links that leave out one of each ring, some bridge has just one -/
theorem zleaf {A B rg : Nat → Nat} {nb nl : Nat} {E : Nat → Prop} (hl : ∀ l, l < nl → A l < nb ∧ B l < nb ∧ ¬ A l = B l) (hs : ∀ l, l < nl → zshp A B rg nl (rg l)) (r6 : ∀ l, l < nl → rg l < 6) (hE : ∀ l, E l → l < nl) (hO : ∀ l, E l → ∃ l', l' < nl ∧ rg l' = rg l ∧ ¬ E l') (h0 : ∃ l, E l) : ∃ b, zde A B E nl b = 1 := by
  obtain ⟨lm, hm, mx⟩ : ∃ lm, E lm ∧ ∀ l, E l → rg l ≤ rg lm := by
    have key : ∀ n l, E l → 6 - rg l ≤ n → ∃ lm, E lm ∧ ∀ l, E l → rg l ≤ rg lm := by
      intro n
      induction n with
      | zero =>
        intro l h1 h2
        have := r6 l (hE l h1)
        omega
      | succ n ih =>
        intro l h1 h2
        by_cases c : ∃ l', E l' ∧ rg l < rg l'
        · obtain ⟨l', e1, e2⟩ := c
          have := r6 l' (hE l' e1)
          exact ih l' e1 (by omega)
        · exact ⟨l, h1, fun l' e => Nat.not_lt.mp (fun q => c ⟨l', e, q⟩)⟩
    obtain ⟨l0, h0⟩ := h0
    exact key 6 l0 h0 (by omega)
  have hml := hE lm hm
  obtain ⟨sd, sc, ss⟩ := hs lm hml
  obtain ⟨l', hl', er', ne'⟩ := hO lm hm
  generalize hr : rg lm = r at sd sc ss mx er'
  obtain ⟨b, l1, l2, e1, r1, i1, h2, r2, n2, i2⟩ : ∃ b l1 l2, E l1 ∧ rg l1 = r ∧ zinc A B l1 b ∧ l2 < nl ∧ rg l2 = r ∧ ¬ E l2 ∧ zinc A B l2 b := by
    apply Classical.byContradiction
    intro no
    obtain ⟨l1, e1, e2, e3⟩ := sc (fun b => ∃ l1, E l1 ∧ rg l1 = r ∧ zinc A B l1 b) (fun l hl el => by
      constructor
      · rintro ⟨l1, e1, e2, e3⟩
        by_cases c : E l
        · exact ⟨l, c, el, Or.inr rfl⟩
        · exact absurd ⟨A l, l1, l, e1, e2, e3, hl, el, c, Or.inl rfl⟩ no
      · rintro ⟨l1, e1, e2, e3⟩
        by_cases c : E l
        · exact ⟨l, c, el, Or.inl rfl⟩
        · exact absurd ⟨B l, l1, l, e1, e2, e3, hl, el, c, Or.inr rfl⟩ no) lm l' hml hl' hr er' ⟨lm, hm, hr, Or.inl rfl⟩
    exact no ⟨A l', l1, l', e1, e2, e3, hl', er', ne', Or.inl rfl⟩
  have key : ∀ b, zde A B (fun l => E l ∧ rg l = r) nl b = 1 → ¬ (∃ l, l < nl ∧ rg l < r ∧ zinc A B l b) → zde A B E nl b = 1 := fun b h1 h2 => by
    rw [← h1]
    refine zct_congr nl (fun l hl => ⟨fun w => ⟨⟨w.1, ?_⟩, w.2⟩, fun w => ⟨w.1.1, w.2⟩⟩)
    have m := mx l w.1
    have n : ¬ rg l < r := fun q => h2 ⟨l, hl, q, w.2⟩
    omega
  have sp : ∀ b, zde A B (fun l => rg l = r) nl b = zde A B (fun l => E l ∧ rg l = r) nl b + zct (fun l => (rg l = r ∧ zinc A B l b) ∧ ¬ E l) nl := fun b => by
    have t := zct_sp (p := fun l => rg l = r ∧ zinc A B l b) (q := E) nl
    have t2 : zct (fun l => (rg l = r ∧ zinc A B l b) ∧ E l) nl = zde A B (fun l => E l ∧ rg l = r) nl b := zct_congr nl (fun l hl => ⟨fun w => ⟨⟨w.2, w.1.1⟩, w.1.2⟩, fun w => ⟨⟨w.1.2, w.2⟩, w.1.1⟩⟩)
    rw [t2] at t
    exact t
  have d1 : zde A B (fun l => E l ∧ rg l = r) nl b = 1 ∧ zde A B (fun l => rg l = r) nl b = 2 := by
    have a1 : 0 < zde A B (fun l => E l ∧ rg l = r) nl b := (zct_pos2 nl).mpr ⟨l1, hE l1 e1, ⟨e1, r1⟩, i1⟩
    have a2 : 0 < zct (fun l => (rg l = r ∧ zinc A B l b) ∧ ¬ E l) nl := (zct_pos2 nl).mpr ⟨l2, h2, ⟨r2, i2⟩, n2⟩
    have a3 := sp b
    have a4 := sd b
    omega
  have hb : b < nb := by
    obtain ⟨x, y, -⟩ := hl l1 (hE l1 e1)
    rcases i1 with e | e
    · rw [← e]; exact x
    · rw [← e]; exact y
  rcases ss with ch | cl
  · exact ⟨b, key b d1.1 (ch b d1.2)⟩
  · by_cases c : ∃ l, l < nl ∧ rg l < r ∧ zinc A B l b
    · have hand := zhand (E := fun l => E l ∧ rg l = r) nl hl
      obtain ⟨b', hb', ne, e⟩ : ∃ b', b' < nb ∧ ¬ b' = b ∧ zde A B (fun l => E l ∧ rg l = r) nl b' = 1 := by
        apply Classical.byContradiction
        intro no
        have p := zpar (f := fun b => zde A B (fun l => E l ∧ rg l = r) nl b) (b0 := b) nb (fun b' hb' ne => by
          have a3 := sp b'
          have a4 := sd b'
          have n1 : ¬ zde A B (fun l => E l ∧ rg l = r) nl b' = 1 := fun e => no ⟨b', hb', ne, e⟩
          show zde A B (fun l => E l ∧ rg l = r) nl b' % 2 = 0
          omega)
        rw [hand, if_pos hb] at p
        have p2 : 2 * zct (fun l => E l ∧ rg l = r) nl % 2 = zde A B (fun l => E l ∧ rg l = r) nl b % 2 := p
        rw [d1.1] at p2
        omega
      have a3 := sp b'
      exact ⟨b', key b' e (fun w => ne (cl b' b (by omega) (by omega) w c))⟩
    · exact ⟨b, key b d1.1 c⟩
/-- so each bridge has at most one link up, and each link is one bridge's link up -/
theorem zrank {A B : Nat → Nat} {nb nl : Nat} (hl : ∀ l, l < nl → A l < nb ∧ B l < nb ∧ ¬ A l = B l) : ∀ (n : Nat) (E : Nat → Prop), zct E nl ≤ n → (∀ l, E l → l < nl) → (∀ E' : Nat → Prop, (∀ l, E' l → E l) → (∃ l, E' l) → ∃ b, zde A B E' nl b = 1) → ∃ rk up : Nat → Nat, ∀ l, E l → (up (A l) = l ∧ rk (B l) < rk (A l)) ∨ (up (B l) = l ∧ rk (A l) < rk (B l)) := by
  intro n
  induction n with
  | zero =>
    intro E h1 h2 h3
    refine ⟨fun _ => 0, fun _ => 0, fun l h => ?_⟩
    have := (zct_pos2 nl).mpr ⟨l, h2 l h, h⟩
    omega
  | succ n ih =>
    intro E h1 h2 h3
    by_cases ex : ∃ l, E l
    · obtain ⟨b, hb⟩ := h3 E (fun _ h => h) ex
      obtain ⟨l0, hl0, e0, i0⟩ := (zct_pos2 (p := fun l => E l ∧ zinc A B l b) nl).mp (by have : zct (fun l => E l ∧ zinc A B l b) nl = 1 := hb
                                                                                          omega)
      have uq : ∀ l, E l → zinc A B l b → l = l0 := fun l e i => by
        apply Classical.byContradiction
        intro ne
        have two : 2 ≤ zct (fun l => E l ∧ zinc A B l b) nl := by
          rcases Nat.lt_or_gt_of_ne ne with w | w
          · exact (zct_t2 nl).mpr ⟨l, l0, w, hl0, ⟨e, i⟩, e0, i0⟩
          · exact (zct_t2 nl).mpr ⟨l0, l, w, h2 l e, ⟨e0, i0⟩, e, i⟩
        have : zct (fun l => E l ∧ zinc A B l b) nl = 1 := hb
        omega
      have rm := (zct_rm (p := E) (p' := fun l => E l ∧ l ≠ l0) (j := l0) e0 (fun i => Iff.rfl) nl).2 hl0
      obtain ⟨rk, up, hr⟩ := ih (fun l => E l ∧ l ≠ l0) (by omega) (fun l h => h2 l h.1) (fun E' s x => h3 E' (fun l h => (s l h).1) x)
      obtain ⟨x, y, ne⟩ := hl l0 hl0
      refine ⟨fun z => if z = b then (if A l0 = b then rk (B l0) else rk (A l0)) + 1 else rk z, fun z => if z = b then l0 else up z, fun l h => ?_⟩
      show ((if A l = b then l0 else up (A l)) = l ∧ (if B l = b then (if A l0 = b then rk (B l0) else rk (A l0)) + 1 else rk (B l)) < (if A l = b then (if A l0 = b then rk (B l0) else rk (A l0)) + 1 else rk (A l))) ∨ ((if B l = b then l0 else up (B l)) = l ∧ (if A l = b then (if A l0 = b then rk (B l0) else rk (A l0)) + 1 else rk (A l)) < (if B l = b then (if A l0 = b then rk (B l0) else rk (A l0)) + 1 else rk (B l)))
      by_cases c : l = l0
      · subst c
        rcases i0 with i | i
        · have n2 : ¬ B l = b := fun e => ne (i.trans e.symm)
          left
          rw [if_pos i, if_neg n2, if_pos i, if_pos i]
          exact ⟨rfl, Nat.lt_succ_self _⟩
        · have n2 : ¬ A l = b := fun e => ne (e.trans i.symm)
          right
          rw [if_pos i, if_neg n2, if_pos i, if_neg n2]
          exact ⟨rfl, Nat.lt_succ_self _⟩
      · have n1 : ¬ A l = b := fun e => c (uq l h (Or.inl e))
        have n2 : ¬ B l = b := fun e => c (uq l h (Or.inr e))
        rw [if_neg n1, if_neg n2, if_neg n1, if_neg n2]
        exact hr l ⟨h, c⟩
    · exact ⟨fun _ => 0, fun _ => 0, fun l h => absurd ⟨l, h⟩ ex⟩
/-- the steps of a frame: where, over which link, from which step -/
def zfl (A B : Nat → Nat) (E : Nat → Prop) (cnt : Nat) (sb sl pa : Nat → Nat) : Prop :=
  (∀ i, 0 < i → i < cnt → pa i < i ∧ E (sl i) ∧ (pa i = 0 ∨ ¬ sl (pa i) = sl i) ∧ ((A (sl i) = sb (pa i) ∧ B (sl i) = sb i) ∨ (B (sl i) = sb (pa i) ∧ A (sl i) = sb i))) ∧
  ∀ i j, 0 < i → i < j → j < cnt → ¬ (pa i = pa j ∧ sl i = sl j)
def zup (rk up sb sl pa : Nat → Nat) (i : Nat) : Prop := up (sb (pa i)) = sl i ∧ rk (sb i) < rk (sb (pa i))
def zdw (rk up sb sl pa : Nat → Nat) (i : Nat) : Prop := up (sb i) = sl i ∧ rk (sb (pa i)) < rk (sb i)
/-- a step that went up all the way -/
def zU (rk up sb sl pa : Nat → Nat) (cnt : Nat) : Nat → Nat → Prop
  | 0, i => i = 0
  | k + 1, i => 0 < i ∧ i < cnt ∧ zup rk up sb sl pa i ∧ zU rk up sb sl pa cnt k (pa i)
/-- bridges over the first one -/
def zV (A B : Nat → Nat) (rk up : Nat → Nat) (b0 : Nat) : Nat → Nat → Prop
  | 0, b => b = b0
  | k + 1, b => ∃ b', zV A B rk up b0 k b' ∧ ((A (up b') = b' ∧ B (up b') = b) ∨ (B (up b') = b' ∧ A (up b') = b)) ∧ rk b < rk b'
theorem zV_d {A B rk up : Nat → Nat} {b0 : Nat} : ∀ k b b2, zV A B rk up b0 k b → zV A B rk up b0 k b2 → b = b2
  | 0, b, b2, h1, h2 => h1.trans h2.symm
  | k + 1, b, b2, h1, h2 => by
    obtain ⟨c, v1, e1, r1⟩ := h1
    obtain ⟨c2, v2, e2, r2⟩ := h2
    have : c = c2 := zV_d k c c2 v1 v2
    subst this
    rcases e1 with ⟨x, y⟩ | ⟨x, y⟩ <;> rcases e2 with ⟨x2, y2⟩ | ⟨x2, y2⟩
    · rw [← y, ← y2]
    · rw [← y, x2] at r1
      exact absurd r1 (Nat.lt_irrefl _)
    · rw [← y, x2] at r1
      exact absurd r1 (Nat.lt_irrefl _)
    · rw [← y, ← y2]
theorem zV_r {A B rk up : Nat → Nat} {b0 : Nat} : ∀ k' k b b2, zV A B rk up b0 k b → zV A B rk up b0 k' b2 → k < k' → rk b2 < rk b
  | 0, k, b, b2, _, _, h => absurd h (Nat.not_lt_zero _)
  | k' + 1, k, b, b2, h1, h2, h => by
    obtain ⟨c, v, -, r⟩ := h2
    by_cases e : k = k'
    · subst e
      rw [zV_d k b c h1 v]
      exact r
    · have := zV_r k' k b c h1 v (by omega)
      omega
theorem zflood {A B rk up sb sl pa : Nat → Nat} {E : Nat → Prop} {cnt : Nat} (hr : ∀ l, E l → (up (A l) = l ∧ rk (B l) < rk (A l)) ∨ (up (B l) = l ∧ rk (A l) < rk (B l))) (h : zfl A B E cnt sb sl pa) : ∀ j i, i < j → j < cnt → ¬ sb i = sb j := by
  obtain ⟨h1, h2⟩ := h
  have ud : ∀ i, 0 < i → i < cnt → zup rk up sb sl pa i ∨ zdw rk up sb sl pa i := fun i h0 hc => by
    obtain ⟨-, e, -, ends⟩ := h1 i h0 hc
    unfold zup zdw
    rcases hr _ e with ⟨x, y⟩ | ⟨x, y⟩ <;> rcases ends with ⟨p, q⟩ | ⟨p, q⟩
    · rw [p] at x y
      rw [q] at y
      exact Or.inl ⟨x, y⟩
    · rw [q] at x y
      rw [p] at y
      exact Or.inr ⟨x, y⟩
    · rw [q] at x y
      rw [p] at y
      exact Or.inr ⟨x, y⟩
    · rw [p] at x y
      rw [q] at y
      exact Or.inl ⟨x, y⟩
  -- after a step down comes a step down
  have cls : ∀ i, i < cnt → (∃ k, zU rk up sb sl pa cnt k i) ∨ (0 < i ∧ zdw rk up sb sl pa i) := by
    intro i
    induction i using Nat.strongRecOn with
    | ind i ih =>
      intro hc
      by_cases z : i = 0
      · exact Or.inl ⟨0, z⟩
      · obtain ⟨lt, e, nq, ends⟩ := h1 i (by omega) hc
        rcases ud i (by omega) hc with u | w
        · rcases ih (pa i) lt (by omega) with ⟨k, uk⟩ | ⟨p0, w⟩
          · exact Or.inl ⟨k + 1, by omega, hc, u, uk⟩
          · rcases nq with q | q
            · omega
            · exact absurd (w.1.symm.trans u.1) q
        · exact Or.inr ⟨by omega, w⟩
  have uV : ∀ k i, zU rk up sb sl pa cnt k i → zV A B rk up (sb 0) k (sb i) := by
    intro k
    induction k with
    | zero =>
      intro i u
      have : i = 0 := u
      rw [this]
      rfl
    | succ k ih =>
      intro i u
      obtain ⟨i0, ic, ⟨u1, u2⟩, u3⟩ := u
      obtain ⟨-, e, -, ends⟩ := h1 i i0 ic
      refine ⟨sb (pa i), ih _ u3, ?_, u2⟩
      rw [u1]
      exact ends
  have u1 : ∀ k i j, zU rk up sb sl pa cnt k i → zU rk up sb sl pa cnt k j → i = j := by
    intro k
    induction k with
    | zero =>
      intro i j a b
      have ea : i = 0 := a
      have eb : j = 0 := b
      omega
    | succ k ih =>
      intro i j a b
      obtain ⟨i0, ic, ⟨x1, -⟩, x3⟩ := a
      obtain ⟨j0, jc, ⟨y1, -⟩, y3⟩ := b
      have e := ih _ _ x3 y3
      have es : sl i = sl j := by rw [← x1, ← y1, e]
      rcases Nat.lt_trichotomy i j with w | w | w
      · exact absurd ⟨e, es⟩ (h2 i j i0 w jc)
      · exact w
      · exact absurd ⟨e.symm, es.symm⟩ (h2 j i j0 w ic)
  -- a step down leads to no bridge over the first one
  have dn : ∀ i, 0 < i → i < cnt → zdw rk up sb sl pa i → ∀ k, ¬ zV A B rk up (sb 0) k (sb i) := by
    intro i
    induction i using Nat.strongRecOn with
    | ind i ih =>
      intro i0 ic w k v
      obtain ⟨lt, e, nq, ends⟩ := h1 i i0 ic
      have v1 : zV A B rk up (sb 0) (k + 1) (sb (pa i)) := by
        refine ⟨sb i, v, ?_, w.2⟩
        rw [w.1]
        rcases ends with ⟨p, q⟩ | ⟨p, q⟩
        · exact Or.inr ⟨q, p⟩
        · exact Or.inl ⟨q, p⟩
      rcases cls (pa i) (by omega) with ⟨k', uk⟩ | ⟨p0, w2⟩
      · have v2 := uV k' _ uk
        have ek : k' = k + 1 := by
          rcases Nat.lt_trichotomy k' (k + 1) with c | c | c
          · exact absurd (zV_r _ _ _ _ v2 v1 c) (Nat.lt_irrefl _)
          · exact c
          · exact absurd (zV_r _ _ _ _ v1 v2 c) (Nat.lt_irrefl _)
        subst ek
        obtain ⟨p0, pc, ⟨x1, -⟩, x3⟩ := uk
        have es := zV_d k _ _ (uV k _ x3) v
        rcases nq with q | q
        · omega
        · exact q (by rw [← x1, es, w.1])
      · exact ih (pa i) lt p0 (by omega) w2 (k + 1) v1
  intro j
  induction j using Nat.strongRecOn with
  | ind j ih =>
    intro i hi hj e
    rcases cls i (by omega) with ⟨k, u⟩ | ⟨i0, w⟩
    · rcases cls j hj with ⟨k', u'⟩ | ⟨j0, w'⟩
      · have v := uV k i u
        have v' := uV k' j u'
        rw [← e] at v'
        rcases Nat.lt_trichotomy k k' with c | c | c
        · exact absurd (zV_r _ _ _ _ v v' c) (Nat.lt_irrefl _)
        · subst c
          have := u1 k i j u u'
          omega
        · exact absurd (zV_r _ _ _ _ v' v c) (Nat.lt_irrefl _)
      · exact dn j j0 hj w' k (by rw [← e]; exact uV k i u)
    · rcases cls j hj with ⟨k', u'⟩ | ⟨j0, w'⟩
      · exact dn i i0 (by omega) w k' (by rw [e]; exact uV k' j u')
      · obtain ⟨lt, -, -, ends⟩ := h1 i i0 (by omega)
        obtain ⟨lt', -, -, ends'⟩ := h1 j j0 hj
        have es : sl i = sl j := by rw [← w.1, ← w'.1, e]
        have ep : sb (pa i) = sb (pa j) := by
          have ri := w.2
          have rj := w'.2
          rw [← es] at ends'
          rcases ends with ⟨p, q⟩ | ⟨p, q⟩ <;> rcases ends' with ⟨p', q'⟩ | ⟨p', q'⟩
          · rw [← p, ← p']
          · rw [← p, q', ← e] at ri
            exact absurd ri (Nat.lt_irrefl _)
          · rw [← p, q', ← e] at ri
            exact absurd ri (Nat.lt_irrefl _)
          · rw [← p, ← p']
        rcases Nat.lt_trichotomy (pa i) (pa j) with c | c | c
        · exact ih (pa j) lt' (pa i) c (by omega) ep
        · exact h2 i j i0 hi hj ⟨c, es⟩
        · exact ih (pa i) (by omega) (pa j) c (by omega) ep.symm

/-! lanes of casts and the class's methods, for the same -/
def zLv (P : ZS) (nb nl : Nat) (d : Nat → Nat) (S : ZS) : Prop := ∀ q, ∃ c, c ≤ 64 ∧ S.F 12 q = nI c ∧ (q < 2 * nl → ∀ j, j < c → zOK P nb nl (S.F 14) (S.F 15) d (S.F 11 (64 * q + j)) q)
def zAv (P : ZS) (nb nl : Nat) (S : ZS) : Prop := ∀ q, q < 2 * nl → ∃ c, c ≤ 64 ∧ S.F 10 q = nI c ∧ ∀ j, j < c → zOK P nb nl (S.F 14) (S.F 15) (fun _ => 0) (S.F 9 (64 * q + j)) q
def zW (R : Nat → Prop) (P : ZS) (nb nl : Nat) (ar : Prop) (d : Nat → Nat) (S : ZS) : Prop := zJ R P nb nl (S.F 14) (S.F 15) ∧ zLv P nb nl d S ∧ (ar → zAv P nb nl S)
theorem zW.st {R : Nat → Prop} {P : ZS} {nb nl : Nat} {ar : Prop} {d : Nat → Nat} {S T : ZS} (w : zW R P nb nl ar d S) (hb : nb ≤ 48) (hd : ∀ k, d k ≤ 1) (e : ∀ j ∈ [9, 10, 11, 12], T.F j = S.F j) (g : zgd2 R P nb nl (S.F 14) (S.F 15) (T.F 14) (T.F 15)) : zW R P nb nl ar d T := by
  obtain ⟨j, l, a⟩ := w
  refine ⟨g.2, fun q => ?_, fun ha q hq => ?_⟩
  · obtain ⟨c, c64, ec, hc⟩ := l q
    refine ⟨c, c64, by rw [e 12 (by decide)]; exact ec, fun hq k hk => ?_⟩
    rw [e 11 (by decide)]
    exact (hc hq k hk).mo hb hd g.1
  · obtain ⟨c, c64, ec, hc⟩ := a ha q hq
    refine ⟨c, c64, by rw [e 10 (by decide)]; exact ec, fun k hk => ?_⟩
    rw [e 9 (by decide)]
    exact (hc k hk).mo hb (fun _ => Nat.zero_le _) g.1
theorem zW.cg {R : Nat → Prop} {P : ZS} {nb nl : Nat} {ar : Prop} {d : Nat → Nat} {S T : ZS} (w : zW R P nb nl ar d S) (e : ∀ j ∈ [9, 10, 11, 12, 14, 15], T.F j = S.F j) : zW R P nb nl ar d T := by
  unfold zW zLv zAv at *
  rw [e 9 (by decide), e 10 (by decide), e 11 (by decide), e 12 (by decide), e 14 (by decide), e 15 (by decide)]
  exact w
theorem zW.fr {R : Nat → Prop} {P : ZS} {nb nl : Nat} {ar : Prop} {d : Nat → Nat} {S T : ZS} {ws fs : List Nat} (w : zW R P nb nl ar d S) (f : zfr 28 ws fs S T) (m : ∀ q ∈ [9, 10, 11, 12, 14, 15], min q 28 ∉ fs) : zW R P nb nl ar d T := w.cg (fun q hq => f.2 q (m q hq))
theorem zW.put {R : Nat → Prop} {P : ZS} {nb nl L : Nat} {ar : Prop} {d : Nat → Nat} {S : ZS} {x : Int32} (w : zW R P nb nl ar d S) (hn : nl ≤ 60) (hL : L < 2 * nl) (hx : zOK P nb nl (S.F 14) (S.F 15) d x L) : zW R P nb nl ar d (fWI_put P S (nI L) x) := by
  obtain ⟨j, l, a⟩ := w
  obtain ⟨c, c64, ec, hc⟩ := l L
  have z64 : (64 : Int32) = nI 64 := by decide
  unfold fWI_put
  simp only [zl]
  rw [nI_clamp (by omega), ec]
  by_cases d6 : c = 64
  · rw [d6, if_neg (by decide)]
    exact ⟨j, l, a⟩
  · rw [z64, if_pos (nI_lt (by omega) (by omega)), nI_mul, nI_add, nI_clamp (by omega), nI_1, show L * 64 + c = 64 * L + c by omega]
    have f12 : ((S.setF 11 (64 * L + c) x).setF 12 L (nI (c + 1))).F 12 = upd (S.F 12) L (nI (c + 1)) := by rw [zFsk, zFsn _ (by decide)]
    have f11 : ((S.setF 11 (64 * L + c) x).setF 12 L (nI (c + 1))).F 11 = upd (S.F 11) (64 * L + c) x := by rw [zFsn _ (by decide), zFsk]
    have fo : ∀ k, k ≠ 11 → k ≠ 12 → ((S.setF 11 (64 * L + c) x).setF 12 L (nI (c + 1))).F k = S.F k := fun k h1 h2 => by rw [zFsn _ h2, zFsn _ h1]
    generalize (S.setF 11 (64 * L + c) x).setF 12 L (nI (c + 1)) = T at f12 f11 fo ⊢
    refine ⟨by rw [fo 14 (by decide) (by decide), fo 15 (by decide) (by decide)]; exact j, fun q => ?_, fun ha q hq => ?_⟩
    · rw [f12, f11, fo 14 (by decide) (by decide), fo 15 (by decide) (by decide)]
      by_cases e : q = L
      · subst e
        refine ⟨c + 1, by omega, upd_at _ _ _, fun hq k hk => ?_⟩
        by_cases ek : k = c
        · rw [ek, upd_at]; exact hx
        · rw [upd_ne _ _ (by omega)]; exact hc hq k (by omega)
      · obtain ⟨c2, c264, ec2, hc2⟩ := l q
        refine ⟨c2, c264, by rw [upd_ne _ _ e]; exact ec2, fun hq k hk => ?_⟩
        rw [upd_ne _ _ (by omega)]
        exact hc2 hq k hk
    · rw [fo 10 (by decide) (by decide), fo 9 (by decide) (by decide), fo 14 (by decide) (by decide), fo 15 (by decide) (by decide)]
      exact a ha q hq
theorem zpO_k (P : ZS) (x : Int32) (o : Option Nat) (S : ZS) {j : Nat} (h1 : j ≠ 11) (h2 : j ≠ 12) : (zpO P x o S).F j = S.F j := by
  cases o with
  | none => rfl
  | some a =>
    show (if fPR_isDown P S (nI a) = 0 then fWI_put P S (nI a ^^^ 1) x else S).F j = S.F j
    split
    · unfold fWI_put
      simp only [zl]
      split
      · rw [zFsn _ h2, zFsn _ h1]
      · rfl
    · rfl
theorem zW.pO {R : Nat → Prop} {P P' : ZS} {nb nl : Nat} {ar : Prop} {d : Nat → Nat} {S : ZS} {x : Int32} (w : zW R P nb nl ar d S) (g : zGeo P P' nb nl) {o : Option Nat} (ho : ∀ a, o = some a → a < 2 * nl ∧ zOK P nb nl (S.F 14) (S.F 15) d x (zx a)) : zW R P nb nl ar d (zpO P x o S) := by
  cases o with
  | none => exact w
  | some a =>
    obtain ⟨h1, h2⟩ := ho a rfl
    show zW R P nb nl ar d (if fPR_isDown P S (nI a) = 0 then fWI_put P S (nI a ^^^ 1) x else S)
    split
    · rw [zxor, zx_xor]
      exact w.put g.nl (zx_lt h1) h2
    · exact w
theorem zW.pf {R : Nat → Prop} {P P' : ZS} {nb nl k : Nat} {ar : Prop} {d : Nat → Nat} {S : ZS} {x : Int32} (w : zW R P nb nl ar d S) (g : zGeo P P' nb nl) (hk : k < 288) (hx : ∀ a, a < 2 * nl → zpl P a = k → zOK P nb nl (S.F 14) (S.F 15) d x (zx a)) : zW R P nb nl ar d (fPR_putFromPorts P S (nI k) x) := by
  rw [zpf_g g hk]
  refine (w.pO g (fun a e => ⟨(zA_in e).1, hx a (zA_in e).1 (zA_in e).2⟩)).pO g (fun a e => ⟨(zB_in e).1, ?_⟩)
  rw [zpO_k P x _ S (by decide) (by decide), zpO_k P x _ S (by decide) (by decide)]
  exact hx a (zB_in e).1 (zB_in e).2.1
/-! what a cast says of its kind and its source -/
theorem zshl0 (x sh : Int32) (k : Nat) (hs : (sh.toBitVec.smod 32).toNat = k) (hk : 9 ≤ k) : (x <<< sh) &&& 511 = 0 := zbx (fun i hi => by
  have h5 : (511 : Int32).toBitVec.getLsbD i = decide (i < 9) := (show ∀ i, i < 32 → (511 : Int32).toBitVec.getLsbD i = decide (i < 9) by decide) i hi
  rw [Int32.toBitVec_and, BitVec.getLsbD_and, h5, Int32.toBitVec_shiftLeft, BitVec.shiftLeft_eq', hs, BitVec.getLsbD_shiftLeft, zb0]
  by_cases c : i < 9
  · have c2 : i < k := by omega
    simp [c2]
  · simp [c])
theorem zsr_c {x y : Int32} (h : x &&& 511 = y &&& 511) : (x >>> ((3 : Int32) &&& 31)) &&& 63 = (y >>> ((3 : Int32) &&& 31)) &&& 63 := zbx (fun i hi => by
  have h6 : (63 : Int32).toBitVec.getLsbD i = decide (i < 6) := (show ∀ i, i < 32 → (63 : Int32).toBitVec.getLsbD i = decide (i < 6) by decide) i hi
  have hs : ((3 &&& 31 : Int32).toBitVec.smod 32) = BitVec.ofNat 32 3 := by decide
  have h3 : (BitVec.ofNat 32 3).toNat = 3 := by decide
  rw [Int32.toBitVec_and, Int32.toBitVec_and, BitVec.getLsbD_and, BitVec.getLsbD_and, h6, Int32.toBitVec_shiftRight, Int32.toBitVec_shiftRight, hs, BitVec.sshiftRight_eq', BitVec.sshiftRight_eq', h3, BitVec.getLsbD_sshiftRight, BitVec.getLsbD_sshiftRight]
  by_cases c : i < 6
  · have h5 : (511 : Int32).toBitVec.getLsbD (3 + i) = true := (show ∀ i, i < 6 → (511 : Int32).toBitVec.getLsbD (3 + i) = true by decide) i c
    have hb := congrArg (fun z : Int32 => z.toBitVec.getLsbD (3 + i)) h
    simp only [Int32.toBitVec_and, BitVec.getLsbD_and, h5, Bool.and_true] at hb
    rw [if_pos (by omega), if_pos (by omega), hb]
  · simp [c])
theorem zca {a b : Nat} (ha : a ≤ 5) (hb : b ≤ 47) (P S : ZS) (n m : Int32) : fCA_of P S (nI a) (nI b) n m &&& 7 = nI a ∧ (fCA_of P S (nI a) (nI b) n m >>> ((3 : Int32) &&& 31)) &&& 63 = nI b := by
  have w1 : ∀ m : Int32, (m <<< ((16 : Int32) &&& 31)) &&& 511 = 0 := fun m => zshl0 m _ 16 (by decide) (by decide)
  have w2 : ∀ n : Int32, (n <<< ((9 : Int32) &&& 31)) &&& 511 = 0 := fun n => zshl0 n _ 9 (by decide) (by decide)
  have key : ∀ n m : Int32, fCA_of P S (nI a) (nI b) n m &&& 511 = ((0 ||| 0) ||| ((nI b <<< ((3 : Int32) &&& 31)) &&& 511)) ||| (nI a &&& 511) := fun n m => by
    have e : fCA_of P S (nI a) (nI b) n m = (((m <<< ((16 : Int32) &&& 31)) ||| (n <<< ((9 : Int32) &&& 31))) ||| (nI b <<< ((3 : Int32) &&& 31))) ||| nI a := rfl
    rw [e, zdist, zdist, zdist, w1, w2]
  have same : fCA_of P S (nI a) (nI b) n m &&& 511 = zcast a b 0 0 &&& 511 := by
    rw [key, ← zc_of P S a b 0 0, key]
  refine ⟨?_, ?_⟩
  · have t := zsubm (N := 7) same (by decide)
    rw [t]
    exact zc_kind ha hb (by omega) (by omega) P S
  · rw [zsr_c same]
    exact zc_src ha hb (by omega) (by omega) P S
theorem zOK_5 {P : ZS} {nb nl b q : Nat} {h gd : Nat → Int32} {d : Nat → Nat} (hb : b < 48) (S : ZS) (n m : Int32) : zOK P nb nl h gd d (fCA_of P S 5 (nI b) n m) q := by
  obtain ⟨k1, k2⟩ := zca (a := 5) (b := b) (by omega) (by omega) P S n m
  refine ⟨b, hb, k2, fun w => ?_, fun w => ?_⟩
  · rw [show (5 : Int32) = nI 5 by decide, k1] at w
    rcases w with w | w | w <;> exact absurd w (by decide)
  · rw [show (5 : Int32) = nI 5 by decide, k1] at w
    exact absurd w (by decide)
theorem zW.n68 {R : Nat → Prop} {P P' : ZS} {nb nl b r : Nat} {ar : Prop} {d : Nat → Nat} (g : zGeo P P' nb nl) (hb : b < nb) (hr : r < 6) (x : Int32) (hx : ∀ (h gd : Nat → Int32) q, zOK P nb nl h gd d x q) : ∀ (N i : Nat) (S : ZS), i ≤ 6 → 6 - i < N → zW R P nb nl ar d S → zW R P nb nl ar d (zfix (fun S9 _ _ _ _ => S9) (fPR_takeNews_68 P) N S (nI (6 * b + r)) (nI b) x (nI i)) := by
  have hn := g.nb
  have z6 : (6 : Int32) = nI 6 := by decide
  intro N
  induction N with
  | zero => intro i S h1 h2; omega
  | succ N ih =>
    intro i S h1 h2 h
    rw [zfix_s]
    generalize zfix (fun S9 _ _ _ _ => S9) (fPR_takeNews_68 P) N = rc at ih ⊢
    unfold fPR_takeNews_68 fPR_takeNews_98
    simp only [zl]
    by_cases c6 : i = 6
    · rw [z6, if_pos (nI_le (by omega) (by omega))]
      exact h
    · rw [z6, if_neg (nI_ge (by omega) (by omega)), nI_mul, nI_add, nI_1]
      split
      · exact ih (i + 1) S (by omega) (by omega) h
      · exact ih (i + 1) _ (by omega) (by omega) (h.pf g (by omega) (fun a _ _ => hx _ _ _))
theorem zW.nw {R : Nat → Prop} {P P' S : ZS} {nb nl b r : Nat} {ar : Prop} {d : Nat → Nat} (h : zW R P nb nl ar d S) (g : zGeo P P' nb nl) (hb : b < nb) (hr : r < 6) (y z : Int32) : zW R P nb nl ar d (fPR_takeNews P S (nI (6 * b + r)) y z) := by
  have hn := g.nb
  have z6 : (6 : Int32) = nI 6 := by decide
  have z0 : (0 : Int32) = nI 0 := by decide
  unfold fPR_takeNews
  simp only [zl]
  rw [z6, nI_div (by omega) (by omega), show (6 * b + r) / 6 = b by omega]
  split
  · rw [z0]
    refine zW.n68 g hb hr _ (fun h gd q => zOK_5 (by omega) _ _ _) 7 0 _ (by omega) (by omega) ?_
    exact ((h.cg (T := S.setF 21 _ z) (fun j hj => zFsn _ (by rintro rfl; revert hj; decide))).cg (fun j hj => zFsn _ (by rintro rfl; revert hj; decide))).fr (q_fTA_forgetAll P _ (nI b)) (by decide)
  · exact h
/-! holds of the class, step by step -/
theorem zwO_F (k : Nat) (o : Option Nat) (S : ZS) (q : Nat) : (zwO k o S).F 14 q = S.F 14 q ∨ (o = some q ∧ (zwO k o S).F 14 q = S.F 14 q &&& (-9)) := by
  cases o with
  | none => exact Or.inl rfl
  | some a =>
    show (zhs k a (S.F 14 a &&& (-9)) S).F 14 q = _ ∨ (_ ∧ (zhs k a (S.F 14 a &&& (-9)) S).F 14 q = _)
    rw [zhs_F]
    by_cases c : q = a
    · exact Or.inr ⟨by rw [c], by rw [c, upd_at]⟩
    · exact Or.inl (upd_ne _ _ c)
theorem zew_F {P P' : ZS} {nb nl b r : Nat} (g : zGeo P P' nb nl) (hb : b < nb) (hr : r < 6) (S : ZS) : (∀ q, (fPR_endWaiting P S (nI (6 * b + r))).F 14 q &&& 23 = S.F 14 q &&& 23) ∧ ∀ q, ¬ zpl P q = 6 * b + r → (fPR_endWaiting P S (nI (6 * b + r))).F 14 q = S.F 14 q := by
  rw [zew_g g hb hr]
  have m : ∀ (o : Option Nat) (X : ZS) q, (zwO (6 * b + r) o X).F 14 q &&& 23 = X.F 14 q &&& 23 := fun o X q => by
    rcases zwO_F (6 * b + r) o X q with e | ⟨-, e⟩
    · rw [e]
    · rw [e]; exact zkand (by decide)
  have n : ∀ (o : Option Nat) (X : ZS) q, ¬ o = some q → (zwO (6 * b + r) o X).F 14 q = X.F 14 q := fun o X q h => by
    rcases zwO_F (6 * b + r) o X q with e | ⟨w, -⟩
    · exact e
    · exact absurd w h
  refine ⟨fun q => by rw [m, m], fun q h => ?_⟩
  rw [n _ _ q (fun e => h (zB_in e).2.1), n _ _ q (fun e => h (zA_in e).2)]
theorem zW.ew {R : Nat → Prop} {P P' S : ZS} {nb nl b r : Nat} {ar : Prop} {d : Nat → Nat} (h : zW R P nb nl ar d S) (g : zGeo P P' nb nl) (hd : ∀ k, d k ≤ 1) (hb : b < nb) (hr : r < 6) (g0 : (S.F 15 (6 * b + r)).toInt ≤ 0) (ot : ∃ k, k % 6 = r ∧ (zHd P nl (S.F 14) 23 k ∨ (¬ k = 6 * b + r ∧ zHd P nl (S.F 14) 15 k))) : zW R P nb nl ar d (fPR_endWaiting P S (nI (6 * b + r))) := by
  obtain ⟨m, o⟩ := zew_F g hb hr S
  have q := q_fPR_endWaiting P S (nI (6 * b + r))
  refine h.st g.nb hd (fun j hj => q.2 j ((show ∀ j ∈ [9, 10, 11, 12], min j 28 ∉ [14, 16] by decide) j hj)) ?_
  rw [q.2 15 (by decide)]
  refine zE3 h.1 m (fun q _ e => o q e) g0 ?_
  obtain ⟨k, e, w⟩ := ot
  exact ⟨k, by omega, w⟩
theorem zeoh_F {P P' : ZS} {nb nl b r : Nat} (g : zGeo P P' nb nl) (hb : b < nb) (hr : r < 6) (hl : ∃ l, l < nl ∧ zrg P l = r) (S : ZS) : (∀ q, (fPR_endOwnerHold P S (nI (6 * b + r))).F 14 q &&& 15 = S.F 14 q &&& 15) ∧ ∀ q, ¬ zpl P q % 6 = r → (fPR_endOwnerHold P S (nI (6 * b + r))).F 14 q = S.F 14 q := by
  have hn := g.nb
  have hn2 := g.nl
  have z6 : (6 : Int32) = nI 6 := by decide
  unfold fPR_endOwnerHold
  simp only [zl]
  split
  · exact ⟨fun _ => rfl, fun _ _ => rfl⟩
  · obtain ⟨p, b2, hp, hb2, e6, epl, -⟩ := g.2.2.2.2.2.2.2.1 r hr hl
    rw [z6, nI_rem (by omega) (by omega), show (6 * b + r) % 6 = r by omega, nI_clamp (by omega), e6, nI_clamp (by omega), zFsn _ (by decide), zsh9, nI_clamp (by omega)]
    refine ⟨fun q => ?_, fun q h => ?_⟩
    · by_cases c : q = p
      · rw [c, upd_at]; exact zkand (by decide)
      · rw [upd_ne _ _ c]
    · exact upd_ne _ _ (fun e => h (by rw [e, epl]; omega))
theorem zW.bh {R : Nat → Prop} {P P' S X : ZS} {nb nl b r q : Nat} {ar : Prop} {d : Nat → Nat} (h : zW R P nb nl ar d S) (g : zGeo P P' nb nl) (hd : ∀ k, d k ≤ 1) (hq : q < 2 * nl) (hk : zpl P q = 6 * b + r) (hr : r < 6) {s : Int32} (hs : s = 1 ∨ s = 2 ∨ s = 4) (rw9 : ∀ j ∈ [9, 10, 11, 12, 15], X.F j = S.F j) (e14 : ∀ q', ¬ q' = q → X.F 14 q' = S.F 14 q') : zW R P nb nl ar d (fPR_beginHold P X (nI q) s) := by
  have hn2 := g.nl
  obtain ⟨hb, -, e5, -⟩ := zprt g hq hk hr
  have s7 : ¬ s &&& 7 = 0 := by rcases hs with e | e | e <;> rw [e] <;> decide
  rw [fPR_beginHold]
  repeat rw [zl]
  rw [nI_clamp (by omega), e5]
  have f14 : (fPR_setHolds P X (nI q) (X.F 14 q ||| s)).F 14 = upd (X.F 14) q (X.F 14 q ||| s) := by rw [zsh9, nI_clamp (by omega)]
  have qY := q_fPR_setHolds P X (nI q) (X.F 14 q ||| s)
  generalize fPR_setHolds P X (nI q) (X.F 14 q ||| s) = Y at f14 qY ⊢
  obtain ⟨m, o⟩ := zeoh_F g hb hr (zrg_of g hq hk hr) Y
  have qZ := q_fPR_endOwnerHold P Y (nI (6 * b + r))
  have m7 : ∀ q', (fPR_endOwnerHold P Y (nI (6 * b + r))).F 14 q' &&& 7 = Y.F 14 q' &&& 7 := fun q' => zsubm (m q') (by decide)
  generalize fPR_endOwnerHold P Y (nI (6 * b + r)) = Z at m o m7 qZ ⊢
  have zq : ¬ Z.F 14 q &&& 7 = 0 := by
    rw [m7, f14, upd_at]
    exact fun w => s7 ((zorm0 _ _ _).mp w).2
  have yo : ∀ q', ¬ q' = q → Y.F 14 q' = S.F 14 q' := fun q' ne => by rw [f14, upd_ne _ _ ne]; exact e14 q' ne
  refine h.st (T := Z.setI 10 (Z.I 10 + 1)) g.nb hd (fun j hj => ?_) ?_
  · show Z.F j = _
    rw [qZ.2 j ((show ∀ j ∈ [9, 10, 11, 12], min j 28 ∉ [14, 16, 17] by decide) j hj), qY.2 j ((show ∀ j ∈ [9, 10, 11, 12], min j 28 ∉ [14, 16] by decide) j hj)]
    exact rw9 j ((show ∀ j ∈ [9, 10, 11, 12], j ∈ [9, 10, 11, 12, 15] by decide) j hj)
  · show zgd2 R P nb nl (S.F 14) (S.F 15) (Z.F 14) (Z.F 15)
    rw [qZ.2 15 (by decide), qY.2 15 (by decide), rw9 15 (by decide)]
    refine zE1 (r := r) (k0 := 6 * b + r) h.1 (fun q' _ n => ?_) (fun q' _ n => ?_) (fun q' _ n => ?_) (by omega) ⟨q, hq, hk, zq⟩
    · by_cases c : q' = q
      · rw [c]; exact zq
      · rw [m7, yo q' c]; exact n
    · by_cases c : q' = q
      · rw [c]; exact fun w => zq ((zm_15 _).mp w).1
      · rw [m, yo q' c]; exact n
    · rw [o q' n, yo q' (fun e => n (by rw [e, hk]; omega))]
theorem zW.eh {R : Nat → Prop} {P P' S : ZS} {nb nl b r q : Nat} {ar : Prop} {d : Nat → Nat} (h : zW R P nb nl ar d S) (g : zGeo P P' nb nl) (hd : ∀ k, d k ≤ 1) (hq : q < 2 * nl) (hk : zpl P q = 6 * b + r) (hr : r < 6) {s : Int32} (hs : (S.F 14 q &&& (s ^^^ (-1))) &&& 16 = S.F 14 q &&& 16) : zW R P nb nl ar d (fPR_endHold P S (nI q) s) := by
  rw [zn_eh g hq hk hr]
  refine h.st g.nb hd (fun j hj => ?_) ?_
  · show ((zhs (6 * b + r) q ((S.F 14 q &&& (s ^^^ (-1))) ||| 8) S).setF 15 (6 * b + r) (zgd nb)).F j = _
    have jn : j ≠ 15 ∧ j ≠ 14 ∧ j ≠ 16 := (show ∀ j ∈ [9, 10, 11, 12], j ≠ 15 ∧ j ≠ 14 ∧ j ≠ 16 by decide) j hj
    rw [zFsn _ jn.1, zhs_n jn.2.1 jn.2.2]
  · show zgd2 R P nb nl (S.F 14) (S.F 15) (((zhs (6 * b + r) q ((S.F 14 q &&& (s ^^^ (-1))) ||| 8) S).setF 15 (6 * b + r) (zgd nb)).F 14) (((zhs (6 * b + r) q ((S.F 14 q &&& (s ^^^ (-1))) ||| 8) S).setF 15 (6 * b + r) (zgd nb)).F 15)
    rw [zFsk, zFsn _ (by decide), zhs_F, zhs_n (by decide) (by decide), ← hk]
    exact zE2 h.1 hq hs
theorem zout16 (x : Int32) : (x &&& ((x &&& 6) ^^^ (-1))) &&& 16 = x &&& 16 := by
  rw [zout, Int32.and_assoc, show ((6 : Int32) ^^^ (-1)) &&& 16 = 16 by decide]
theorem zcp_c {P P' : ZS} {nb nl k : Nat} (g : zGeo P P' nb nl) (hk : k < 288) (S : ZS) : fPR_commandPort P S (nI k) = -1 ∨ ∃ q, q < 2 * nl ∧ zpl P q = k ∧ fPR_commandPort P S (nI k) = nI q := by
  rw [zcp_g g hk]
  by_cases c : zhO (S.F 14) (zA P nl k) &&& 6 = 0
  · rw [if_pos c]
    by_cases c2 : zhO (S.F 14) (zB P nl k) &&& 6 = 0
    · rw [if_pos c2]; exact Or.inl rfl
    · rw [if_neg c2]
      cases e : zB P nl k with
      | none => rw [e] at c2; exact absurd (zand0 6) c2
      | some a => exact Or.inr ⟨a, (zB_in e).1, (zB_in e).2.1, rfl⟩
  · rw [if_neg c]
    cases e : zA P nl k with
    | none => rw [e] at c; exact absurd (zand0 6) c
    | some a => exact Or.inr ⟨a, (zA_in e).1, (zA_in e).2, rfl⟩
theorem zW.ec {R : Nat → Prop} {P P' S : ZS} {nb nl b r : Nat} {ar : Prop} {d : Nat → Nat} (h : zW R P nb nl ar d S) (g : zGeo P P' nb nl) (hd : ∀ k, d k ≤ 1) (hb : b < nb) (hr : r < 6) : zW R P nb nl ar d (fPR_endCommand P S (nI (6 * b + r))).1 := by
  have hn := g.nb
  have hn2 := g.nl
  rw [fPR_endCommand]
  repeat rw [zl]
  rcases zcp_c g (show 6 * b + r < 288 by omega) S with e | ⟨q, hq, hp, e⟩
  · rw [e, if_pos rfl]; exact h
  · rw [e, if_neg (nI_ne (by omega)), nI_clamp (by omega)]
    exact h.eh g hd hq hp hr (zout16 _)
theorem zW.hob {R : Nat → Prop} {P P' S : ZS} {nb nl b r : Nat} {ar : Prop} {d : Nat → Nat} (h : zW R P nb nl ar d S) (g : zGeo P P' nb nl) (hd : ∀ k, d k ≤ 1) (hb : b < nb) (hr : r < 6) (hl : ∃ l, l < nl ∧ zrg P l = r) (g0 : (S.F 15 (6 * b + r)).toInt ≤ 0) (ot : ∃ k, k % 6 = r ∧ ¬ k = 6 * b + r ∧ (zHd P nl (S.F 14) 7 k ∨ (nb : Int) + 4 ≤ (S.F 15 k).toInt)) (y z : Int32) : zW R P nb nl ar d (fPR_hearOfBlock P S (nI (6 * b + r)) y z) := by
  have hn := g.nb
  have hn2 := g.nl
  obtain ⟨k, ek, nk, ck⟩ := ot
  have qO := q_fPR_endOwnerHold P S (nI (6 * b + r))
  obtain ⟨m, o⟩ := zeoh_F g hb hr hl S
  have w1 : zW R P nb nl ar d (fPR_endOwnerHold P S (nI (6 * b + r))) := by
    refine h.st g.nb hd (fun j hj => qO.2 j ((show ∀ j ∈ [9, 10, 11, 12], min j 28 ∉ [14, 16, 17] by decide) j hj)) ?_
    rw [qO.2 15 (by decide)]
    exact zE4 h.1 m (fun q _ e => o q e) ⟨k, ek, ck⟩
  have c15 : zHd P nl ((fPR_endOwnerHold P S (nI (6 * b + r))).F 14) 15 k := by
    have c1 : zHd P nl (S.F 14) 15 k := by
      rcases ck with c | c
      · exact (zHd_7 c).2
      · exact h.1.1 k (by omega)
    exact c1.mo (fun q _ _ n => by rw [m]; exact n)
  have e15 : (fPR_endOwnerHold P S (nI (6 * b + r))).F 15 = S.F 15 := qO.2 15 (by decide)
  rw [fPR_hearOfBlock]
  repeat rw [zl]
  generalize fPR_endOwnerHold P S (nI (6 * b + r)) = X at w1 c15 e15 ⊢
  have w2 := w1.ew g hd hb hr (by rw [e15]; exact g0) ⟨k, ek, Or.inr ⟨nk, c15⟩⟩
  generalize fPR_endWaiting P X (nI (6 * b + r)) = Y at w2 ⊢
  rcases zcp_c g (show 6 * b + r < 288 by omega) Y with e | ⟨q, hq, hp, e⟩
  · rw [e, if_pos rfl]; exact w2
  · have h80 : zW R P nb nl ar d (fPR_hearOfBlock_80 P Y (nI q)) := by
      rw [fPR_hearOfBlock_80]
      repeat rw [zl]
      rw [nI_clamp (by omega)]
      exact w2.eh g hd hq hp hr (zout16 _)
    rw [e, if_neg (nI_ne (by omega)), zhb_t, zhb_t]
    split
    · split
      · exact h80
      · exact w2
    · split
      · exact h80
      · exact w2
theorem zW.h23 {R : Nat → Prop} {P P' S : ZS} {nb nl b r q : Nat} {ar : Prop} {d : Nat → Nat} {x : Int32} (h : zW R P nb nl ar d S) (g : zGeo P P' nb nl) (hd : ∀ k, d k ≤ 1) (hq : q < 2 * nl) (hk : zpl P q = 6 * b + r) (hr : r < 6) (hx : zOK P nb nl (S.F 14) (S.F 15) (fun _ => 0) x q) (ne : ¬ (x >>> ((3 : Int32) &&& 31)) &&& 63 = nI b) : zW R P nb nl ar d (fPR_hear_23 P S (nI (6 * b + r)) x (x &&& 7)) := by
  have hn := g.nb
  have hb := (zprt g hq hk hr).1
  have hl := zrg_of g hq hk hr
  obtain ⟨s, s48, es, f1, f2⟩ := hx
  have er : zpl P q % 6 = r := by omega
  rw [er] at f1 f2
  have ks : ¬ 6 * s + r = 6 * b + r := fun e => ne (by rw [es, show s = b by omega])
  rw [fPR_hear_23]
  repeat rw [zl]
  rw [nI_clamp (by omega)]
  split
  · rename_i g0
    have g0' : (S.F 15 (6 * b + r)).toInt ≤ 0 := Int32.le_iff_toInt_le.mp g0
    have blk : (x &&& 7 = 0 ∨ x &&& 7 = 1 ∨ x &&& 7 = 2) → ∀ y z, zW R P nb nl ar d (fPR_hearOfBlock P S (nI (6 * b + r)) y z) := fun c y z => by
      obtain ⟨i, w, c2⟩ := f1 c
      have le := (zway_le g w).1
      refine h.hob g hd hb hr hl g0' ⟨6 * s + r, by omega, ks, ?_⟩ y z
      rcases c2 with c2 | c2
      · exact Or.inl c2
      · have c3 : 2 * (nb : Int) + 4 + ((0 : Nat) : Int) ≤ (S.F 15 (6 * s + r)).toInt + (i : Int) + 1 := c2
        exact Or.inr (by omega)
    split
    · rename_i c
      exact blk (Or.inl c) _ _
    · split
      · rename_i c
        exact blk (Or.inr (Or.inl c)) _ _
      · split
        · rename_i c
          exact blk (Or.inr (Or.inr c)) _ _
        · split
          · exact h.fr (q_fPR_hearOfHealing P S _) (by decide)
          · split
            · rename_i c
              obtain ⟨i, w, k', e', c2⟩ := f2 c
              have le := (zway_le g w).1
              refine h.ew g hd hb hr g0' ⟨k', by omega, ?_⟩
              rcases c2 with c2 | c2
              · exact Or.inl c2
              · have c3 : (nb : Int) + 4 + ((0 : Nat) : Int) ≤ (S.F 15 k').toInt + (i : Int) + 1 := c2
                refine Or.inr ⟨fun e => ?_, h.1.1 k' (by omega)⟩
                rw [e] at c3
                omega
            · exact h
  · exact h
theorem zW.hear {R : Nat → Prop} {P P' S : ZS} {nb nl b r q : Nat} {ar : Prop} {d : Nat → Nat} {x : Int32} (h : zW R P nb nl ar d S) (g : zGeo P P' nb nl) (hd : ∀ k, d k ≤ 1) (hq : q < 2 * nl) (hk : zpl P q = 6 * b + r) (hr : r < 6) (hx : zOK P nb nl (S.F 14) (S.F 15) (fun _ => 0) x q) (ne : ¬ (x >>> ((3 : Int32) &&& 31)) &&& 63 = nI b) : zW R P nb nl ar d (fPR_hear P S (nI (6 * b + r)) x) := by
  have hb := (zprt g hq hk hr).1
  have ek : fCA_kindOf P S x = x &&& 7 := rfl
  rw [fPR_hear]
  repeat rw [zl]
  rw [ek]
  split
  · exact h.h23 g hd hq hk hr hx ne
  · have q9 := q_fPR_takeNews P S (nI (6 * b + r)) (fCA_nameOf P S x) (fCA_numberOf P S x)
    exact (h.nw g hb hr _ _).h23 g hd hq hk hr (by rw [q9.2 14 (by decide), q9.2 15 (by decide)]; exact hx) ne
/-- one hop more -/
theorem zOK.hop {P P' : ZS} {nb nl q a b r : Nat} {h gd : Nat → Int32} {x : Int32} (g : zGeo P P' nb nl) (hq : q < 2 * nl) (hk : zpl P q = 6 * b + r) (hr : r < 6) (hx : zOK P nb nl h gd (fun _ => 0) x q) (ne : ¬ (x >>> ((3 : Int32) &&& 31)) &&& 63 = nI b) (ea : zoth P nl q = some a) : zOK P nb nl h gd (fun _ => 1) x (zx a) := by
  obtain ⟨s, s48, es, f1, f2⟩ := hx
  obtain ⟨la, pa⟩ := zoth_in ea
  have er : zpl P q % 6 = r := by omega
  have er2 : zpl P (zx a) % 6 = r := by rw [zx_r g la, pa]; exact er
  rw [er] at f1 f2
  have ks : ¬ zpl P q = 6 * s + r := fun e => ne (by rw [es, show s = b by omega])
  refine ⟨s, s48, es, fun c => ?_, fun c => ?_⟩
  · rw [er2]
    obtain ⟨i, w, c2⟩ := f1 c
    refine ⟨i + 1, ⟨q, w, ks, a, ea, rfl⟩, c2.imp id (fun c2 => ?_)⟩
    have c3 : 2 * (nb : Int) + 4 + ((0 : Nat) : Int) ≤ (gd (6 * s + r)).toInt + (i : Int) + 1 := c2
    show 2 * (nb : Int) + 4 + ((1 : Nat) : Int) ≤ (gd (6 * s + r)).toInt + ((i + 1 : Nat) : Int) + 1
    omega
  · rw [er2]
    obtain ⟨i, w, k', e', c2⟩ := f2 c
    refine ⟨i + 1, ⟨q, w, ks, a, ea, rfl⟩, k', e', c2.imp id (fun c2 => ?_)⟩
    have c3 : (nb : Int) + 4 + ((0 : Nat) : Int) ≤ (gd k').toInt + (i : Int) + 1 := c2
    show (nb : Int) + 4 + ((1 : Nat) : Int) ≤ (gd k').toInt + ((i + 1 : Nat) : Int) + 1
    omega
theorem zW.arr {R : Nat → Prop} {P P' S : ZS} {nb nl q c j : Nat} (h : zW R P nb nl True (fun _ => 1) S) (g : zGeo P P' nb nl) (hq : q < 2 * nl) (ec : S.F 10 q = nI c) (hc : c ≤ 64) (hj : j < c) : zW R P nb nl True (fun _ => 1) (fPR_arrive P S (nI q) (S.F 9 (64 * q + j))) := by
  have hn := g.nb
  have hn2 := g.nl
  have hd : ∀ k : Nat, (fun _ => 1 : Nat → Nat) k ≤ 1 := fun _ => Nat.le_refl _
  have z6 : (6 : Int32) = nI 6 := by decide
  obtain ⟨b, r, hr, hk⟩ : ∃ b r, r < 6 ∧ zpl P q = 6 * b + r := ⟨zpl P q / 6, zpl P q % 6, by omega, by omega⟩
  obtain ⟨hb, -, e5, -⟩ := zprt g hq hk hr
  -- what the cast says holds in every state of this tick
  have ok : ∀ T : ZS, zW R P nb nl True (fun _ => 1) T → T.F 9 = S.F 9 → T.F 10 = S.F 10 → zOK P nb nl (T.F 14) (T.F 15) (fun _ => 0) (S.F 9 (64 * q + j)) q := fun T wT e9 e10 => by
    obtain ⟨c2, c64, ec2, hc2⟩ := wT.2.2 trivial q hq
    rw [e10, ec] at ec2
    have : c = c2 := (nI_eq (by omega) (by omega)).mp ec2
    subst this
    rw [← e9]
    exact hc2 j hj
  generalize hx : S.F 9 (64 * q + j) = x at ok ⊢
  rw [fPR_arrive]
  repeat (first | rw [zl] | rw [zl2])
  split
  · have qL := q_fWI_losesOne P S (nI q / 2)
    have w6 : zW R P nb nl True (fun _ => 1) (fWI_losesOne P S (nI q / 2)).1 := h.cg (fun j hj => qL.2 j ((show ∀ j ∈ [9, 10, 11, 12, 14, 15], min j 28 ∉ [13] by decide) j hj))
    have e9 : (fWI_losesOne P S (nI q / 2)).1.F 9 = S.F 9 := qL.2 9 (by decide)
    have e10 : (fWI_losesOne P S (nI q / 2)).1.F 10 = S.F 10 := qL.2 10 (by decide)
    generalize (fWI_losesOne P S (nI q / 2)).1 = X at w6 e9 e10 ⊢
    split
    · have es : fCA_sourceOf P X x = (x >>> ((3 : Int32) &&& 31)) &&& 63 := rfl
      rw [nI_clamp (by omega), e5, es, z6, nI_div (by omega) (by omega), show (6 * b + r) / 6 = b by omega]
      split
      · exact w6
      · rename_i ne
        have w7 := w6.hear g hd hq hk hr (ok X w6 e9 e10) ne
        have q7 := q_fPR_hear P X (nI (6 * b + r)) x
        have ok7 := ok _ w7 ((q7.2 9 (by decide)).trans e9) ((q7.2 10 (by decide)).trans e10)
        generalize fPR_hear P X (nI (6 * b + r)) x = Y at w7 ok7 ⊢
        rw [zn_oth g hq hk hr, zpO_eq P x (fun a2 e => by have := (zoth_in e).1; omega) Y]
        exact w7.pO g (fun a e => ⟨(zoth_in e).1, ok7.hop g hq hk hr ne e⟩)
    · exact w6
  · exact h
theorem zW.arrs {R : Nat → Prop} {P P' : ZS} {nb nl : Nat} (g : zGeo P P' nb nl) : ∀ (N x : Nat) (S : ZS), x ≤ 2 * nl → 2 * nl - x < N → zW R P nb nl True (fun _ => 1) S → zW R P nb nl True (fun _ => 1) (zfix (fun S9 _ => S9) (fPR_arriveAll_9 P) N S (nI x)) := by
  have hn2 := g.nl
  have z2 : (2 : Int32) = nI 2 := by decide
  have z0 : (0 : Int32) = nI 0 := by decide
  have z64 : (64 : Int32) = nI 64 := by decide
  intro N
  induction N with
  | zero => intro x S h1 h2; omega
  | succ N ih =>
    intro x S h1 h2 h
    rw [zfix_s]
    generalize zfix (fun S9 _ => S9) (fPR_arriveAll_9 P) N = rc at ih ⊢
    unfold fPR_arriveAll_9 fWI_countArriving
    simp only [zl]
    rw [g.1.2.2.1, z2, nI_mul]
    by_cases d : x = 2 * nl
    · rw [if_pos (nI_le (by omega) (by omega))]
      exact h
    · rw [if_neg (nI_ge (by omega) (by omega)), nI_clamp (by omega)]
      obtain ⟨cc, hcc, e10, -⟩ := h.2.2 trivial x (by omega)
      rw [e10]
      have inner : ∀ (M i : Nat) (S : ZS), i ≤ cc → cc - i < M → S.F 10 x = nI cc → zW R P nb nl True (fun _ => 1) S → zW R P nb nl True (fun _ => 1) (zfix (fun S9 _ _ _ => S9) (fPR_arriveAll_33 P rc) M S (nI x) (nI cc) (nI i)) := by
        intro M
        induction M with
        | zero => intro i S g1 g2; omega
        | succ M ih2 =>
          intro i S g1 g2 e hS
          rw [zfix_s]
          generalize zfix (fun S9 _ _ _ => S9) (fPR_arriveAll_33 P rc) M = rd at ih2 ⊢
          unfold fPR_arriveAll_33 fWI_arrivingCast
          simp only [zl]
          by_cases d2 : i = cc
          · rw [if_pos (nI_le (by omega) (by omega)), nI_1]
            exact ih (x + 1) S (by omega) (by omega) hS
          · rw [if_neg (nI_ge (by omega) (by omega)), z64, nI_mul, nI_add, nI_1, nI_clamp (by omega), show x * 64 + i = 64 * x + i by omega]
            have q1 := q_fPR_arrive P S (nI x) (S.F 9 (64 * x + i))
            exact ih2 (i + 1) _ (by omega) (by omega) (by rw [q1.2 10 (by decide)]; exact e) (hS.arr g (by omega) e hcc (by omega))
      rw [z0]
      exact inner 65 0 S (Nat.zero_le _) (by omega) e10 h
/-- all casts arrive -/
theorem zW.arA {R : Nat → Prop} {P P' S : ZS} {nb nl : Nat} (g : zGeo P P' nb nl) (h : zW R P nb nl False (fun _ => 0) S) : zW R P nb nl True (fun _ => 1) (fPR_arriveAll P S) := by
  have hn2 := g.nl
  have z0 : (0 : Int32) = nI 0 := by decide
  have q := q_zturnf P S
  have f12 : (zturnf P S).F 12 = fun _ => 0 := rfl
  have f9 : (zturnf P S).F 9 = S.F 11 := rfl
  have f10 : (zturnf P S).F 10 = S.F 12 := rfl
  have f14 : (zturnf P S).F 14 = S.F 14 := q.2 14 (by decide)
  have f15 : (zturnf P S).F 15 = S.F 15 := q.2 15 (by decide)
  unfold fPR_arriveAll
  simp only [zl]
  rw [z0]
  refine zW.arrs g 121 0 _ (Nat.zero_le _) (by omega) ⟨by rw [f14, f15]; exact h.1, fun L => ⟨0, by omega, by rw [f12]; exact z0, fun _ k hk => absurd hk (Nat.not_lt_zero _)⟩, fun _ L hL => ?_⟩
  obtain ⟨c, hc, ec, h9⟩ := h.2.1 L
  refine ⟨c, hc, by rw [f10]; exact ec, fun k hk => ?_⟩
  rw [f14, f15, f9]
  exact h9 hL k hk

/-! turns, calls and the start, for the same -/
theorem zHd.sub {P : ZS} {nl k : Nat} {h : Nat → Int32} {m m' : Int32} (a : zHd P nl h m k) (hm : m' &&& m = m) : zHd P nl h m' k := a.mo (fun q _ _ n w => n (by
  have t := zsubm (x := h q) (y := 0) (M := m') (N := m) (by rw [w]; exact (zand0 _).symm) hm
  rw [t]
  exact zand0 _))
theorem zall_h {P P' S : ZS} {nb nl b r : Nat} {m : Int32} (g : zGeo P P' nb nl) (hb : b < nb) (hr : r < 6) (c : ¬ fPR_allHolds P S (nI (6 * b + r)) &&& m = 0) : zHd P nl (S.F 14) m (6 * b + r) := by
  rw [zall_O g hb hr] at c
  by_cases c1 : zhO (S.F 14) (zA P nl (6 * b + r)) &&& m = 0
  · have c2 : ¬ zhO (S.F 14) (zB P nl (6 * b + r)) &&& m = 0 := fun w => c ⟨c1, w⟩
    cases e : zB P nl (6 * b + r) with
    | none => rw [e] at c2; exact absurd (zand0 m) c2
    | some a => rw [e] at c2; exact ⟨a, (zB_in e).1, (zB_in e).2.1, c2⟩
  · cases e : zA P nl (6 * b + r) with
    | none => rw [e] at c1; exact absurd (zand0 m) c1
    | some a => rw [e] at c1; exact ⟨a, (zA_in e).1, (zA_in e).2, c1⟩
theorem zW.th {R : Nat → Prop} {P P' S : ZS} {nb nl b r p : Nat} {ar : Prop} {d : Nat → Nat} (h : zW R P nb nl ar d S) (g : zGeo P P' nb nl) (hd : ∀ k, d k ≤ 1) (hr : r < 6) (hp : p < 2 * nl) (e6 : P.F 6 r = nI p) (epl : zpl P p = 6 * b + r) : zW R P nb nl ar d (fPR_takeHold P S (nI r)) ∧ zHd P nl ((fPR_takeHold P S (nI r)).F 14) 16 (6 * b + r) ∧ (fPR_takeHold P S (nI r)).F 15 = S.F 15 := by
  have hb := (zprt g hp epl hr).1
  have q9 := q_fPR_takeNews P ((zhs (6 * b + r) p (S.F 14 p ||| 16) S).setF 18 r (S.F 18 r + 1)) (nI (6 * b + r)) (nI (108 + r)) (S.F 18 r + 1)
  have e14 : ((zhs (6 * b + r) p (S.F 14 p ||| 16) S).setF 18 r (S.F 18 r + 1)).F 14 = upd (S.F 14) p (S.F 14 p ||| 16) := by rw [zFsn _ (by decide), zhs_F]
  have e15 : ((zhs (6 * b + r) p (S.F 14 p ||| 16) S).setF 18 r (S.F 18 r + 1)).F 15 = S.F 15 := by rw [zFsn _ (by decide), zhs_n (by decide) (by decide)]
  rw [zn_th g hr hp e6 epl]
  refine ⟨?_, ?_, ?_⟩
  · refine zW.nw (h.st g.nb hd (fun j hj => ?_) ?_) g hb hr _ _
    · have jn : j ≠ 18 ∧ j ≠ 14 ∧ j ≠ 16 := (show ∀ j ∈ [9, 10, 11, 12], j ≠ 18 ∧ j ≠ 14 ∧ j ≠ 16 by decide) j hj
      rw [zFsn _ jn.1, zhs_n jn.2.1 jn.2.2]
    · rw [e14, e15]
      refine zE5 h.1 (fun q m n => ?_)
      by_cases c : q = p
      · rw [c, upd_at]
        rw [c] at n
        exact fun w => n ((zorm0 _ _ _).mp w).1
      · rw [upd_ne _ _ c]; exact n
  · rw [q9.2 14 (by decide), e14]
    refine ⟨p, hp, epl, ?_⟩
    rw [upd_at]
    exact fun w => absurd ((zorm0 _ _ _).mp w).2 (by decide)
  · rw [q9.2 15 (by decide), e15]
/-- guards are counted down at one place -/
theorem zW.dc {R : Nat → Prop} {P S T : ZS} {nb nl : Nat} {d d' : Nat → Nat} (h : zW R P nb nl False d S) (e : ∀ j ∈ [11, 12, 14], T.F j = S.F j) (hg : ∀ k, (S.F 15 k).toInt - (d k : Int) ≤ (T.F 15 k).toInt - (d' k : Int)) (hl : ∀ k, (T.F 15 k).toInt ≤ 0 ∨ ¬ (S.F 15 k).toInt ≤ 0) : zW R P nb nl False d' T := by
  obtain ⟨j, l, -⟩ := h
  have e11 := e 11 (by decide)
  have e12 := e 12 (by decide)
  have e14 := e 14 (by decide)
  refine ⟨⟨fun k hk => ?_, fun l hl hR => by rw [e14]; exact j.2 l hl hR⟩, fun q => ?_, fun w => w.elim⟩
  · rw [e14]
    rcases hl k with c | c
    · exact absurd c hk
    · exact j.1 k c
  · obtain ⟨c, c64, ec, hc⟩ := l q
    refine ⟨c, c64, by rw [e12]; exact ec, fun hq k hk => ?_⟩
    rw [e11, e14]
    obtain ⟨s, s48, es, f1, f2⟩ := hc hq k hk
    refine ⟨s, s48, es, fun w => ?_, fun w => ?_⟩
    · obtain ⟨i, w1, w2⟩ := f1 w
      refine ⟨i, w1, w2.imp id (fun w2 => ?_)⟩
      have := hg (6 * s + zpl P q % 6)
      omega
    · obtain ⟨i, w1, k', ek, w2⟩ := f2 w
      refine ⟨i, w1, k', ek, w2.imp id (fun w2 => ?_)⟩
      have := hg k'
      omega
abbrev zD (k : Nat) : Nat → Nat := fun j => if j < k then 0 else 1
theorem zD1 (k : Nat) : ∀ j, zD k j ≤ 1 := fun j => by
  show (if j < k then 0 else 1) ≤ 1
  split <;> omega
theorem zD_s (k j : Nat) : (j = k ∧ zD k j = 1 ∧ zD (k + 1) j = 0) ∨ (¬ j = k ∧ zD (k + 1) j = zD k j) := by
  show (j = k ∧ (if j < k then 0 else 1) = 1 ∧ (if j < k + 1 then 0 else 1) = 0) ∨ (¬ j = k ∧ (if j < k + 1 then 0 else 1) = (if j < k then 0 else 1))
  by_cases c : j = k
  · exact Or.inl ⟨c, if_neg (by omega), if_pos (by omega)⟩
  · refine Or.inr ⟨c, ?_⟩
    by_cases c2 : j < k
    · rw [if_pos c2, if_pos (by omega)]
    · rw [if_neg c2, if_neg (by omega)]
theorem zW.g1 {R : Nat → Prop} {P S : ZS} {nb nl k : Nat} (h : zW R P nb nl False (zD k) S) : zW R P nb nl False (zD (k + 1)) (zg1 S k) := by
  unfold zg1
  split
  · refine h.dc (fun _ _ => rfl) (fun j => ?_) (fun j => ?_)
    · rcases zD_s k j with ⟨-, a, b⟩ | ⟨-, a⟩
      · rw [a, b]; omega
      · rw [a]; omega
    · exact Decidable.em _
  · rename_i c
    have c' : ¬ (S.F 15 k).toInt ≤ 0 := fun w => c (Int32.le_iff_toInt_le.mpr w)
    have z1 : (1 : Int32).toInt = 1 := by decide
    have hlt := Int32.toInt_lt (S.F 15 k)
    have em : (S.F 15 k - 1).toInt = (S.F 15 k).toInt - 1 := by rw [Int32.toInt_sub, z1, zbm ⟨by omega, by omega⟩]
    refine h.dc (fun j hj => zFsn _ ((show ∀ j ∈ [11, 12, 14], j ≠ 15 by decide) j hj)) (fun j => ?_) (fun j => ?_)
    · rw [zFsk]
      rcases zD_s k j with ⟨e, a, b⟩ | ⟨e, a⟩
      · rw [e, upd_at, em]
        rw [e] at a b
        rw [a, b]
        omega
      · rw [upd_ne _ _ e, a]
        omega
    · rw [zFsk]
      by_cases e : j = k
      · rw [e]; exact Or.inr c'
      · rw [upd_ne _ _ e]
        exact Decidable.em _
theorem zW.g2 {R : Nat → Prop} {P P' S : ZS} {nb nl b r a0 : Nat} {ar : Prop} {d : Nat → Nat} (h : zW R P nb nl ar d S) (g : zGeo P P' nb nl) (hd : ∀ k, d k ≤ 1) (hb : b < nb) (hr : r < 6) (hA : zA P nl (6 * b + r) = some a0) : zW R P nb nl ar d (zg2 P S (6 * b + r)) := by
  have hn := g.nb
  have z6 : (6 : Int32) = nI 6 := by decide
  have a1 := zA_in hA
  obtain ⟨p, b2, hp, hb2, e6, epl, -⟩ := g.2.2.2.2.2.2.2.1 r hr (zrg_of g a1.1 a1.2 hr)
  have c17 : ∀ v : Int32, zW R P nb nl ar d (S.setF 17 r v) := fun v => h.cg (fun j hj => zFsn _ ((show ∀ j ∈ [9, 10, 11, 12, 14, 15], j ≠ 17 by decide) j hj))
  have em : nI (6 * b + r) - nI (6 * b + r) / 6 * 6 = nI r := by rw [z6, nI_rem (by omega) (by omega), show (6 * b + r) % 6 = r by omega]
  unfold zg2
  split
  · exact h
  · rw [fPR_runClock]
    repeat rw [zl]
    rw [em, nI_clamp (by omega)]
    split
    · split
      · split
        · rw [fPR_runClock_46]
          repeat rw [zl]
          rw [nI_clamp (by omega)]
          exact c17 _
        · rw [fPR_runClock_46]
          repeat rw [zl]
          rw [nI_clamp (by omega)]
          exact c17 _
      · split
        · exact ((c17 _).th g hd hr hp e6 epl).1
        · exact c17 _
    · exact h
theorem zW.g3 {R : Nat → Prop} {P P' S : ZS} {nb nl b r : Nat} {ar : Prop} {d : Nat → Nat} (h : zW R P nb nl ar d S) (g : zGeo P P' nb nl) (hd : ∀ k, d k ≤ 1) (hb : b < nb) (hr : r < 6) : zW R P nb nl ar d (zg3 P S (6 * b + r)) := by
  unfold zg3
  split
  · rename_i c
    split
    · exact h
    · rename_i c2
      refine h.ew g hd hb hr (by rw [c]; decide) ⟨6 * b + r, by omega, Or.inl (zall_h g hb hr c2)⟩
  · exact h
theorem zOK_say {P P' S : ZS} {nb nl a b r q : Nat} {h gd : Nat → Int32} {d : Nat → Nat} {n m : Int32} (g : zGeo P P' nb nl) (ha : a ≤ 5) (hq : q < 2 * nl) (hk : zpl P q = 6 * b + r) (hr : r < 6) (c1 : a ≤ 2 → zHd P nl h 7 (6 * b + r)) (c2 : a = 4 → zHd P nl h 23 (6 * b + r)) : zOK P nb nl h gd d (fCA_of P S (nI a) (nI b) n m) (zx q) := by
  have hn := g.nb
  have hb := (zprt g hq hk hr).1
  obtain ⟨k1, k2⟩ := zca (a := a) (b := b) ha (by omega) P S n m
  have er : zpl P (zx q) % 6 = r := by rw [zx_r g hq, hk]; omega
  have a31 : a < 2 ^ 31 := by omega
  refine ⟨b, by omega, k2, fun w => ?_, fun w => ?_⟩
  · rw [er]
    rw [k1] at w
    refine ⟨0, ⟨q, hq, hk, rfl⟩, Or.inl (c1 ?_)⟩
    rcases w with w | w | w
    · have := (nI_eq (b := 0) a31 (by omega)).mp w
      omega
    · have := (nI_eq (b := 1) a31 (by omega)).mp w
      omega
    · have := (nI_eq (b := 2) a31 (by omega)).mp w
      omega
  · rw [er]
    rw [k1] at w
    have := (nI_eq (b := 4) a31 (by omega)).mp w
    exact ⟨0, ⟨q, hq, hk, rfl⟩, 6 * b + r, rfl, Or.inl (c2 this)⟩
theorem zW.spk {R : Nat → Prop} {P P' S : ZS} {nb nl b r : Nat} {ar : Prop} {d : Nat → Nat} (h : zW R P nb nl ar d S) (g : zGeo P P' nb nl) (hb : b < nb) (hr : r < 6) : zW R P nb nl ar d (fPR_speak P S (nI (6 * b + r))) := by
  have hn := g.nb
  have pf : ∀ (a : Nat) (n m : Int32), a ≤ 5 → (a ≤ 2 → zHd P nl (S.F 14) 7 (6 * b + r)) → (a = 4 → zHd P nl (S.F 14) 23 (6 * b + r)) → zW R P nb nl ar d (fPR_putFromPorts P S (nI (6 * b + r)) (fCA_of P S (nI a) (nI b) n m)) := fun a n m ha c1 c2 => h.pf g (by omega) (fun q hq hk => zOK_say g ha hq hk hr c1 c2)
  rw [fPR_speak]
  repeat rw [zl]
  rw [zcst P S (by omega) hr]
  unfold zcC
  have al : ∀ m : Int32, ¬ fPR_allHolds P S (nI (6 * b + r)) &&& m = 0 → zHd P nl (S.F 14) m (6 * b + r) := fun m c => zall_h g hb hr c
  have sel : ∀ x : Int32, zW R P nb nl ar d (fPR_putFromPorts P S (nI (6 * b + r)) x) → zW R P nb nl ar d (if x = -1 then S else fPR_putFromPorts P S (nI (6 * b + r)) x) := fun x w => by
    split
    · exact h
    · exact w
  by_cases c2 : fPR_allHolds P S (nI (6 * b + r)) &&& 2 = 0
  · rw [if_pos c2]
    by_cases c1 : fPR_allHolds P S (nI (6 * b + r)) &&& 1 = 0
    · rw [if_pos c1]
      by_cases c4 : fPR_allHolds P S (nI (6 * b + r)) &&& 4 = 0
      · rw [if_pos c4]
        by_cases c8 : fPR_allHolds P S (nI (6 * b + r)) &&& 8 = 0
        · rw [if_pos c8]
          by_cases c16 : fPR_allHolds P S (nI (6 * b + r)) &&& 16 = 0
          · rw [if_pos c16, if_pos rfl]
            exact h
          · rw [if_neg c16]
            exact sel _ (pf 4 _ _ (by omega) (fun w => absurd w (by decide)) (fun _ => (al 16 c16).sub (by decide)))
        · rw [if_neg c8]
          exact sel _ (pf 3 _ _ (by omega) (fun w => absurd w (by decide)) (fun w => absurd w (by decide)))
      · rw [if_neg c4]
        exact sel _ (pf 2 _ _ (by omega) (fun _ => (al 4 c4).sub (by decide)) (fun w => absurd w (by decide)))
    · rw [if_neg c1]
      exact sel _ (pf 0 _ _ (by omega) (fun _ => (al 1 c1).sub (by decide)) (fun w => absurd w (by decide)))
  · rw [if_neg c2]
    exact sel _ (pf 1 _ _ (by omega) (fun _ => (al 2 c2).sub (by decide)) (fun w => absurd w (by decide)))
theorem zW.g4 {R : Nat → Prop} {P P' S : ZS} {nb nl b r : Nat} {ar : Prop} {d : Nat → Nat} (h : zW R P nb nl ar d S) (g : zGeo P P' nb nl) (hb : b < nb) (hr : r < 6) : zW R P nb nl ar d (zg4 P S (6 * b + r)) := by
  have w : zW R P nb nl ar d (S.setF 16 (6 * b + r) (S.F 16 (6 * b + r) + 1)) := h.cg (fun j hj => zFsn _ ((show ∀ j ∈ [9, 10, 11, 12, 14, 15], j ≠ 16 by decide) j hj))
  unfold zg4
  split
  · exact w
  · exact w.spk g hb hr
theorem zW.trs {R : Nat → Prop} {P P' : ZS} {nb nl : Nat} (g : zGeo P P' nb nl) : ∀ (M k : Nat) (S : ZS), k ≤ 6 * nb → 6 * nb - k < M → zW R P nb nl False (zD k) S → zW R P nb nl False (fun _ => 0) (zfix (fun S9 _ => S9) (fPR_turnAll_2 P) M S (nI k)) := by
  have hn := g.nb
  have z6 : (6 : Int32) = nI 6 := by decide
  intro M
  induction M with
  | zero => intro k S h1 h2; omega
  | succ M ih =>
    intro k S h1 h2 h
    rw [zfix_s]
    generalize zfix (fun S9 _ => S9) (fPR_turnAll_2 P) M = rc at ih ⊢
    by_cases d : k = 6 * nb
    · have e : fPR_turnAll_2 P rc S (nI k) = S := by
        rw [fPR_turnAll_2]
        repeat rw [zl]
        rw [g.1.1, z6, nI_mul, if_pos (nI_le (by omega) (by omega))]
      rw [e]
      refine ⟨h.1, fun q => ?_, fun w => w.elim⟩
      obtain ⟨c, c64, ec, hc⟩ := h.2.1 q
      refine ⟨c, c64, ec, fun hq j hj => ?_⟩
      obtain ⟨s, s48, es, f1, f2⟩ := hc hq j hj
      refine ⟨s, s48, es, fun w => ?_, fun w => ?_⟩
      · obtain ⟨i, w1, w2⟩ := f1 w
        refine ⟨i, w1, w2.imp id (fun w2 => ?_)⟩
        show 2 * (nb : Int) + 4 + ((0 : Nat) : Int) ≤ _
        omega
      · obtain ⟨i, w1, k', ek, w2⟩ := f2 w
        refine ⟨i, w1, k', ek, w2.imp id (fun w2 => ?_)⟩
        show (nb : Int) + 4 + ((0 : Nat) : Int) ≤ _
        omega
    · rw [zta P rc S g.1.1 hn (by omega)]
      obtain ⟨b, r, hr, hk⟩ : ∃ b r, r < 6 ∧ k = 6 * b + r := ⟨k / 6, k % 6, by omega, by omega⟩
      subst hk
      have hb : b < nb := by omega
      obtain ⟨p1, -⟩ := g.2.2.2.2.1 (6 * b + r) (by omega)
      refine ih (6 * b + r + 1) _ (by omega) (by omega) ?_
      rw [p1]
      cases hA : zA P nl (6 * b + r) with
      | none =>
        rw [show zO none = -1 from rfl, if_pos rfl]
        refine h.dc (fun _ _ => rfl) (fun j => ?_) (fun j => Decidable.em _)
        rcases zD_s (6 * b + r) j with ⟨-, a, b⟩ | ⟨-, a⟩
        · rw [a, b]; omega
        · rw [a]; omega
      | some a0 =>
        have hn2 := g.nl
        have la := (zA_in hA).1
        rw [if_neg (zO_ne (by omega))]
        exact ((h.g1.g2 g (zD1 _) hb hr hA).g3 g (zD1 _) hb hr).g4 g hb hr
/-- one tick -/
theorem zW.tick {R : Nat → Prop} {P P' S : ZS} {nb nl : Nat} (g : zGeo P P' nb nl) (h : zW R P nb nl False (fun _ => 0) S) : zW R P nb nl False (fun _ => 0) (fPR_turnAll P (fPR_arriveAll P S)) := by
  have hn := g.nb
  have z0 : (0 : Int32) = nI 0 := by decide
  have w := zW.arA g h
  unfold fPR_turnAll
  rw [z0]
  refine zW.trs g 289 0 _ (Nat.zero_le _) (by omega) ⟨w.1, fun q => ?_, fun w => w.elim⟩
  obtain ⟨c, c64, ec, hc⟩ := w.2.1 q
  exact ⟨c, c64, ec, hc⟩
abbrev zd0 : Nat → Nat := fun _ => 0
theorem zd01 : ∀ k, zd0 k ≤ 1 := fun _ => Nat.zero_le _
theorem zW.b1 {R : Nat → Prop} {P P' S : ZS} {nb nl b r q : Nat} (h : zW R P nb nl False zd0 S) (g : zGeo P P' nb nl) (hq : q < 2 * nl) (hk : zpl P q = 6 * b + r) (hr : r < 6) (y z : Int32) : zW R P nb nl False zd0 (fPR_takeNews P (fPR_beginHold P (fPR_setHolds P S (nI q) (S.F 14 q &&& (-9))) (nI q) 1) (nI (6 * b + r)) y z) := by
  have hn2 := g.nl
  have hb := (zprt g hq hk hr).1
  have qY := q_fPR_setHolds P S (nI q) (S.F 14 q &&& (-9))
  refine zW.nw (h.bh g zd01 hq hk hr (Or.inl rfl) (fun j hj => qY.2 j ((show ∀ j ∈ [9, 10, 11, 12, 15], min j 28 ∉ [14, 16] by decide) j hj)) (fun q' ne => ?_)) g hb hr y z
  rw [zsh9, nI_clamp (by omega), upd_ne _ _ ne]
theorem zW.brk {R : Nat → Prop} {P P' S : ZS} {nb nl l : Nat} (h : zW R P nb nl False zd0 S) (g : zGeo P P' nb nl) (hl : l < nl) : zW R P nb nl False zd0 (fPR_breakLink P S (nI l)) := by
  have hn2 := g.nl
  have z2 : (2 : Int32) = nI 2 := by decide
  have st : ∀ (rc : ZS → Int32 → Int32 → ZS) (X : ZS) (q : Nat), q = 2 * l ∨ q = 2 * l + 1 → zW R P nb nl False zd0 X → ∃ Y, zW R P nb nl False zd0 Y ∧ fPR_breakLink_14 P rc X (nI l) (nI q) = rc Y (nI l) (nI (q + 1)) := fun rc X q hq hX => by
    have q2 : q < 2 * nl := by omega
    obtain ⟨b, r, hr, hk⟩ : ∃ b r, r < 6 ∧ zpl P q = 6 * b + r := ⟨zpl P q / 6, zpl P q % 6, by omega, by omega⟩
    obtain ⟨hb, -, e5, -⟩ := zprt g q2 hk hr
    refine ⟨_, hX.b1 g q2 hk hr (nI l) ((fPR_beginHold P (fPR_setHolds P X (nI q) (X.F 14 q &&& (-9))) (nI q) 1).F 19 l), ?_⟩
    rw [fPR_breakLink_14]
    repeat rw [zl]
    rw [z2, nI_mul, nI_1, if_neg (nI_nlt (by omega) (by omega)), nI_clamp (by omega), nI_clamp (by omega), e5, nI_1]
  have h0 : zW R P nb nl False zd0 (S.setF 19 l (S.F 19 l + 1)) := h.cg (fun j hj => zFsn _ ((show ∀ j ∈ [9, 10, 11, 12, 14, 15], j ≠ 19 by decide) j hj))
  rw [fPR_breakLink]
  repeat rw [zl]
  rw [nI_clamp (by omega), z2, nI_mul, show (121 : Nat) = 118 + 1 + 1 + 1 from rfl, zfix_s]
  obtain ⟨Y, hY, eY⟩ := st (zfix (fun S9 _ _ => S9) (fPR_breakLink_14 P) (118 + 1 + 1)) _ (2 * l) (Or.inl rfl) h0
  rw [eY, zfix_s]
  obtain ⟨Z, hZ, eZ⟩ := st (zfix (fun S9 _ _ => S9) (fPR_breakLink_14 P) (118 + 1)) Y (2 * l + 1) (Or.inr rfl) hY
  rw [eZ, zfix_s]
  have e : ∀ rc, fPR_breakLink_14 P rc Z (nI l) (nI (2 * l + 1 + 1)) = Z := fun rc => by
    rw [fPR_breakLink_14]
    repeat rw [zl]
    rw [z2, nI_mul, nI_1, if_pos (nI_lt (by omega) (by omega))]
  rw [e]
  exact hZ
theorem zW.mnd {R : Nat → Prop} {P P' S : ZS} {nb nl l : Nat} (h : zW R P nb nl False zd0 S) (g : zGeo P P' nb nl) (hl : l < nl) : zW R P nb nl False zd0 (fPR_mendLink P S (nI l)) := by
  have hn2 := g.nl
  have z2 : (2 : Int32) = nI 2 := by decide
  have st : ∀ (X : ZS) (q : Nat), q < 2 * nl → zW R P nb nl False zd0 X → zW R P nb nl False zd0 (fPR_endHold P X (nI q) 1) := fun X q hq hX => by
    obtain ⟨b, r, hr, hk⟩ : ∃ b r, r < 6 ∧ zpl P q = 6 * b + r := ⟨zpl P q / 6, zpl P q % 6, by omega, by omega⟩
    exact hX.eh g zd01 hq hk hr (by rw [Int32.and_assoc, show ((1 : Int32) ^^^ (-1)) &&& 16 = 16 by decide])
  rw [fPR_mendLink]
  repeat rw [zl]
  rw [z2, nI_mul, nI_1]
  exact st _ _ (by omega) (st _ _ (by omega) h)
theorem zW.giv {R : Nat → Prop} {P P' S : ZS} {nb nl q : Nat} {kd : Int32} (h : zW R P nb nl False zd0 S) (g : zGeo P P' nb nl) (hq : q < 2 * nl) (hkd : kd = 2 ∨ kd = 4) : zW R P nb nl False zd0 (fPR_giveCommand P S (nI q) kd).1 := by
  have hn := g.nb
  have hn2 := g.nl
  have z6 : (6 : Int32) = nI 6 := by decide
  obtain ⟨b, r, hr, hk⟩ : ∃ b r, r < 6 ∧ zpl P q = 6 * b + r := ⟨zpl P q / 6, zpl P q % 6, by omega, by omega⟩
  obtain ⟨hb, -, e5, -⟩ := zprt g hq hk hr
  rw [fPR_giveCommand]
  repeat (first | rw [zl] | rw [zl2])
  rw [nI_clamp (by omega)]
  split
  · rw [e5]
    have w1 := h.ec g zd01 hb hr
    generalize (fPR_endCommand P S (nI (6 * b + r))).1 = X at w1 ⊢
    have w2 := w1.bh (X := X) g zd01 hq hk hr (s := kd) (by rcases hkd with e | e <;> simp [e]) (fun _ _ => rfl) (fun _ _ => rfl)
    generalize fPR_beginHold P X (nI q) kd = Y at w2 ⊢
    exact zW.nw (w2.cg (fun j hj => zFsn _ ((show ∀ j ∈ [9, 10, 11, 12, 14, 15], j ≠ 20 by decide) j hj))) g hb hr _ _
  · exact h
/-- the start: every owner takes its hold -/
theorem zW.all {P P' : ZS} {nb nl : Nat} (g : zGeo P P' nb nl) : ∀ (N i : Nat) (S : ZS), i ≤ 6 → 6 - i < N → zW (fun r => r < i) P nb nl False zd0 S → zW (fun _ => True) P nb nl False zd0 (zfix (fun S9 _ => S9) (fPR_takeAllHolds_2 P) N S (nI i)) := by
  have z6 : (6 : Int32) = nI 6 := by decide
  have hR := g.1.2.2.2.2.1
  intro N
  induction N with
  | zero => intro i S h1 h2; omega
  | succ N ih =>
    intro i S h1 h2 h
    rw [zfix_s]
    generalize zfix (fun S9 _ => S9) (fPR_takeAllHolds_2 P) N = rc at ih ⊢
    rw [fPR_takeAllHolds_2]
    repeat rw [zl]
    repeat rw [fPR_takeAllHolds_26]
    repeat rw [zl]
    by_cases d : i = 6
    · rw [z6, if_pos (nI_le (by omega) (by omega))]
      refine ⟨⟨h.1.1, fun l hl _ => h.1.2 l hl ?_⟩, h.2⟩
      have f2 := (hR l).2
      show (P.F 2 l).toInt.toNat < i
      omega
    · rw [z6, if_neg (nI_ge (by omega) (by omega)), nI_clamp (by omega), nI_1]
      by_cases c : ∃ l, l < nl ∧ zrg P l = i
      · obtain ⟨p, b, hp, hb, e6, epl, -⟩ := g.2.2.2.2.2.2.2.1 i (by omega) c
        obtain ⟨w1, w2, w3⟩ := h.th g zd01 (by omega) hp e6 epl
        rw [e6, if_neg (nI_ne (by have := g.nl; omega))]
        refine ih (i + 1) _ (by omega) (by omega) ⟨⟨w1.1.1, fun l hl hr => ?_⟩, w1.2⟩
        by_cases e : zrg P l = i
        · exact ⟨6 * b + i, by omega, zHd_31 (Or.inr (zHd_16 w2))⟩
        · exact w1.1.2 l hl (by omega)
      · rw [g.2.2.2.2.2.2.2.2 i (by omega) c, if_pos rfl]
        refine ih (i + 1) _ (by omega) (by omega) ⟨⟨h.1.1, fun l hl hr => h.1.2 l hl ?_⟩, h.2⟩
        have : ¬ zrg P l = i := fun e => c ⟨l, hl, e⟩
        omega
theorem zW.start {P P' S : ZS} {nb nl : Nat} (g : zGeo P P' nb nl) (h12 : ∀ q, S.F 12 q = 0) (h15 : ∀ k, S.F 15 k = 0) : zW (fun _ => True) P nb nl False zd0 (fPR_takeAllHolds P S) := by
  have z0 : (0 : Int32) = nI 0 := by decide
  unfold fPR_takeAllHolds
  rw [z0]
  refine zW.all g 7 0 S (by omega) (by omega) ⟨⟨fun k hk => ?_, fun l hl hr => absurd hr (Nat.not_lt_zero _)⟩, fun q => ⟨0, by omega, by rw [h12]; exact z0, fun _ j hj => absurd hj (Nat.not_lt_zero _)⟩, fun w => w.elim⟩
  rw [h15] at hk
  exact absurd (by decide : (0 : Int32).toInt ≤ 0) hk

/-! what an accepted start says of a ring's shape -/
abbrev zAA (P : ZS) : Nat → Nat := fun l => (P.F 0 l).toNatClampNeg
abbrev zBB (P : ZS) : Nat → Nat := fun l => (P.F 1 l).toNatClampNeg
theorem zinc_iff {P : ZS} {nb nl l b : Nat} (hp : zPn P nb nl) (hl : l < nl) (hb : b < 1000) : zinc (zAA P) (zBB P) l b ↔ (P.F 0 l = nI b ∨ P.F 1 l = nI b) := by
  obtain ⟨a1, a2, -, a4, a5⟩ := hp.2.2.2.2.2 l hl
  have hb48 := hp.2.1
  have eA : P.F 0 l = nI (zAA P l) := znI a4
  have eB : P.F 1 l = nI (zBB P l) := znI a5
  have l1 : zAA P l < nb := a1
  have l2 : zBB P l < nb := a2
  constructor
  · rintro (e | e)
    · left; rw [eA, e]
    · right; rw [eB, e]
  · rintro (e | e)
    · left; rw [eA] at e; exact (nI_eq (by omega) (by omega)).mp e
    · right; rw [eB] at e; exact (nI_eq (by omega) (by omega)).mp e
theorem zrg_iff {P : ZS} {nb nl l r : Nat} (hp : zPn P nb nl) (hr : r < 1000) : zrg P l = r ↔ P.F 2 l = nI r := by
  have fr : zr 0 5 (P.F 2 l) := hp.2.2.2.2.1 l
  have e2 : P.F 2 l = nI (zrg P l) := znI fr
  have r6 : zrg P l < 6 := by
    have f1 := fr.1
    have f2 := fr.2
    show (P.F 2 l).toInt.toNat < 6
    omega
  constructor
  · intro e; rw [e2, e]
  · intro e; rw [e2] at e; exact (nI_eq (by omega) (by omega)).mp e
theorem zde_dg {P : ZS} {nb nl b r : Nat} (hp : zPn P nb nl) (hb : b < 1000) (hr : r < 1000) : ∀ l, l ≤ nl → zde (zAA P) (zBB P) (fun l => zrg P l = r) l b = zdg P (nI b) (nI r) l
  | 0, _ => rfl
  | l + 1, hl => by
    have ih := zde_dg hp hb hr l (by omega)
    have i1 := zinc_iff hp (show l < nl by omega) hb
    have i2 := zrg_iff (l := l) hp hr
    by_cases c : zrg P l = r ∧ zinc (zAA P) (zBB P) l b
    · have e : zde (zAA P) (zBB P) (fun l => zrg P l = r) (l + 1) b = zde (zAA P) (zBB P) (fun l => zrg P l = r) l b + 1 := zct_1 (p := fun l => zrg P l = r ∧ zinc (zAA P) (zBB P) l b) c
      rw [e, zdg_1 (i2.mp c.1) (i1.mp c.2), ih]
    · have e : zde (zAA P) (zBB P) (fun l => zrg P l = r) (l + 1) b = zde (zAA P) (zBB P) (fun l => zrg P l = r) l b := zct_0 (p := fun l => zrg P l = r ∧ zinc (zAA P) (zBB P) l b) c
      rw [e, zdg_0 (fun w => c ⟨i2.mpr w.1, i1.mpr w.2⟩), ih]
/-- a set of bridges that no link of ring r leaves -/
def zcls (P : ZS) (nl r : Nat) (X : Nat → Prop) : Prop := ∀ l, l < nl → zrg P l = r → (X (zAA P l) ↔ X (zBB P l))
theorem zone1 {P : ZS} {nb nl m r : Nat} (hp : zPn P nb nl) (hm : m ≤ 48) (hr : r < 1000) : ∀ (n l : Nat) (S : ZS) (c : Nat), l ≤ nl → nl - l < n → S.I 15 = nI nb → zrt nb (S.F 27) c → S.I 14 = nI c → (∀ X, zcls P nl r X → ∀ i j, i < nb → j < nb → S.F 27 i = S.F 27 j → (X i ↔ X j)) → ¬ (zfix (fun S9 _ _ _ => (S9, 0)) (fPL_isOnePiece_11 P) n S (nI r) (nI m) (nI l)).2 = 0 →
    ∃ g c', zrt nb g c' ∧ nI c' = nI nb - nI m + 1 ∧ ∀ X, zcls P nl r X → ∀ i j, i < nb → j < nb → g i = g j → (X i ↔ X j) := by
  have hp0 := hp
  obtain ⟨hB, hb, hI, hn, hg, hL⟩ := hp
  intro n
  induction n with
  | zero => intro l S c h1 h2; omega
  | succ n ih =>
    intro l S c h1 h2 h15 hrt h14 hX h0
    rw [zfix_s] at h0
    generalize zfix (fun S9 _ _ _ => (S9, 0)) (fPL_isOnePiece_11 P) n = rc at ih h0
    simp only [fPL_isOnePiece_11, fPL_isOnePiece_50, zl, zl2] at h0
    rw [hI, hB] at h0
    by_cases d : nl ≤ l
    · rw [if_pos (nI_le d (by omega))] at h0
      by_cases e : S.I 14 = nI nb - nI m + 1
      · exact ⟨S.F 27, c, hrt, by rw [← h14]; exact e, hX⟩
      · rw [if_neg e] at h0
        exact absurd rfl h0
    · rw [if_neg (nI_ge (by omega) (by omega)), nI_clamp (by omega), nI_1] at h0
      by_cases c2 : P.F 2 l = nI r
      · rw [if_pos c2] at h0
        obtain ⟨la, lb, -⟩ := hL l (by omega)
        by_cases e : S.F 27 (P.F 0 l).toNatClampNeg = S.F 27 (P.F 1 l).toNatClampNeg
        · have ej : fGR_join P S (P.F 0 l) (P.F 1 l) = (S, 0) := by
            simp only [fGR_join, zl]
            rw [if_pos e]
          rw [ej] at h0
          exact ih (l + 1) S c (by omega) (by omega) h15 hrt h14 hX h0
        · obtain ⟨S1, e1, f1, g14, g15⟩ := zgj (P := P) (S := S) (a := P.F 0 l) (b := P.F 1 l) h15 hb e
          obtain ⟨c', ec, hrt'⟩ := zrt_join hb hrt la lb e f1
          rw [e1] at h0
          refine ih (l + 1) S1 c' (by omega) (by omega) g15 hrt' (by rw [g14, h14, ec]; exact nI_pred c') (fun X cl i j hi hj w => ?_) h0
          rw [f1 i, f1 j] at w
          have ab : X (zAA P l) ↔ X (zBB P l) := cl l (by omega) ((zrg_iff hp0 hr).mpr c2)
          rcases (zgo_iff hi hj).mp w with w | ⟨w1, w2⟩
          · exact hX X cl i j hi hj w
          · have xi : X i ↔ X (zAA P l) := by
              rcases w1 with w1 | w1
              · exact hX X cl i _ hi la w1
              · exact (hX X cl i _ hi lb w1).trans ab.symm
            have xj : X j ↔ X (zAA P l) := by
              rcases w2 with w2 | w2
              · exact hX X cl j _ hj la w2
              · exact (hX X cl j _ hj lb w2).trans ab.symm
            exact xi.trans xj.symm
      · rw [if_neg c2] at h0
        exact ih (l + 1) S c (by omega) (by omega) h15 hrt h14 hX h0
theorem zconn {P S : ZS} {nb nl r : Nat} (hp : zPn P nb nl) (hr : r < 6) (h : ¬ (fPL_isOnePiece P S (nI r) (nI (zct (zpM P (nI r) nl) nb))).2 = 0) : ∀ X, zcls P nl r X → ∀ l l', l < nl → l' < nl → zrg P l = r → zrg P l' = r → X (zAA P l) → X (zAA P l') := by
  have hB := hp.1
  have hb := hp.2.1
  have mle := zct_le (p := zpM P (nI r) nl) nb
  obtain ⟨s1, s2, s3⟩ := zsep (P := P) (S := S) hb
  have e5 : fPL_isOnePiece P S (nI r) (nI (zct (zpM P (nI r) nl) nb)) = zfix (fun S9 _ _ _ => (S9, 0)) (fPL_isOnePiece_11 P) 61 (fGR_separate P S (nI nb)) (nI r) (nI (zct (zpM P (nI r) nl) nb)) (nI 0) := by
    unfold fPL_isOnePiece
    simp only [zl]
    rw [hB]
    rfl
  rw [e5] at h
  have rt : zrt nb ((fGR_separate P S (nI nb)).F 27) nb := by
    refine ⟨fun i hi => ⟨i, hi, s1 i hi, s1 i hi⟩, ?_⟩
    have : ∀ n, n ≤ nb → zct (fun i => (fGR_separate P S (nI nb)).F 27 i = nI i) n = n := by
      intro n
      induction n with
      | zero => intro _; rfl
      | succ n ih => intro hn; rw [zct_1 (s1 n (by omega)), ih (by omega)]
    exact this nb (Nat.le_refl _)
  obtain ⟨g, c', hrt, ec, hX⟩ := zone1 hp (by omega) (by omega) 61 0 _ nb (Nat.zero_le _) (by have := hp.2.2.2.1; omega) s3 rt s2 (fun X cl i j hi hj w => by
    rw [s1 i hi, s1 j hj] at w
    rw [(nI_eq (by omega) (by omega)).mp w]) h
  generalize hm : zct (zpM P (nI r) nl) nb = m at *
  have cle : c' ≤ nb := by
    rw [← hrt.2]
    exact zct_le nb
  have c1 : c' + m = nb + 1 := by
    have z1 : (1 : Int32).toInt = 1 := by decide
    have w := congrArg Int32.toInt ec
    rw [nI_toInt (by omega), Int32.toInt_add, zsubI (by omega) (by omega), z1, zbm ⟨by omega, by omega⟩] at w
    omega
  -- a bridge without links of the ring is alone
  have alone : ∀ i, i < nb → ¬ zpM P (nI r) nl i → ∀ j, j < nb → g i = g j → j = i := fun i hi nm j hj w => by
    have cl : zcls P nl r (fun x => x = i) := fun l hl el => by
      have no : ¬ zinc (zAA P) (zBB P) l i := fun q => nm ((zdg_pos nl).mpr ⟨l, hl, (zrg_iff hp (by omega)).mp el, (zinc_iff hp hl (by omega)).mp q⟩)
      exact ⟨fun e => absurd (Or.inl e) no, fun e => absurd (Or.inr e) no⟩
    exact ((hX _ cl i j hi hj w).mp rfl)
  have one : zct (fun i => g i = nI i ∧ zpM P (nI r) nl i) nb = 1 := by
    have sp := zct_sp (p := fun i => g i = nI i) (q := zpM P (nI r) nl) nb
    have sp2 := zct_sp (p := fun _ => True) (q := zpM P (nI r) nl) nb
    have tr : ∀ n, zct (fun _ => True) n = n := by
      intro n
      induction n with
      | zero => rfl
      | succ n ih => rw [zct_1 trivial, ih]
    have t1 : zct (fun x => True ∧ zpM P (nI r) nl x) nb = m := by
      rw [← hm]
      exact zct_congr nb (fun j _ => ⟨fun w => w.2, fun w => ⟨trivial, w⟩⟩)
    have t2 : zct (fun i => g i = nI i ∧ ¬ zpM P (nI r) nl i) nb = zct (fun x => True ∧ ¬ zpM P (nI r) nl x) nb := zct_congr nb (fun j hj => ⟨fun w => ⟨trivial, w.2⟩, fun w => ⟨by
      obtain ⟨k, hk, ek, rk⟩ := hrt.1 j hj
      have := alone j hj w.2 k hk (by rw [ek, rk])
      rw [this] at ek
      exact ek, w.2⟩⟩)
    have hc := hrt.2
    rw [t1, tr] at sp2
    omega
  have same : ∀ i j, i < nb → j < nb → zpM P (nI r) nl i → zpM P (nI r) nl j → g i = g j := fun i j hi hj mi mj => by
    have root : ∀ i, i < nb → zpM P (nI r) nl i → ∃ k, k < nb ∧ g i = nI k ∧ g k = nI k ∧ zpM P (nI r) nl k := fun i hi mi => by
      obtain ⟨k, hk, ek, rk⟩ := hrt.1 i hi
      refine ⟨k, hk, ek, rk, Classical.byContradiction (fun nm => ?_)⟩
      have := alone k hk nm i hi (by rw [ek, rk])
      rw [this] at mi
      exact nm mi
    obtain ⟨k, hk, ek, rk, mk⟩ := root i hi mi
    obtain ⟨k2, hk2, ek2, rk2, mk2⟩ := root j hj mj
    have e : k = k2 := Classical.byContradiction (fun ne => by
      have two : 2 ≤ zct (fun i => g i = nI i ∧ zpM P (nI r) nl i) nb := by
        rcases Nat.lt_or_gt_of_ne ne with w | w
        · exact (zct_t2 nb).mpr ⟨k, k2, w, hk2, ⟨rk, mk⟩, rk2, mk2⟩
        · exact (zct_t2 nb).mpr ⟨k2, k, w, hk, ⟨rk2, mk2⟩, rk, mk⟩
      omega)
    rw [ek, ek2, e]
  intro X cl l l' hl hl' el el' x
  obtain ⟨a1, a2, -⟩ := hp.2.2.2.2.2 l hl
  obtain ⟨b1, b2, -⟩ := hp.2.2.2.2.2 l' hl'
  have mem : ∀ l, l < nl → zrg P l = r → zpM P (nI r) nl (zAA P l) := fun l hl el => by
    have lt : zAA P l < nb := (hp.2.2.2.2.2 l hl).1
    exact (zdg_pos nl).mpr ⟨l, hl, (zrg_iff hp (by omega)).mp el, (zinc_iff hp hl (by omega)).mp (Or.inl rfl)⟩
  exact (hX X cl _ _ a1 b1 (same _ _ a1 b1 (mem l hl el) (mem l' hl' el'))).mp x
theorem zshp_of {P S : ZS} {f : Int32} {nb nl r : Nat} (hp : zPn P nb nl) (hr : r < 6) (h : ¬ (fPL_hasRightShape P S (nI r) f).2.2 = 0) : zshp (zAA P) (zBB P) (zrg P) nl r := by
  obtain ⟨cA, cB⟩ := zshC (S := S) (f := f) hp (show r ≤ 5 by omega)
  have hb := hp.2.1
  have hn := hp.2.2.2.1
  have hall : ∀ j, j < nb → zdg P (nI j) (nI r) nl ≤ 2 := fun j hj => Classical.byContradiction (fun w => by
    have e9 := cB ⟨j, hj, by omega⟩
    rw [e9] at h
    exact h rfl)
  have zero : ∀ b, ¬ b < nb → zde (zAA P) (zBB P) (fun l => zrg P l = r) nl b = 0 := fun b hb' => by
    have : ¬ 0 < zde (zAA P) (zBB P) (fun l => zrg P l = r) nl b := fun w => by
      obtain ⟨l, hl, -, i⟩ := (zct_pos2 nl).mp w
      obtain ⟨a1, a2, -⟩ := hp.2.2.2.2.2 l hl
      rcases i with i | i
      · exact hb' (by rw [← i]; exact a1)
      · exact hb' (by rw [← i]; exact a2)
    omega
  have dd : ∀ b, b < nb → zde (zAA P) (zBB P) (fun l => zrg P l = r) nl b = zdg P (nI b) (nI r) nl := fun b hb' => zde_dg hp (by omega) (by omega) nl (Nat.le_refl _)
  have bf : ∀ b, b < nb → ((∃ l, l < nl ∧ zrg P l < r ∧ zinc (zAA P) (zBB P) l b) ↔ zbef P (nI b) r nl) := fun b hb' => ⟨fun ⟨l, a, c, d⟩ => ⟨l, a, c, (zinc_iff hp a (by omega)).mp d⟩, fun ⟨l, a, c, d⟩ => ⟨l, a, c, (zinc_iff hp a (by omega)).mpr d⟩⟩
  rw [cA hall] at h
  have sei := zsd_ei (P := P) (r := nI r) (nl := nl) nb hall
  rw [zsd_eq hp nl (Nat.le_refl _)] at sei
  have ele := zct_le (p := zpE P (nI r) nl) nb
  have sle := zct_le (p := zpS P r nl) nb
  rw [ztC] at h
  split at h
  · exact absurd rfl h
  · rw [zl2] at h
    split at h
    · exact absurd rfl h
    · rename_i one
      have cn := zconn (S := S) hp hr one
      refine ⟨fun b => ?_, fun X cl l l' hl hl' el el' x => cn X cl l l' hl hl' el el' x, ?_⟩
      · by_cases c : b < nb
        · rw [dd b c]; exact hall b c
        · rw [zero b c]; omega
      · have z0 : (0 : Int32) = nI 0 := by decide
        have z2 : (2 : Int32) = nI 2 := by decide
        have z1 : (1 : Int32) = nI 1 := by decide
        split at h
        · -- closed
          rename_i e0
          refine Or.inr ?_
          rw [fPL_hasRightShape_134] at h
          repeat rw [zl] at h
          rw [if_pos e0, fPL_hasRightShape_151, fPL_hasRightShape_151] at h
          have s1 : zct (zpS P r nl) nb ≤ 1 := by
            split at h
            · split at h
              · rename_i e
                have := (nI_eq (by omega) (by omega)).mp (e.trans z1)
                omega
              · exact absurd rfl h
            · split at h
              · rename_i e
                have := (nI_eq (by omega) (by omega)).mp (e.trans z0)
                omega
              · exact absurd rfl h
          intro b b' m1 m2 x1 x2
          have lb : b < nb := Classical.byContradiction (fun w => by rw [zero b w] at m1; omega)
          have lb' : b' < nb := Classical.byContradiction (fun w => by rw [zero b' w] at m2; omega)
          rw [dd b lb] at m1
          rw [dd b' lb'] at m2
          apply Classical.byContradiction
          intro ne
          have two : 2 ≤ zct (zpS P r nl) nb := by
            rcases Nat.lt_or_gt_of_ne ne with w | w
            · exact (zct_t2 nb).mpr ⟨b, b', w, lb', ⟨m1, (bf b lb).mp x1⟩, m2, (bf b' lb').mp x2⟩
            · exact (zct_t2 nb).mpr ⟨b', b, w, lb, ⟨m2, (bf b' lb').mp x2⟩, m1, (bf b lb).mp x1⟩
          omega
        · -- a chain
          rename_i e0
          refine Or.inl ?_
          have e1 : ¬ zct (zpE P (nI r) nl) nb = 0 := fun w => e0 (by rw [w]; exact z0.symm)
          rw [fPL_hasRightShape_134] at h
          repeat rw [zl] at h
          rw [if_neg e0] at h
          repeat rw [fPL_hasRightShape_178] at h
          split at h
          · rename_i es
            have s2 : zct (zpS P r nl) nb = 2 := (nI_eq (by omega) (by omega)).mp (es.trans z2)
            split at h
            · exact absurd rfl h
            · rename_i hd
              have hk8 : zk 8 P (P.setF 8 (nI r).toNatClampNeg 0) := zk.set
              obtain ⟨q, hq, -, hq2⟩ := (zheld_iff (zPn_k hk8 hp) (show r ≤ 5 by omega)).mp hd
              have sub : ∀ b, b < nb → zpE P (nI r) nl b → zpS P r nl b := fun b hb' e => by
                have e9 : zdg P (nI b) (nI r) nl = 1 := e
                have w := hq2 b hb'
                rw [zdg_k hk8, zdg_k hk8] at w
                have pos : 0 < zdg P (nI b) (nI q) nl := Nat.pos_of_ne_zero (fun z => w ⟨e9, z⟩)
                obtain ⟨l, hl, el, il⟩ := (zdg_pos nl).mp pos
                refine ⟨by omega, l, hl, ?_, il⟩
                have : zrg P l = q := (zrg_iff hp (by omega)).mpr el
                show zrg P l < r
                omega
              have a1 := zct_and (p := zpE P (nI r) nl) (q := zpS P r nl) nb
              have a2 := zct_and (p := zpS P r nl) (q := zpE P (nI r) nl) nb
              have a3 := a1.2.mpr sub
              have a4 : zct (fun b => zpE P (nI r) nl b ∧ zpS P r nl b) nb = zct (fun b => zpS P r nl b ∧ zpE P (nI r) nl b) nb := zct_congr nb (fun j _ => ⟨fun w => ⟨w.2, w.1⟩, fun w => ⟨w.2, w.1⟩⟩)
              have a5 := a2.2.mp (by have := a2.1; omega)
              intro b d2 x
              have lb : b < nb := Classical.byContradiction (fun w => by rw [zero b w] at d2; omega)
              rw [dd b lb] at d2
              have e9 : zdg P (nI b) (nI r) nl = 1 := a5 b lb ⟨by omega, (bf b lb).mp x⟩
              omega
          · exact absurd rfl h
/-- all rings of an accepted start -/
theorem zffs {nb nl : Nat} : ∀ (n r : Nat) (P S : ZS) (f : Int32), zPn P nb nl → r ≤ 6 → 6 - r < n → (zfix (fun P9 S9 _ _ => (P9, S9, 0)) fPL_firstFault_21 n P S f (nI r)).2.2 = 0 → ∀ q, r ≤ q → q < 6 → (∃ l, l < nl ∧ zrg P l = q) → zshp (zAA P) (zBB P) (zrg P) nl q := by
  have z6 : (6 : Int32) = nI 6 := by decide
  intro n
  induction n with
  | zero => intro r P S f hp h1 h2; omega
  | succ n ih =>
    intro r P S f hp h1 h2 h0 q q1 q2 hq
    rw [zfix_s] at h0
    generalize zfix (fun P9 S9 _ _ => (P9, S9, 0)) fPL_firstFault_21 n = rc at ih h0
    simp only [fPL_firstFault_21, fPL_firstFault_62, fPL_firstFault_56, zl, zl3] at h0
    rw [z6, if_neg (nI_ge (by omega) (by omega))] at h0
    have n1 : ¬ (1 + nI r : Int32) = 0 := fun e => by
      rw [Int32.add_comm, nI_1] at e
      exact nI_ne0 (by omega) (by omega) e
    by_cases k4 : fPL_hasLinks P S (nI r) = 0
    · rw [if_pos k4, nI_1] at h0
      by_cases e : q = r
      · subst e
        obtain ⟨l, hl, el⟩ := hq
        exact absurd k4 ((zhl_iff (S := S) hp.2.2.1 hp.2.2.2.1).mpr ⟨l, hl, (zrg_iff hp (by omega)).mp el⟩)
      · exact ih (r + 1) P S f hp (by omega) (by omega) h0 q (by omega) q2 hq
    · rw [if_neg k4] at h0
      by_cases k6 : (fPL_hasRightShape P S (nI r) f).2.2 = 0
      · rw [if_pos k6] at h0
        exact absurd h0 n1
      · rw [if_neg k6] at h0
        by_cases k11 : fPL_hasRightOwner (fPL_hasRightShape P S (nI r) f).1 (fPL_hasRightShape P S (nI r) f).2.1 (nI r) = 0
        · rw [if_pos k11] at h0
          exact absurd h0 n1
        · rw [if_neg k11, nI_1] at h0
          by_cases e : q = r
          · subst e
            exact zshp_of hp q2 k6
          · have k8 := zshape_P (P := P) (S := S) (x := nI r) (y := f)
            have x0 := k8.2 0 (by decide)
            have x1 := k8.2 1 (by decide)
            have x2 := k8.2 2 (by decide)
            have w := ih (r + 1) _ _ 0 (zPn_k k8 hp) (by omega) (by omega) h0 q (by omega) q2 (by
              obtain ⟨l, hl, el⟩ := hq
              exact ⟨l, hl, by unfold zrg; rw [x2]; exact el⟩)
            unfold zAA zBB zrg at w
            rw [x0, x1, x2] at w
            exact w
theorem zff_sh {P S : ZS} {nb nl : Nat} (hp : zPn P nb nl) (h : (fPL_firstFault P S).2.2 = 0) : ∀ l, l < nl → zshp (zAA P) (zBB P) (zrg P) nl (zrg P l) := by
  have n7 : ¬ (7 : Int32) = 0 := by decide
  simp only [fPL_firstFault, fPL_firstFault_14, zl] at h
  split at h
  · exact absurd h n7
  · split at h
    · intro l hl
      have fr : zr 0 5 (P.F 2 l) := hp.2.2.2.2.1 l
      have r6 : zrg P l < 6 := by
        have f1 := fr.1
        have f2 := fr.2
        show (P.F 2 l).toInt.toNat < 6
        omega
      exact zffs 7 0 P S 1 hp (by omega) (by omega) h _ (by omega) r6 ⟨l, hl, rfl⟩
    · exact absurd h n7
