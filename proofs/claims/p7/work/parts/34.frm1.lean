
theorem q_fMO_goes_18 (P : ZS) (S_18 : ZS) (y18_0 : Int32) : zfrB 100 [3] [] S_18 (fMO_goes_18 P S_18 y18_0) := by
  unfold fMO_goes_18
  have hS_18 : zfr 100 [3] [] S_18 S_18 := zfr.rf
  refine zq_s (hS_18.I (by decide)) (fun S1 hS1 => ?_)
  refine zq_l (fun k3 => ?_)
  refine zq_if ?_ ?_
  · skip
    exact hS1
  · skip
    exact hS1
theorem q_fMO_goes (P S : ZS) (x0 : Int32) (x1 : Int32) : zfrB 100 [3] [] S (fMO_goes P S x0 x1) := by
  unfold fMO_goes
  have hS : zfr 100 [3] [] S S := zfr.rf
  refine zq_if ?_ ?_
  · skip
    exact zfr.c hS (q_fMO_goes_18 _ _ _ ) (fun _ h => h) (fun _ h => h)
  · skip
    refine zq_if ?_ ?_
    · skip
      exact zfr.c hS (q_fMO_goes_18 _ _ _ ) (fun _ h => h) (fun _ h => h)
    · skip
      exact zfr.c hS (q_fMO_goes_18 _ _ _ ) (fun _ h => h) (fun _ h => h)
theorem q_fMO_join_56 (P : ZS) (rc18 : ZS → Int32 → Int32 → Int32 → (ZS × Int32)) (S_56 : ZS) (x56_3 : Int32) (x56_4 : Int32) (x56_5 : Int32) (y56_0 : Int32) (y56_1 : Int32) (hrc18 : ∀ (a0 : ZS) (a1 : Int32) (a2 : Int32) (a3 : Int32), zfrB 100 [] [33] a0 (rc18 a0 a1 a2 a3)) : zfrB 100 [] [33] S_56 (fMO_join_56 P rc18 S_56 x56_3 x56_4 x56_5 y56_0 y56_1) := by
  unfold fMO_join_56
  have hS_56 : zfr 100 [] [33] S_56 S_56 := zfr.rf
  refine zq_s (hS_56.F (by decide)) (fun S1 hS1 => ?_)
  refine zq_l (fun k3 => ?_)
  exact zfr.c hS1 (hrc18 _ _ _ _) (fun _ h => h) (fun _ h => h)
theorem q_fMO_join_18 (P : ZS) (rc18 : ZS → Int32 → Int32 → Int32 → (ZS × Int32)) (S_18 : ZS) (x18_3 : Int32) (x18_4 : Int32) (x18_5 : Int32) (hrc18 : ∀ (a0 : ZS) (a1 : Int32) (a2 : Int32) (a3 : Int32), zfrB 100 [] [33] a0 (rc18 a0 a1 a2 a3)) : zfrB 100 [] [33] S_18 (fMO_join_18 P rc18 S_18 x18_3 x18_4 x18_5) := by
  unfold fMO_join_18
  have hS_18 : zfr 100 [] [33] S_18 S_18 := zfr.rf
  refine zq_l (fun k4 => ?_)
  refine zq_if ?_ ?_
  · skip
    refine zq_if ?_ ?_
    · skip
      exact hS_18
    · skip
      exact hS_18
  · skip
    refine zq_l (fun k5 => ?_)
    refine zq_if ?_ ?_
    · skip
      exact zfr.c hS_18 (q_fMO_join_56 _ rc18 _ _ _ _ _ _ hrc18) (fun _ h => h) (fun _ h => h)
    · skip
      refine zq_l (fun k6 => ?_)
      exact zfr.c hS_18 (q_fMO_join_56 _ rc18 _ _ _ _ _ _ hrc18) (fun _ h => h) (fun _ h => h)
theorem z_fMO_join_18 (P : ZS) : ∀ (n : Nat) (S_18 : ZS) (x18_3 : Int32) (x18_4 : Int32) (x18_5 : Int32), zfrB 100 [] [33] S_18 (zfix (fun S9 _ _ _ => (S9, 0)) (fMO_join_18 P) n S_18 x18_3 x18_4 x18_5) := by
  intro n
  induction n with
  | zero => intro S_18 x18_3 x18_4 x18_5; rw [zfix_0]; exact zfr.rf
  | succ n ih => intro S_18 x18_3 x18_4 x18_5; rw [zfix_s]; exact q_fMO_join_18 P _ _ _ _ _  ih
theorem q_fMO_join (P S : ZS) (x0 : Int32) (x1 : Int32) : zfrB 100 [] [33] S (fMO_join P S x0 x1) := by
  unfold fMO_join
  have hS : zfr 100 [] [33] S S := zfr.rf
  refine zq_l (fun k7 => ?_)
  refine zq_l (fun k8 => ?_)
  exact zfr.c hS (z_fMO_join_18 P  49 _ _ _ _) (fun _ h => h) (fun _ h => h)
theorem q_fMO_isOne_100 (P : ZS) (rc60 : ZS → Int32 → Int32 → Int32 → (ZS × Int32)) (S_100 : ZS) (x100_1 : Int32) (x100_2 : Int32) (x100_3 : Int32) (hrc60 : ∀ (a0 : ZS) (a1 : Int32) (a2 : Int32) (a3 : Int32), zfrB 100 [] [33] a0 (rc60 a0 a1 a2 a3)) : zfrB 100 [] [33] S_100 (fMO_isOne_100 P rc60 S_100 x100_1 x100_2 x100_3) := by
  unfold fMO_isOne_100
  have hS_100 : zfr 100 [] [33] S_100 S_100 := zfr.rf
  refine zq_l (fun k1 => ?_)
  exact zfr.c hS_100 (hrc60 _ _ _ _) (fun _ h => h) (fun _ h => h)
theorem q_fMO_isOne_60 (P : ZS) (rc60 : ZS → Int32 → Int32 → Int32 → (ZS × Int32)) (S_60 : ZS) (x60_1 : Int32) (x60_2 : Int32) (x60_3 : Int32) (hrc60 : ∀ (a0 : ZS) (a1 : Int32) (a2 : Int32) (a3 : Int32), zfrB 100 [] [33] a0 (rc60 a0 a1 a2 a3)) : zfrB 100 [] [33] S_60 (fMO_isOne_60 P rc60 S_60 x60_1 x60_2 x60_3) := by
  unfold fMO_isOne_60
  have hS_60 : zfr 100 [] [33] S_60 S_60 := zfr.rf
  refine zq_l (fun k2 => ?_)
  refine zq_if ?_ ?_
  · skip
    refine zq_if ?_ ?_
    · skip
      exact hS_60
    · skip
      exact hS_60
  · skip
    refine zq_l (fun k3 => ?_)
    refine zq_if ?_ ?_
    · skip
      refine zq_l (fun k4 => ?_)
      refine zq_l (fun k5 => ?_)
      refine zq_2 (hS_60.c (q_fMO_join _ _ _ _) (by decide) (by decide)) (fun S8 k7 hS8 => ?_)
      refine zq_if ?_ ?_
      · skip
        exact zfr.c hS8 (q_fMO_isOne_100 _ rc60 _ _ _ _ hrc60) (fun _ h => h) (fun _ h => h)
      · skip
        refine zq_l (fun k10 => ?_)
        exact zfr.c hS8 (q_fMO_isOne_100 _ rc60 _ _ _ _ hrc60) (fun _ h => h) (fun _ h => h)
    · skip
      exact zfr.c hS_60 (q_fMO_isOne_100 _ rc60 _ _ _ _ hrc60) (fun _ h => h) (fun _ h => h)
theorem z_fMO_isOne_60 (P : ZS) : ∀ (n : Nat) (S_60 : ZS) (x60_1 : Int32) (x60_2 : Int32) (x60_3 : Int32), zfrB 100 [] [33] S_60 (zfix (fun S9 _ _ _ => (S9, 0)) (fMO_isOne_60 P) n S_60 x60_1 x60_2 x60_3) := by
  intro n
  induction n with
  | zero => intro S_60 x60_1 x60_2 x60_3; rw [zfix_0]; exact zfr.rf
  | succ n ih => intro S_60 x60_1 x60_2 x60_3; rw [zfix_s]; exact q_fMO_isOne_60 P _ _ _ _ _  ih
theorem q_fMO_isOne_50 (P : ZS) (rc27 : ZS → Int32 → Int32 → Int32 → (ZS × Int32)) (S_50 : ZS) (x50_1 : Int32) (x50_3 : Int32) (y50_0 : Int32) (y50_1 : Int32) (hrc27 : ∀ (a0 : ZS) (a1 : Int32) (a2 : Int32) (a3 : Int32), zfrB 100 [] [33] a0 (rc27 a0 a1 a2 a3)) : zfrB 100 [] [33] S_50 (fMO_isOne_50 P rc27 S_50 x50_1 x50_3 y50_0 y50_1) := by
  unfold fMO_isOne_50
  have hS_50 : zfr 100 [] [33] S_50 S_50 := zfr.rf
  refine zq_l (fun k11 => ?_)
  refine zq_l (fun k12 => ?_)
  exact zfr.c hS_50 (hrc27 _ _ _ _) (fun _ h => h) (fun _ h => h)
theorem q_fMO_isOne_27 (P : ZS) (rc27 : ZS → Int32 → Int32 → Int32 → (ZS × Int32)) (S_27 : ZS) (x27_1 : Int32) (x27_2 : Int32) (x27_3 : Int32) (hrc27 : ∀ (a0 : ZS) (a1 : Int32) (a2 : Int32) (a3 : Int32), zfrB 100 [] [33] a0 (rc27 a0 a1 a2 a3)) : zfrB 100 [] [33] S_27 (fMO_isOne_27 P rc27 S_27 x27_1 x27_2 x27_3) := by
  unfold fMO_isOne_27
  have hS_27 : zfr 100 [] [33] S_27 S_27 := zfr.rf
  refine zq_l (fun k13 => ?_)
  refine zq_if ?_ ?_
  · skip
    exact zfr.c hS_27 (z_fMO_isOne_60 P  61 _ _ _ _) (fun _ h => h) (fun _ h => h)
  · skip
    refine zq_l (fun k15 => ?_)
    refine zq_if ?_ ?_
    · skip
      exact zfr.c hS_27 (q_fMO_isOne_50 _ rc27 _ _ _ _ _ hrc27) (fun _ h => h) (fun _ h => h)
    · skip
      exact zfr.c hS_27 (q_fMO_isOne_50 _ rc27 _ _ _ _ _ hrc27) (fun _ h => h) (fun _ h => h)
theorem z_fMO_isOne_27 (P : ZS) : ∀ (n : Nat) (S_27 : ZS) (x27_1 : Int32) (x27_2 : Int32) (x27_3 : Int32), zfrB 100 [] [33] S_27 (zfix (fun S9 _ _ _ => (S9, 0)) (fMO_isOne_27 P) n S_27 x27_1 x27_2 x27_3) := by
  intro n
  induction n with
  | zero => intro S_27 x27_1 x27_2 x27_3; rw [zfix_0]; exact zfr.rf
  | succ n ih => intro S_27 x27_1 x27_2 x27_3; rw [zfix_s]; exact q_fMO_isOne_27 P _ _ _ _ _  ih
theorem q_fMO_isOne_2 (P : ZS) (rc2 : ZS → Int32 → Int32 → (ZS × Int32)) (S_2 : ZS) (x2_1 : Int32) (x2_2 : Int32) (hrc2 : ∀ (a0 : ZS) (a1 : Int32) (a2 : Int32), zfrB 100 [] [33] a0 (rc2 a0 a1 a2)) : zfrB 100 [] [33] S_2 (fMO_isOne_2 P rc2 S_2 x2_1 x2_2) := by
  unfold fMO_isOne_2
  have hS_2 : zfr 100 [] [33] S_2 S_2 := zfr.rf
  refine zq_l (fun k16 => ?_)
  refine zq_if ?_ ?_
  · skip
    exact zfr.c hS_2 (z_fMO_isOne_27 P  49 _ _ _ _) (fun _ h => h) (fun _ h => h)
  · skip
    refine zq_s (hS_2.F (by decide)) (fun S17 hS17 => ?_)
    refine zq_l (fun k19 => ?_)
    exact zfr.c hS17 (hrc2 _ _ _) (fun _ h => h) (fun _ h => h)
theorem z_fMO_isOne_2 (P : ZS) : ∀ (n : Nat) (S_2 : ZS) (x2_1 : Int32) (x2_2 : Int32), zfrB 100 [] [33] S_2 (zfix (fun S9 _ _ => (S9, 0)) (fMO_isOne_2 P) n S_2 x2_1 x2_2) := by
  intro n
  induction n with
  | zero => intro S_2 x2_1 x2_2; rw [zfix_0]; exact zfr.rf
  | succ n ih => intro S_2 x2_1 x2_2; rw [zfix_s]; exact q_fMO_isOne_2 P _ _ _ _  ih
theorem q_fMO_isOne (P S : ZS) (x0 : Int32) : zfrB 100 [] [33] S (fMO_isOne P S x0) := by
  unfold fMO_isOne
  have hS : zfr 100 [] [33] S S := zfr.rf
  exact zfr.c hS (z_fMO_isOne_2 P  49 _ _ _) (fun _ h => h) (fun _ h => h)
theorem q_fMO_isRight_185 (P_185 : ZS) (S_185 : ZS) : zfrC 100 [] [] S_185 (fMO_isRight_185 P_185 S_185) := by
  unfold fMO_isRight_185
  have hS_185 : zfr 100 [] [] S_185 S_185 := zfr.rf
  exact hS_185
theorem q_fMO_isRight_155 (P_155 : ZS) (S_155 : ZS) : zfrC 100 [] [] S_155 (fMO_isRight_155 P_155 S_155) := by
  unfold fMO_isRight_155
  have hS_155 : zfr 100 [] [] S_155 S_155 := zfr.rf
  exact hS_155
theorem q_fMO_isRight_148 (P_148 : ZS) (S_148 : ZS) (y148_0 : Int32) (y148_1 : Int32) : zfrC 100 [] [] S_148 (fMO_isRight_148 P_148 S_148 y148_0 y148_1) := by
  unfold fMO_isRight_148
  have hS_148 : zfr 100 [] [] S_148 S_148 := zfr.rf
  refine zq_if ?_ ?_
  · skip
    exact hS_148
  · skip
    exact zfr.c hS_148 (q_fMO_isRight_155 _ _ ) (fun _ h => h) (fun _ h => h)
theorem q_fMO_isRight_101 (rc11 : ZS → ZS → Int32 → Int32 → Int32 → Int32 → Int32 → Int32 → (ZS × ZS × Int32)) (P_101 : ZS) (S_101 : ZS) (x101_1 : Int32) (x101_2 : Int32) (x101_3 : Int32) (x101_4 : Int32) (x101_6 : Int32) (y101_0 : Int32) (y101_1 : Int32) (hrc11 : ∀ (a0 : ZS) (a1 : ZS) (a2 : Int32) (a3 : Int32) (a4 : Int32) (a5 : Int32) (a6 : Int32) (a7 : Int32), zfrC 100 [] [33] a1 (rc11 a0 a1 a2 a3 a4 a5 a6 a7)) : zfrC 100 [] [33] S_101 (fMO_isRight_101 rc11 P_101 S_101 x101_1 x101_2 x101_3 x101_4 x101_6 y101_0 y101_1) := by
  unfold fMO_isRight_101
  have hS_101 : zfr 100 [] [33] S_101 S_101 := zfr.rf
  refine zq_l (fun k1 => ?_)
  refine zq_l (fun k2 => ?_)
  exact zfr.c hS_101 (hrc11 _ _ _ _ _ _ _ _) (fun _ h => h) (fun _ h => h)
theorem q_fMO_isRight_86 (rc11 : ZS → ZS → Int32 → Int32 → Int32 → Int32 → Int32 → Int32 → (ZS × ZS × Int32)) (P_86 : ZS) (S_86 : ZS) (x86_1 : Int32) (x86_2 : Int32) (x86_3 : Int32) (x86_5 : Int32) (x86_6 : Int32) (x86_8 : Int32) (y86_0 : Int32) (y86_1 : Int32) (hrc11 : ∀ (a0 : ZS) (a1 : ZS) (a2 : Int32) (a3 : Int32) (a4 : Int32) (a5 : Int32) (a6 : Int32) (a7 : Int32), zfrC 100 [] [33] a1 (rc11 a0 a1 a2 a3 a4 a5 a6 a7)) : zfrC 100 [] [33] S_86 (fMO_isRight_86 rc11 P_86 S_86 x86_1 x86_2 x86_3 x86_5 x86_6 x86_8 y86_0 y86_1) := by
  unfold fMO_isRight_86
  have hS_86 : zfr 100 [] [33] S_86 S_86 := zfr.rf
  refine zq_l (fun k3 => ?_)
  refine zq_if ?_ ?_
  · skip
    exact zfr.c hS_86 (q_fMO_isRight_101 rc11 _ _ _ _ _ _ _ _ _ hrc11) (fun _ h => h) (fun _ h => h)
  · skip
    exact zfr.c hS_86 (q_fMO_isRight_101 rc11 _ _ _ _ _ _ _ _ _ hrc11) (fun _ h => h) (fun _ h => h)
theorem q_fMO_isRight_71 (rc11 : ZS → ZS → Int32 → Int32 → Int32 → Int32 → Int32 → Int32 → (ZS × ZS × Int32)) (P_71 : ZS) (S_71 : ZS) (x71_1 : Int32) (x71_2 : Int32) (x71_4 : Int32) (x71_5 : Int32) (x71_6 : Int32) (x71_7 : Int32) (x71_8 : Int32) (y71_0 : Int32) (y71_1 : Int32) (hrc11 : ∀ (a0 : ZS) (a1 : ZS) (a2 : Int32) (a3 : Int32) (a4 : Int32) (a5 : Int32) (a6 : Int32) (a7 : Int32), zfrC 100 [] [33] a1 (rc11 a0 a1 a2 a3 a4 a5 a6 a7)) : zfrC 100 [] [33] S_71 (fMO_isRight_71 rc11 P_71 S_71 x71_1 x71_2 x71_4 x71_5 x71_6 x71_7 x71_8 y71_0 y71_1) := by
  unfold fMO_isRight_71
  have hS_71 : zfr 100 [] [33] S_71 S_71 := zfr.rf
  refine zq_l (fun k4 => ?_)
  refine zq_if ?_ ?_
  · skip
    exact zfr.c hS_71 (q_fMO_isRight_86 rc11 _ _ _ _ _ _ _ _ _ _ hrc11) (fun _ h => h) (fun _ h => h)
  · skip
    exact zfr.c hS_71 (q_fMO_isRight_86 rc11 _ _ _ _ _ _ _ _ _ _ hrc11) (fun _ h => h) (fun _ h => h)
theorem q_fMO_isRight_49 (rc11 : ZS → ZS → Int32 → Int32 → Int32 → Int32 → Int32 → Int32 → (ZS × ZS × Int32)) (P_49 : ZS) (S_49 : ZS) (x49_1 : Int32) (x49_2 : Int32) (x49_3 : Int32) (x49_4 : Int32) (x49_5 : Int32) (x49_6 : Int32) (x49_7 : Int32) (y49_0 : Int32) (hrc11 : ∀ (a0 : ZS) (a1 : ZS) (a2 : Int32) (a3 : Int32) (a4 : Int32) (a5 : Int32) (a6 : Int32) (a7 : Int32), zfrC 100 [] [33] a1 (rc11 a0 a1 a2 a3 a4 a5 a6 a7)) : zfrC 100 [] [33] S_49 (fMO_isRight_49 rc11 P_49 S_49 x49_1 x49_2 x49_3 x49_4 x49_5 x49_6 x49_7 y49_0) := by
  unfold fMO_isRight_49
  have hS_49 : zfr 100 [] [33] S_49 S_49 := zfr.rf
  refine zq_if ?_ ?_
  · skip
    refine zq_if ?_ ?_
    · skip
      exact zfr.c hS_49 (q_fMO_isRight_71 rc11 _ _ _ _ _ _ _ _ _ _ _ hrc11) (fun _ h => h) (fun _ h => h)
    · skip
      exact zfr.c hS_49 (q_fMO_isRight_71 rc11 _ _ _ _ _ _ _ _ _ _ _ hrc11) (fun _ h => h) (fun _ h => h)
  · skip
    exact hS_49
theorem q_fMO_isRight_48 (rc11 : ZS → ZS → Int32 → Int32 → Int32 → Int32 → Int32 → Int32 → (ZS × ZS × Int32)) (P_48 : ZS) (S_48 : ZS) (x48_1 : Int32) (x48_2 : Int32) (x48_3 : Int32) (x48_4 : Int32) (x48_5 : Int32) (x48_6 : Int32) (x48_7 : Int32) (hrc11 : ∀ (a0 : ZS) (a1 : ZS) (a2 : Int32) (a3 : Int32) (a4 : Int32) (a5 : Int32) (a6 : Int32) (a7 : Int32), zfrC 100 [] [33] a1 (rc11 a0 a1 a2 a3 a4 a5 a6 a7)) : zfrC 100 [] [33] S_48 (fMO_isRight_48 rc11 P_48 S_48 x48_1 x48_2 x48_3 x48_4 x48_5 x48_6 x48_7) := by
  unfold fMO_isRight_48
  have hS_48 : zfr 100 [] [33] S_48 S_48 := zfr.rf
  exact zfr.c hS_48 (q_fMO_isRight_49 rc11 _ _ _ _ _ _ _ _ _ _ hrc11) (fun _ h => h) (fun _ h => h)
theorem q_fMO_isRight_11 (rc11 : ZS → ZS → Int32 → Int32 → Int32 → Int32 → Int32 → Int32 → (ZS × ZS × Int32)) (P_11 : ZS) (S_11 : ZS) (x11_1 : Int32) (x11_2 : Int32) (x11_3 : Int32) (x11_4 : Int32) (x11_5 : Int32) (x11_6 : Int32) (hrc11 : ∀ (a0 : ZS) (a1 : ZS) (a2 : Int32) (a3 : Int32) (a4 : Int32) (a5 : Int32) (a6 : Int32) (a7 : Int32), zfrC 100 [] [33] a1 (rc11 a0 a1 a2 a3 a4 a5 a6 a7)) : zfrC 100 [] [33] S_11 (fMO_isRight_11 rc11 P_11 S_11 x11_1 x11_2 x11_3 x11_4 x11_5 x11_6) := by
  unfold fMO_isRight_11
  have hS_11 : zfr 100 [] [33] S_11 S_11 := zfr.rf
  refine zq_l (fun k5 => ?_)
  refine zq_if ?_ ?_
  · skip
    refine zq_2 (hS_11.c (q_fMO_isOne _ _ _) (by decide) (by decide)) (fun S8 k7 hS8 => ?_)
    refine zq_if ?_ ?_
    · skip
      exact hS8
    · skip
      refine zq_if ?_ ?_
      · skip
        refine zq_l (fun P12 => ?_)
        refine zq_if ?_ ?_
        · skip
          exact zfr.c hS8 (q_fMO_isRight_155 _ _ ) (by decide) (by decide)
        · skip
          refine zq_if ?_ ?_
          · skip
            exact zfr.c hS8 (q_fMO_isRight_148 _ _ _ _ ) (by decide) (by decide)
          · skip
            exact zfr.c hS8 (q_fMO_isRight_148 _ _ _ _ ) (by decide) (by decide)
      · skip
        refine zq_if ?_ ?_
        · skip
          refine zq_if ?_ ?_
          · skip
            exact zfr.c hS8 (q_fMO_isRight_185 _ _ ) (by decide) (by decide)
          · skip
            refine zq_if ?_ ?_
            · skip
              refine zq_l (fun k11 => ?_)
              refine zq_if ?_ ?_
              · skip
                exact zfr.c hS8 (q_fMO_isRight_185 _ _ ) (by decide) (by decide)
              · skip
                exact hS8
            · skip
              exact zfr.c hS8 (q_fMO_isRight_185 _ _ ) (by decide) (by decide)
        · skip
          exact zfr.c hS8 (q_fMO_isRight_185 _ _ ) (by decide) (by decide)
  · skip
    refine zq_l (fun k15 => ?_)
    refine zq_if ?_ ?_
    · skip
      exact zfr.c hS_11 (q_fMO_isRight_48 rc11 _ _ _ _ _ _ _ _ _ hrc11) (fun _ h => h) (fun _ h => h)
    · skip
      refine zq_l (fun k17 => ?_)
      refine zq_if ?_ ?_
      · skip
        exact zfr.c hS_11 (q_fMO_isRight_48 rc11 _ _ _ _ _ _ _ _ _ hrc11) (fun _ h => h) (fun _ h => h)
      · skip
        exact zfr.c hS_11 (q_fMO_isRight_49 rc11 _ _ _ _ _ _ _ _ _ _ hrc11) (fun _ h => h) (fun _ h => h)
theorem z_fMO_isRight_11  : ∀ (n : Nat) (P_11 : ZS) (S_11 : ZS) (x11_1 : Int32) (x11_2 : Int32) (x11_3 : Int32) (x11_4 : Int32) (x11_5 : Int32) (x11_6 : Int32), zfrC 100 [] [33] S_11 (zfix (fun P9 S9 _ _ _ _ _ _ => (P9, S9, 0)) (fMO_isRight_11 ) n P_11 S_11 x11_1 x11_2 x11_3 x11_4 x11_5 x11_6) := by
  intro n
  induction n with
  | zero => intro P_11 S_11 x11_1 x11_2 x11_3 x11_4 x11_5 x11_6; rw [zfix_0]; exact zfr.rf
  | succ n ih => intro P_11 S_11 x11_1 x11_2 x11_3 x11_4 x11_5 x11_6; rw [zfix_s]; exact q_fMO_isRight_11  _ _ _ _ _ _ _ _ _  ih
theorem q_fMO_isRight (P S : ZS) (x0 : Int32) (x1 : Int32) : zfrC 100 [] [33] S (fMO_isRight P S x0 x1) := by
  unfold fMO_isRight
  have hS : zfr 100 [] [33] S S := zfr.rf
  exact zfr.c hS (z_fMO_isRight_11   49 _ _ _ _ _ _ _ _) (fun _ h => h) (fun _ h => h)
theorem q_fMO_faultOf_162 (rc72 : ZS → ZS → Int32 → Int32 → (ZS × ZS × Int32)) (P_162 : ZS) (S_162 : ZS) (x162_1 : Int32) (x162_2 : Int32) (hrc72 : ∀ (a0 : ZS) (a1 : ZS) (a2 : Int32) (a3 : Int32), zfrC 100 [] [33] a1 (rc72 a0 a1 a2 a3)) : zfrC 100 [] [33] S_162 (fMO_faultOf_162 rc72 P_162 S_162 x162_1 x162_2) := by
  unfold fMO_faultOf_162
  have hS_162 : zfr 100 [] [33] S_162 S_162 := zfr.rf
  refine zq_l (fun k1 => ?_)
  exact zfr.c hS_162 (hrc72 _ _ _ _) (fun _ h => h) (fun _ h => h)
theorem q_fMO_faultOf_156 (P_156 : ZS) (S_156 : ZS) (x156_2 : Int32) : zfrC 100 [] [] S_156 (fMO_faultOf_156 P_156 S_156 x156_2) := by
  unfold fMO_faultOf_156
  have hS_156 : zfr 100 [] [] S_156 S_156 := zfr.rf
  refine zq_l (fun k2 => ?_)
  exact hS_156
theorem q_fMO_faultOf_142 (rc72 : ZS → ZS → Int32 → Int32 → (ZS × ZS × Int32)) (P_142 : ZS) (S_142 : ZS) (x142_1 : Int32) (x142_2 : Int32) (y142_0 : Int32) (hrc72 : ∀ (a0 : ZS) (a1 : ZS) (a2 : Int32) (a3 : Int32), zfrC 100 [] [33] a1 (rc72 a0 a1 a2 a3)) : zfrC 100 [] [33] S_142 (fMO_faultOf_142 rc72 P_142 S_142 x142_1 x142_2 y142_0) := by
  unfold fMO_faultOf_142
  have hS_142 : zfr 100 [] [33] S_142 S_142 := zfr.rf
  refine zq_3 (hS_142.c (q_fMO_isRight _ _ _ _) (by decide) (by decide)) (fun P6 S5 k4 hS5 => ?_)
  refine zq_if ?_ ?_
  · skip
    exact zfr.c hS5 (q_fMO_faultOf_156 _ _ _ ) (by decide) (by decide)
  · skip
    refine zq_if ?_ ?_
    · skip
      exact zfr.c hS5 (q_fMO_faultOf_156 _ _ _ ) (by decide) (by decide)
    · skip
      exact zfr.c hS5 (q_fMO_faultOf_162 rc72 _ _ _ _ hrc72) (fun _ h => h) (fun _ h => h)
theorem q_fMO_faultOf_141 (rc72 : ZS → ZS → Int32 → Int32 → (ZS × ZS × Int32)) (P_141 : ZS) (S_141 : ZS) (x141_1 : Int32) (x141_2 : Int32) (hrc72 : ∀ (a0 : ZS) (a1 : ZS) (a2 : Int32) (a3 : Int32), zfrC 100 [] [33] a1 (rc72 a0 a1 a2 a3)) : zfrC 100 [] [33] S_141 (fMO_faultOf_141 rc72 P_141 S_141 x141_1 x141_2) := by
  unfold fMO_faultOf_141
  have hS_141 : zfr 100 [] [33] S_141 S_141 := zfr.rf
  exact zfr.c hS_141 (q_fMO_faultOf_142 rc72 _ _ _ _ _ hrc72) (fun _ h => h) (fun _ h => h)
theorem q_fMO_faultOf_72 (rc72 : ZS → ZS → Int32 → Int32 → (ZS × ZS × Int32)) (P_72 : ZS) (S_72 : ZS) (x72_1 : Int32) (x72_2 : Int32) (hrc72 : ∀ (a0 : ZS) (a1 : ZS) (a2 : Int32) (a3 : Int32), zfrC 100 [] [33] a1 (rc72 a0 a1 a2 a3)) : zfrC 100 [] [33] S_72 (fMO_faultOf_72 rc72 P_72 S_72 x72_1 x72_2) := by
  unfold fMO_faultOf_72
  have hS_72 : zfr 100 [] [33] S_72 S_72 := zfr.rf
  refine zq_if ?_ ?_
  · skip
    exact hS_72
  · skip
    refine zq_l (fun P8 => ?_)
    refine zq_l (fun k11 => ?_)
    refine zq_if ?_ ?_
    · skip
      exact zfr.c hS_72 (q_fMO_faultOf_162 rc72 _ _ _ _ hrc72) (fun _ h => h) (fun _ h => h)
    · skip
      refine zq_l (fun k12 => ?_)
      refine zq_if ?_ ?_
      · skip
        exact zfr.c hS_72 (q_fMO_faultOf_141 rc72 _ _ _ _ hrc72) (fun _ h => h) (fun _ h => h)
      · skip
        refine zq_l (fun k13 => ?_)
        refine zq_l (fun k14 => ?_)
        refine zq_if ?_ ?_
        · skip
          refine zq_l (fun k15 => ?_)
          refine zq_l (fun k16 => ?_)
          refine zq_l (fun k18 => ?_)
          refine zq_if ?_ ?_
          · skip
            exact zfr.c hS_72 (q_fMO_faultOf_141 rc72 _ _ _ _ hrc72) (fun _ h => h) (fun _ h => h)
          · skip
            exact zfr.c hS_72 (q_fMO_faultOf_142 rc72 _ _ _ _ _ hrc72) (fun _ h => h) (fun _ h => h)
        · skip
          exact zfr.c hS_72 (q_fMO_faultOf_141 rc72 _ _ _ _ hrc72) (fun _ h => h) (fun _ h => h)
theorem z_fMO_faultOf_72  : ∀ (n : Nat) (P_72 : ZS) (S_72 : ZS) (x72_1 : Int32) (x72_2 : Int32), zfrC 100 [] [33] S_72 (zfix (fun P9 S9 _ _ => (P9, S9, 0)) (fMO_faultOf_72 ) n P_72 S_72 x72_1 x72_2) := by
  intro n
  induction n with
  | zero => intro P_72 S_72 x72_1 x72_2; rw [zfix_0]; exact zfr.rf
  | succ n ih => intro P_72 S_72 x72_1 x72_2; rw [zfix_s]; exact q_fMO_faultOf_72  _ _ _ _ _  ih
theorem q_fMO_faultOf_48 (rc12 : ZS → ZS → Int32 → (ZS × ZS × Int32)) (rc24 : ZS → ZS → Int32 → Int32 → Int32 → (ZS × ZS × Int32)) (P_48 : ZS) (S_48 : ZS) (x48_1 : Int32) (x48_3 : Int32) (y48_0 : Int32) (hrc12 : ∀ (a0 : ZS) (a1 : ZS) (a2 : Int32), zfrC 100 [] [33] a1 (rc12 a0 a1 a2)) (hrc24 : ∀ (a0 : ZS) (a1 : ZS) (a2 : Int32) (a3 : Int32) (a4 : Int32), zfrC 100 [] [33] a1 (rc24 a0 a1 a2 a3 a4)) : zfrC 100 [] [33] S_48 (fMO_faultOf_48 rc12 rc24 P_48 S_48 x48_1 x48_3 y48_0) := by
  unfold fMO_faultOf_48
  have hS_48 : zfr 100 [] [33] S_48 S_48 := zfr.rf
  refine zq_l (fun k19 => ?_)
  exact zfr.c hS_48 (hrc24 _ _ _ _ _) (fun _ h => h) (fun _ h => h)
theorem q_fMO_faultOf_43 (rc12 : ZS → ZS → Int32 → (ZS × ZS × Int32)) (rc24 : ZS → ZS → Int32 → Int32 → Int32 → (ZS × ZS × Int32)) (P_43 : ZS) (S_43 : ZS) (x43_1 : Int32) (x43_3 : Int32) (hrc12 : ∀ (a0 : ZS) (a1 : ZS) (a2 : Int32), zfrC 100 [] [33] a1 (rc12 a0 a1 a2)) (hrc24 : ∀ (a0 : ZS) (a1 : ZS) (a2 : Int32) (a3 : Int32) (a4 : Int32), zfrC 100 [] [33] a1 (rc24 a0 a1 a2 a3 a4)) : zfrC 100 [] [33] S_43 (fMO_faultOf_43 rc12 rc24 P_43 S_43 x43_1 x43_3) := by
  unfold fMO_faultOf_43
  have hS_43 : zfr 100 [] [33] S_43 S_43 := zfr.rf
  exact zfr.c hS_43 (q_fMO_faultOf_48 rc12 rc24 _ _ _ _ _ hrc12 hrc24) (fun _ h => h) (fun _ h => h)
theorem q_fMO_faultOf_24 (rc12 : ZS → ZS → Int32 → (ZS × ZS × Int32)) (rc24 : ZS → ZS → Int32 → Int32 → Int32 → (ZS × ZS × Int32)) (P_24 : ZS) (S_24 : ZS) (x24_1 : Int32) (x24_2 : Int32) (x24_3 : Int32) (hrc12 : ∀ (a0 : ZS) (a1 : ZS) (a2 : Int32), zfrC 100 [] [33] a1 (rc12 a0 a1 a2)) (hrc24 : ∀ (a0 : ZS) (a1 : ZS) (a2 : Int32) (a3 : Int32) (a4 : Int32), zfrC 100 [] [33] a1 (rc24 a0 a1 a2 a3 a4)) : zfrC 100 [] [33] S_24 (fMO_faultOf_24 rc12 rc24 P_24 S_24 x24_1 x24_2 x24_3) := by
  unfold fMO_faultOf_24
  have hS_24 : zfr 100 [] [33] S_24 S_24 := zfr.rf
  refine zq_if ?_ ?_
  · skip
    refine zq_if ?_ ?_
    · skip
      exact hS_24
    · skip
      refine zq_l (fun k20 => ?_)
      exact zfr.c hS_24 (hrc12 _ _ _) (fun _ h => h) (fun _ h => h)
  · skip
    refine zq_if ?_ ?_
    · skip
      refine zq_l (fun k22 => ?_)
      refine zq_if ?_ ?_
      · skip
        exact zfr.c hS_24 (q_fMO_faultOf_48 rc12 rc24 _ _ _ _ _ hrc12 hrc24) (fun _ h => h) (fun _ h => h)
      · skip
        exact zfr.c hS_24 (q_fMO_faultOf_43 rc12 rc24 _ _ _ _ hrc12 hrc24) (fun _ h => h) (fun _ h => h)
    · skip
      exact zfr.c hS_24 (q_fMO_faultOf_43 rc12 rc24 _ _ _ _ hrc12 hrc24) (fun _ h => h) (fun _ h => h)
theorem z_fMO_faultOf_24 (rc12 : ZS → ZS → Int32 → (ZS × ZS × Int32)) (hrc12 : ∀ (a0 : ZS) (a1 : ZS) (a2 : Int32), zfrC 100 [] [33] a1 (rc12 a0 a1 a2)) : ∀ (n : Nat) (P_24 : ZS) (S_24 : ZS) (x24_1 : Int32) (x24_2 : Int32) (x24_3 : Int32), zfrC 100 [] [33] S_24 (zfix (fun P9 S9 _ _ _ => (P9, S9, 0)) (fMO_faultOf_24 rc12) n P_24 S_24 x24_1 x24_2 x24_3) := by
  intro n
  induction n with
  | zero => intro P_24 S_24 x24_1 x24_2 x24_3; rw [zfix_0]; exact zfr.rf
  | succ n ih => intro P_24 S_24 x24_1 x24_2 x24_3; rw [zfix_s]; exact q_fMO_faultOf_24 rc12 _ _ _ _ _ _ hrc12 ih
theorem q_fMO_faultOf_12 (rc12 : ZS → ZS → Int32 → (ZS × ZS × Int32)) (P_12 : ZS) (S_12 : ZS) (x12_1 : Int32) (hrc12 : ∀ (a0 : ZS) (a1 : ZS) (a2 : Int32), zfrC 100 [] [33] a1 (rc12 a0 a1 a2)) : zfrC 100 [] [33] S_12 (fMO_faultOf_12 rc12 P_12 S_12 x12_1) := by
  unfold fMO_faultOf_12
  have hS_12 : zfr 100 [] [33] S_12 S_12 := zfr.rf
  refine zq_l (fun k23 => ?_)
  refine zq_if ?_ ?_
  · skip
    exact zfr.c hS_12 (z_fMO_faultOf_72   7 _ _ _ _) (fun _ h => h) (fun _ h => h)
  · skip
    exact zfr.c hS_12 (z_fMO_faultOf_24 rc12 hrc12 7 _ _ _ _ _) (fun _ h => h) (fun _ h => h)
theorem z_fMO_faultOf_12  : ∀ (n : Nat) (P_12 : ZS) (S_12 : ZS) (x12_1 : Int32), zfrC 100 [] [33] S_12 (zfix (fun P9 S9 _ => (P9, S9, 0)) (fMO_faultOf_12 ) n P_12 S_12 x12_1) := by
  intro n
  induction n with
  | zero => intro P_12 S_12 x12_1; rw [zfix_0]; exact zfr.rf
  | succ n ih => intro P_12 S_12 x12_1; rw [zfix_s]; exact q_fMO_faultOf_12  _ _ _ _  ih
theorem q_fMO_faultOf (P S : ZS) : zfrC 100 [] [33] S (fMO_faultOf P S) := by
  unfold fMO_faultOf
  have hS : zfr 100 [] [33] S S := zfr.rf
  refine zq_l (fun k24 => ?_)
  refine zq_if ?_ ?_
  · skip
    exact hS
  · skip
    exact zfr.c hS (z_fMO_faultOf_12   49 _ _ _) (fun _ h => h) (fun _ h => h)
theorem q_fMO_change (P S : ZS) (x0 : Int32) (x1 : Int32) (x2 : Int32) : zfrA 100 [] [10, 14] S (fMO_change P S x0 x1 x2) := by
  unfold fMO_change
  have hS : zfr 100 [] [10, 14] S S := zfr.rf
  refine zq_l (fun k2 => ?_)
  refine zq_l (fun k3 => ?_)
  refine zq_if ?_ ?_
  · skip
    exact hS
  · skip
    refine zq_l (fun k5 => ?_)
    refine zq_s (hS.F (by decide)) (fun S6 hS6 => ?_)
    refine zq_l (fun k8 => ?_)
    refine zq_l (fun k10 => ?_)
    refine zq_s (hS6.F (by decide)) (fun S11 hS11 => ?_)
    exact hS11
theorem q_fMO_endAll_55 (P : ZS) (rc3 : ZS → Int32 → Int32 → Int32 → Int32 → (ZS)) (S_55 : ZS) (x55_1 : Int32) (x55_2 : Int32) (x55_3 : Int32) (x55_4 : Int32) (hrc3 : ∀ (a0 : ZS) (a1 : Int32) (a2 : Int32) (a3 : Int32) (a4 : Int32), zfrA 100 [] [10, 14] a0 (rc3 a0 a1 a2 a3 a4)) : zfrA 100 [] [10, 14] S_55 (fMO_endAll_55 P rc3 S_55 x55_1 x55_2 x55_3 x55_4) := by
  unfold fMO_endAll_55
  have hS_55 : zfr 100 [] [10, 14] S_55 S_55 := zfr.rf
  refine zq_l (fun k1 => ?_)
  exact zfr.c hS_55 (hrc3 _ _ _ _ _) (fun _ h => h) (fun _ h => h)
theorem q_fMO_endAll_3 (P : ZS) (rc3 : ZS → Int32 → Int32 → Int32 → Int32 → (ZS)) (S_3 : ZS) (x3_1 : Int32) (x3_2 : Int32) (x3_3 : Int32) (x3_4 : Int32) (hrc3 : ∀ (a0 : ZS) (a1 : Int32) (a2 : Int32) (a3 : Int32) (a4 : Int32), zfrA 100 [] [10, 14] a0 (rc3 a0 a1 a2 a3 a4)) : zfrA 100 [] [10, 14] S_3 (fMO_endAll_3 P rc3 S_3 x3_1 x3_2 x3_3 x3_4) := by
  unfold fMO_endAll_3
  have hS_3 : zfr 100 [] [10, 14] S_3 S_3 := zfr.rf
  refine zq_if ?_ ?_
  · skip
    exact hS_3
  · skip
    refine zq_l (fun k3 => ?_)
    refine zq_l (fun k4 => ?_)
    refine zq_l (fun k5 => ?_)
    refine zq_l (fun k6 => ?_)
    refine zq_if ?_ ?_
    · skip
      exact zfr.c hS_3 (q_fMO_endAll_55 _ rc3 _ _ _ _ _ hrc3) (fun _ h => h) (fun _ h => h)
    · skip
      refine zq_l (fun k8 => ?_)
      refine zq_l (fun k9 => ?_)
      refine zq_l (fun k10 => ?_)
      refine zq_l (fun k11 => ?_)
      refine zq_s (hS_3.c (q_fMO_change _ _ _ _ _) (by decide) (by decide)) (fun S13 hS13 => ?_)
      exact zfr.c hS13 (q_fMO_endAll_55 _ rc3 _ _ _ _ _ hrc3) (fun _ h => h) (fun _ h => h)
theorem z_fMO_endAll_3 (P : ZS) : ∀ (n : Nat) (S_3 : ZS) (x3_1 : Int32) (x3_2 : Int32) (x3_3 : Int32) (x3_4 : Int32), zfrA 100 [] [10, 14] S_3 (zfix (fun S9 _ _ _ _ => S9) (fMO_endAll_3 P) n S_3 x3_1 x3_2 x3_3 x3_4) := by
  intro n
  induction n with
  | zero => intro S_3 x3_1 x3_2 x3_3 x3_4; rw [zfix_0]; exact zfr.rf
  | succ n ih => intro S_3 x3_1 x3_2 x3_3 x3_4; rw [zfix_s]; exact q_fMO_endAll_3 P _ _ _ _ _ _  ih
theorem q_fMO_endAll (P S : ZS) (x0 : Int32) (x1 : Int32) (x2 : Int32) : zfrA 100 [] [10, 14] S (fMO_endAll P S x0 x1 x2) := by
  unfold fMO_endAll
  have hS : zfr 100 [] [10, 14] S S := zfr.rf
  exact zfr.c hS (z_fMO_endAll_3 P  3 _ _ _ _ _) (fun _ h => h) (fun _ h => h)
theorem q_fMO_begins (P S : ZS) (x0 : Int32) (x1 : Int32) (x2 : Int32) : zfrA 100 [] [10, 11, 14] S (fMO_begins P S x0 x1 x2) := by
  unfold fMO_begins
  have hS : zfr 100 [] [10, 11, 14] S S := zfr.rf
  refine zq_l (fun k1 => ?_)
  refine zq_l (fun k3 => ?_)
  refine zq_l (fun k4 => ?_)
  refine zq_l (fun k5 => ?_)
  refine zq_s (hS.c (q_fMO_change _ _ _ _ _) (by decide) (by decide)) (fun S7 hS7 => ?_)
  refine zq_l (fun k10 => ?_)
  refine zq_if ?_ ?_
  · skip
    exact hS7
  · skip
    refine zq_s (hS7.c (q_fMO_endAll _ _ _ _ _) (by decide) (by decide)) (fun S12 hS12 => ?_)
    refine zq_s (hS12.F (by decide)) (fun S14 hS14 => ?_)
    exact hS14
theorem q_fMO_ends (P S : ZS) (x0 : Int32) (x1 : Int32) (x2 : Int32) : zfrA 100 [] [10, 13, 14] S (fMO_ends P S x0 x1 x2) := by
  unfold fMO_ends
  have hS : zfr 100 [] [10, 13, 14] S S := zfr.rf
  refine zq_l (fun k2 => ?_)
  refine zq_l (fun k3 => ?_)
  refine zq_l (fun k4 => ?_)
  refine zq_l (fun k5 => ?_)
  refine zq_l (fun k6 => ?_)
  refine zq_s (hS.c (q_fMO_change _ _ _ _ _) (by decide) (by decide)) (fun S8 hS8 => ?_)
  refine zq_l (fun k10 => ?_)
  refine zq_l (fun k12 => ?_)
  refine zq_l (fun k13 => ?_)
  refine zq_l (fun k14 => ?_)
  refine zq_l (fun k15 => ?_)
  refine zq_s (hS8.F (by decide)) (fun S16 hS16 => ?_)
  exact hS16
theorem q_fMO_say (P S : ZS) (x0 : Int32) (x1 : Int32) (x2 : Int32) (x3 : Int32) : zfrA 100 [11, 12, 13, 14] [] S (fMO_say P S x0 x1 x2 x3) := by
  unfold fMO_say
  have hS : zfr 100 [11, 12, 13, 14] [] S S := zfr.rf
  refine zq_s (hS.I (by decide)) (fun S1 hS1 => ?_)
  refine zq_s (hS1.I (by decide)) (fun S3 hS3 => ?_)
  refine zq_s (hS3.I (by decide)) (fun S5 hS5 => ?_)
  refine zq_s (hS5.I (by decide)) (fun S7 hS7 => ?_)
  exact hS7
theorem q_fMO_put_28 (P : ZS) (S_28 : ZS) (y28_0 : Int32) (y28_1 : Int32) : zfrA 100 [5, 8] [23, 24, 25, 26, 27] S_28 (fMO_put_28 P S_28 y28_0 y28_1) := by
  unfold fMO_put_28
  have hS_28 : zfr 100 [5, 8] [23, 24, 25, 26, 27] S_28 S_28 := zfr.rf
  refine zq_l (fun k1 => ?_)
  refine zq_l (fun k2 => ?_)
  refine zq_if ?_ ?_
  · skip
    refine zq_l (fun k22 => ?_)
    refine zq_l (fun k23 => ?_)
    refine zq_s (hS_28.I (by decide)) (fun S24 hS24 => ?_)
    refine zq_s (hS24.I (by decide)) (fun S26 hS26 => ?_)
    exact hS26
  · skip
    refine zq_l (fun k3 => ?_)
    refine zq_l (fun k4 => ?_)
    refine zq_l (fun k5 => ?_)
    refine zq_l (fun k6 => ?_)
    refine zq_s (hS_28.F (by decide)) (fun S7 hS7 => ?_)
    refine zq_l (fun k9 => ?_)
    refine zq_s (hS7.F (by decide)) (fun S10 hS10 => ?_)
    refine zq_l (fun k12 => ?_)
    refine zq_s (hS10.F (by decide)) (fun S13 hS13 => ?_)
    refine zq_l (fun k15 => ?_)
    refine zq_s (hS13.F (by decide)) (fun S16 hS16 => ?_)
    refine zq_l (fun k18 => ?_)
    refine zq_l (fun k19 => ?_)
    refine zq_s (hS16.F (by decide)) (fun S20 hS20 => ?_)
    exact hS20
theorem q_fMO_put (P S : ZS) (x0 : Int32) (x1 : Int32) : zfrA 100 [5, 8] [23, 24, 25, 26, 27] S (fMO_put P S x0 x1) := by
  unfold fMO_put
  have hS : zfr 100 [5, 8] [23, 24, 25, 26, 27] S S := zfr.rf
  refine zq_l (fun k28 => ?_)
  refine zq_if ?_ ?_
  · skip
    refine zq_l (fun k29 => ?_)
    refine zq_l (fun k30 => ?_)
    refine zq_if ?_ ?_
    · skip
      exact zfr.c hS (q_fMO_put_28 _ _ _ _ ) (fun _ h => h) (fun _ h => h)
    · skip
      exact zfr.c hS (q_fMO_put_28 _ _ _ _ ) (fun _ h => h) (fun _ h => h)
  · skip
    exact hS
theorem q_fMO_putAll_36 (P : ZS) (rc2 : ZS → Int32 → Int32 → Int32 → (ZS)) (S_36 : ZS) (x36_1 : Int32) (x36_2 : Int32) (x36_3 : Int32) (hrc2 : ∀ (a0 : ZS) (a1 : Int32) (a2 : Int32) (a3 : Int32), zfrA 100 [5, 8] [23, 24, 25, 26, 27] a0 (rc2 a0 a1 a2 a3)) : zfrA 100 [5, 8] [23, 24, 25, 26, 27] S_36 (fMO_putAll_36 P rc2 S_36 x36_1 x36_2 x36_3) := by
  unfold fMO_putAll_36
  have hS_36 : zfr 100 [5, 8] [23, 24, 25, 26, 27] S_36 S_36 := zfr.rf
  refine zq_l (fun k1 => ?_)
  exact zfr.c hS_36 (hrc2 _ _ _ _) (fun _ h => h) (fun _ h => h)
theorem q_fMO_putAll_2 (P : ZS) (rc2 : ZS → Int32 → Int32 → Int32 → (ZS)) (S_2 : ZS) (x2_1 : Int32) (x2_2 : Int32) (x2_3 : Int32) (hrc2 : ∀ (a0 : ZS) (a1 : Int32) (a2 : Int32) (a3 : Int32), zfrA 100 [5, 8] [23, 24, 25, 26, 27] a0 (rc2 a0 a1 a2 a3)) : zfrA 100 [5, 8] [23, 24, 25, 26, 27] S_2 (fMO_putAll_2 P rc2 S_2 x2_1 x2_2 x2_3) := by
  unfold fMO_putAll_2
  have hS_2 : zfr 100 [5, 8] [23, 24, 25, 26, 27] S_2 S_2 := zfr.rf
  refine zq_if ?_ ?_
  · skip
    exact hS_2
  · skip
    refine zq_l (fun k3 => ?_)
    refine zq_l (fun k4 => ?_)
    refine zq_l (fun k5 => ?_)
    refine zq_l (fun k6 => ?_)
    refine zq_if ?_ ?_
    · skip
      exact zfr.c hS_2 (q_fMO_putAll_36 _ rc2 _ _ _ _ hrc2) (fun _ h => h) (fun _ h => h)
    · skip
      refine zq_s (hS_2.c (q_fMO_put _ _ _ _) (by decide) (by decide)) (fun S8 hS8 => ?_)
      exact zfr.c hS8 (q_fMO_putAll_36 _ rc2 _ _ _ _ hrc2) (fun _ h => h) (fun _ h => h)
theorem z_fMO_putAll_2 (P : ZS) : ∀ (n : Nat) (S_2 : ZS) (x2_1 : Int32) (x2_2 : Int32) (x2_3 : Int32), zfrA 100 [5, 8] [23, 24, 25, 26, 27] S_2 (zfix (fun S9 _ _ _ => S9) (fMO_putAll_2 P) n S_2 x2_1 x2_2 x2_3) := by
  intro n
  induction n with
  | zero => intro S_2 x2_1 x2_2 x2_3; rw [zfix_0]; exact zfr.rf
  | succ n ih => intro S_2 x2_1 x2_2 x2_3; rw [zfix_s]; exact q_fMO_putAll_2 P _ _ _ _ _  ih
theorem q_fMO_putAll (P S : ZS) (x0 : Int32) (x1 : Int32) : zfrA 100 [5, 8] [23, 24, 25, 26, 27] S (fMO_putAll P S x0 x1) := by
  unfold fMO_putAll
  have hS : zfr 100 [5, 8] [23, 24, 25, 26, 27] S S := zfr.rf
  exact zfr.c hS (z_fMO_putAll_2 P  3 _ _ _ _) (fun _ h => h) (fun _ h => h)
theorem q_fMO_news_101 (P : ZS) (rc80 : ZS → Int32 → Int32 → Int32 → (ZS)) (S_101 : ZS) (x101_1 : Int32) (x101_4 : Int32) (x101_5 : Int32) (hrc80 : ∀ (a0 : ZS) (a1 : Int32) (a2 : Int32) (a3 : Int32), zfrA 100 [5, 8] [23, 24, 25, 26, 27] a0 (rc80 a0 a1 a2 a3)) : zfrA 100 [5, 8] [23, 24, 25, 26, 27] S_101 (fMO_news_101 P rc80 S_101 x101_1 x101_4 x101_5) := by
  unfold fMO_news_101
  have hS_101 : zfr 100 [5, 8] [23, 24, 25, 26, 27] S_101 S_101 := zfr.rf
  refine zq_l (fun k1 => ?_)
  exact zfr.c hS_101 (hrc80 _ _ _ _) (fun _ h => h) (fun _ h => h)
theorem q_fMO_news_80 (P : ZS) (rc80 : ZS → Int32 → Int32 → Int32 → (ZS)) (S_80 : ZS) (x80_1 : Int32) (x80_4 : Int32) (x80_5 : Int32) (hrc80 : ∀ (a0 : ZS) (a1 : Int32) (a2 : Int32) (a3 : Int32), zfrA 100 [5, 8] [23, 24, 25, 26, 27] a0 (rc80 a0 a1 a2 a3)) : zfrA 100 [5, 8] [23, 24, 25, 26, 27] S_80 (fMO_news_80 P rc80 S_80 x80_1 x80_4 x80_5) := by
  unfold fMO_news_80
  have hS_80 : zfr 100 [5, 8] [23, 24, 25, 26, 27] S_80 S_80 := zfr.rf
  refine zq_if ?_ ?_
  · skip
    exact hS_80
  · skip
    refine zq_if ?_ ?_
    · skip
      exact zfr.c hS_80 (q_fMO_news_101 _ rc80 _ _ _ _ hrc80) (fun _ h => h) (fun _ h => h)
    · skip
      refine zq_s (hS_80.c (q_fMO_putAll _ _ _ _) (by decide) (by decide)) (fun S3 hS3 => ?_)
      exact zfr.c hS3 (q_fMO_news_101 _ rc80 _ _ _ _ hrc80) (fun _ h => h) (fun _ h => h)
theorem z_fMO_news_80 (P : ZS) : ∀ (n : Nat) (S_80 : ZS) (x80_1 : Int32) (x80_4 : Int32) (x80_5 : Int32), zfrA 100 [5, 8] [23, 24, 25, 26, 27] S_80 (zfix (fun S9 _ _ _ => S9) (fMO_news_80 P) n S_80 x80_1 x80_4 x80_5) := by
  intro n
  induction n with
  | zero => intro S_80 x80_1 x80_4 x80_5; rw [zfix_0]; exact zfr.rf
  | succ n ih => intro S_80 x80_1 x80_4 x80_5; rw [zfix_s]; exact q_fMO_news_80 P _ _ _ _ _  ih
theorem q_fMO_news_41 (P : ZS) (rc41 : ZS → Int32 → Int32 → Int32 → Int32 → Int32 → (ZS)) (S_41 : ZS) (x41_1 : Int32) (x41_2 : Int32) (x41_3 : Int32) (x41_4 : Int32) (x41_5 : Int32) (hrc41 : ∀ (a0 : ZS) (a1 : Int32) (a2 : Int32) (a3 : Int32) (a4 : Int32) (a5 : Int32), zfrA 100 [5, 8, 11, 12, 13, 14] [20, 23, 24, 25, 26, 27] a0 (rc41 a0 a1 a2 a3 a4 a5)) : zfrA 100 [5, 8, 11, 12, 13, 14] [20, 23, 24, 25, 26, 27] S_41 (fMO_news_41 P rc41 S_41 x41_1 x41_2 x41_3 x41_4 x41_5) := by
  unfold fMO_news_41
  have hS_41 : zfr 100 [5, 8, 11, 12, 13, 14] [20, 23, 24, 25, 26, 27] S_41 S_41 := zfr.rf
  refine zq_if ?_ ?_
  · skip
    refine zq_s (hS_41.c (q_fMO_say _ _ _ _ _ _) (by decide) (by decide)) (fun S6 hS6 => ?_)
    exact zfr.c hS6 (z_fMO_news_80 P  7 _ _ _ _) (by decide) (by decide)
  · skip
    refine zq_l (fun k8 => ?_)
    refine zq_l (fun k9 => ?_)
    refine zq_s (hS_41.F (by decide)) (fun S10 hS10 => ?_)
    refine zq_l (fun k12 => ?_)
    exact zfr.c hS10 (hrc41 _ _ _ _ _ _) (fun _ h => h) (fun _ h => h)
theorem z_fMO_news_41 (P : ZS) : ∀ (n : Nat) (S_41 : ZS) (x41_1 : Int32) (x41_2 : Int32) (x41_3 : Int32) (x41_4 : Int32) (x41_5 : Int32), zfrA 100 [5, 8, 11, 12, 13, 14] [20, 23, 24, 25, 26, 27] S_41 (zfix (fun S9 _ _ _ _ _ => S9) (fMO_news_41 P) n S_41 x41_1 x41_2 x41_3 x41_4 x41_5) := by
  intro n
  induction n with
  | zero => intro S_41 x41_1 x41_2 x41_3 x41_4 x41_5; rw [zfix_0]; exact zfr.rf
  | succ n ih => intro S_41 x41_1 x41_2 x41_3 x41_4 x41_5; rw [zfix_s]; exact q_fMO_news_41 P _ _ _ _ _ _ _  ih
theorem q_fMO_news (P S : ZS) (x0 : Int32) (x1 : Int32) (x2 : Int32) (x3 : Int32) : zfrA 100 [5, 8, 11, 12, 13, 14] [18, 19, 20, 23, 24, 25, 26, 27] S (fMO_news P S x0 x1 x2 x3) := by
  unfold fMO_news
  have hS : zfr 100 [5, 8, 11, 12, 13, 14] [18, 19, 20, 23, 24, 25, 26, 27] S S := zfr.rf
  refine zq_l (fun k13 => ?_)
  refine zq_l (fun k14 => ?_)
  refine zq_l (fun k15 => ?_)
  refine zq_if ?_ ?_
  · skip
    refine zq_l (fun k16 => ?_)
    refine zq_l (fun k17 => ?_)
    refine zq_s (hS.F (by decide)) (fun S18 hS18 => ?_)
    refine zq_l (fun k20 => ?_)
    refine zq_l (fun k21 => ?_)
    refine zq_s (hS18.F (by decide)) (fun S22 hS22 => ?_)
    exact zfr.c hS22 (z_fMO_news_41 P  257 _ _ _ _ _ _) (by decide) (by decide)
  · skip
    exact hS
theorem q_fMO_takeHold (P S : ZS) (x0 : Int32) : zfrA 100 [5, 8, 11, 12, 13, 14] [10, 11, 12, 14, 18, 19, 20, 23, 24, 25, 26, 27] S (fMO_takeHold P S x0) := by
  unfold fMO_takeHold
  have hS : zfr 100 [5, 8, 11, 12, 13, 14] [10, 11, 12, 14, 18, 19, 20, 23, 24, 25, 26, 27] S S := zfr.rf
  refine zq_l (fun k1 => ?_)
  refine zq_l (fun k2 => ?_)
  refine zq_l (fun k3 => ?_)
  refine zq_l (fun k5 => ?_)
  refine zq_l (fun k6 => ?_)
  refine zq_l (fun k7 => ?_)
  refine zq_s (hS.c (q_fMO_change _ _ _ _ _) (by decide) (by decide)) (fun S9 hS9 => ?_)
  refine zq_s (hS9.F (by decide)) (fun S11 hS11 => ?_)
  refine zq_l (fun k13 => ?_)
  refine zq_l (fun k14 => ?_)
  refine zq_s (hS11.F (by decide)) (fun S15 hS15 => ?_)
  refine zq_l (fun k17 => ?_)
  refine zq_l (fun k18 => ?_)
  refine zq_l (fun k19 => ?_)
  refine zq_s (hS15.c (q_fMO_news _ _ _ _ _ _) (by decide) (by decide)) (fun S21 hS21 => ?_)
  exact hS21
theorem q_fMO_endCommand (P S : ZS) (x0 : Int32) (x1 : Int32) : zfrB 100 [8] [10, 13, 14, 15] S (fMO_endCommand P S x0 x1) := by
  unfold fMO_endCommand
  have hS : zfr 100 [8] [10, 13, 14, 15] S S := zfr.rf
  refine zq_l (fun k2 => ?_)
  refine zq_l (fun k3 => ?_)
  refine zq_if ?_ ?_
  · skip
    exact hS
  · skip
    refine zq_l (fun k4 => ?_)
    refine zq_l (fun k5 => ?_)
    refine zq_s (hS.c (q_fMO_ends _ _ _ _ _) (by decide) (by decide)) (fun S7 hS7 => ?_)
    refine zq_s (hS7.F (by decide)) (fun S9 hS9 => ?_)
    refine zq_s (hS9.I (by decide)) (fun S11 hS11 => ?_)
    exact hS11
theorem q_fMO_hears_171 (P : ZS) (S_171 : ZS) (x171_1 : Int32) (x171_2 : Int32) (y171_0 : Int32) : zfrA 100 [8] [10, 13, 14, 15] S_171 (fMO_hears_171 P S_171 x171_1 x171_2 y171_0) := by
  unfold fMO_hears_171
  have hS_171 : zfr 100 [8] [10, 13, 14, 15] S_171 S_171 := zfr.rf
  refine zq_if ?_ ?_
  · skip
    exact hS_171
  · skip
    refine zq_2 (hS_171.c (q_fMO_endCommand _ _ _ _) (by decide) (by decide)) (fun S3 k2 hS3 => ?_)
    exact hS3
theorem q_fMO_hears_166 (P : ZS) (S_166 : ZS) (x166_1 : Int32) (x166_2 : Int32) : zfrA 100 [8] [10, 13, 14, 15] S_166 (fMO_hears_166 P S_166 x166_1 x166_2) := by
  unfold fMO_hears_166
  have hS_166 : zfr 100 [8] [10, 13, 14, 15] S_166 S_166 := zfr.rf
  exact zfr.c hS_166 (q_fMO_hears_171 _ _ _ _ _ ) (fun _ h => h) (fun _ h => h)
theorem q_fMO_hears_170 (P : ZS) (S_170 : ZS) (x170_1 : Int32) (x170_2 : Int32) : zfrA 100 [8] [10, 13, 14, 15] S_170 (fMO_hears_170 P S_170 x170_1 x170_2) := by
  unfold fMO_hears_170
  have hS_170 : zfr 100 [8] [10, 13, 14, 15] S_170 S_170 := zfr.rf
  exact zfr.c hS_170 (q_fMO_hears_171 _ _ _ _ _ ) (fun _ h => h) (fun _ h => h)
theorem q_fMO_hears_155 (P : ZS) (S_155 : ZS) (x155_1 : Int32) (x155_2 : Int32) (x155_3 : Int32) (x155_5 : Int32) : zfrA 100 [8] [10, 13, 14, 15] S_155 (fMO_hears_155 P S_155 x155_1 x155_2 x155_3 x155_5) := by
  unfold fMO_hears_155
  have hS_155 : zfr 100 [8] [10, 13, 14, 15] S_155 S_155 := zfr.rf
  refine zq_if ?_ ?_
  · skip
    refine zq_if ?_ ?_
    · skip
      exact zfr.c hS_155 (q_fMO_hears_166 _ _ _ _ ) (fun _ h => h) (fun _ h => h)
    · skip
      exact zfr.c hS_155 (q_fMO_hears_170 _ _ _ _ ) (fun _ h => h) (fun _ h => h)
  · skip
    exact zfr.c hS_155 (q_fMO_hears_170 _ _ _ _ ) (fun _ h => h) (fun _ h => h)
theorem q_fMO_hears_131 (P : ZS) (S_131 : ZS) (x131_1 : Int32) (x131_2 : Int32) (x131_3 : Int32) (x131_4 : Int32) (x131_5 : Int32) (y131_0 : Int32) : zfrA 100 [8] [10, 13, 14, 15] S_131 (fMO_hears_131 P S_131 x131_1 x131_2 x131_3 x131_4 x131_5 y131_0) := by
  unfold fMO_hears_131
  have hS_131 : zfr 100 [8] [10, 13, 14, 15] S_131 S_131 := zfr.rf
  refine zq_if ?_ ?_
  · skip
    refine zq_if ?_ ?_
    · skip
      exact zfr.c hS_131 (q_fMO_hears_170 _ _ _ _ ) (fun _ h => h) (fun _ h => h)
    · skip
      refine zq_if ?_ ?_
      · skip
        refine zq_if ?_ ?_
        · skip
          exact zfr.c hS_131 (q_fMO_hears_166 _ _ _ _ ) (fun _ h => h) (fun _ h => h)
        · skip
          exact zfr.c hS_131 (q_fMO_hears_155 _ _ _ _ _ _ ) (fun _ h => h) (fun _ h => h)
      · skip
        exact zfr.c hS_131 (q_fMO_hears_155 _ _ _ _ _ _ ) (fun _ h => h) (fun _ h => h)
  · skip
    exact zfr.c hS_131 (q_fMO_hears_166 _ _ _ _ ) (fun _ h => h) (fun _ h => h)
theorem q_fMO_hears_130 (P : ZS) (S_130 : ZS) (x130_1 : Int32) (x130_2 : Int32) (x130_3 : Int32) (x130_4 : Int32) (x130_5 : Int32) : zfrA 100 [8] [10, 13, 14, 15] S_130 (fMO_hears_130 P S_130 x130_1 x130_2 x130_3 x130_4 x130_5) := by
  unfold fMO_hears_130
  have hS_130 : zfr 100 [8] [10, 13, 14, 15] S_130 S_130 := zfr.rf
  exact zfr.c hS_130 (q_fMO_hears_131 _ _ _ _ _ _ _ _ ) (fun _ h => h) (fun _ h => h)
theorem q_fMO_hears_126 (P : ZS) (S_126 : ZS) (x126_1 : Int32) (x126_2 : Int32) (x126_3 : Int32) (x126_4 : Int32) (x126_5 : Int32) : zfrA 100 [8] [10, 13, 14, 15] S_126 (fMO_hears_126 P S_126 x126_1 x126_2 x126_3 x126_4 x126_5) := by
  unfold fMO_hears_126
  have hS_126 : zfr 100 [8] [10, 13, 14, 15] S_126 S_126 := zfr.rf
  exact zfr.c hS_126 (q_fMO_hears_131 _ _ _ _ _ _ _ _ ) (fun _ h => h) (fun _ h => h)
theorem q_fMO_hears_91 (P : ZS) (S_91 : ZS) (x91_1 : Int32) (x91_2 : Int32) (x91_3 : Int32) (x91_4 : Int32) : zfrA 100 [8] [10, 13, 14, 15] S_91 (fMO_hears_91 P S_91 x91_1 x91_2 x91_3 x91_4) := by
  unfold fMO_hears_91
  have hS_91 : zfr 100 [8] [10, 13, 14, 15] S_91 S_91 := zfr.rf
  refine zq_s (hS_91.c (q_fMO_endAll _ _ _ _ _) (by decide) (by decide)) (fun S6 hS6 => ?_)
  refine zq_l (fun k9 => ?_)
  refine zq_l (fun k10 => ?_)
  refine zq_if ?_ ?_
  · skip
    refine zq_if ?_ ?_
    · skip
      exact zfr.c hS6 (q_fMO_hears_126 _ _ _ _ _ _ _ ) (fun _ h => h) (fun _ h => h)
    · skip
      refine zq_if ?_ ?_
      · skip
        exact zfr.c hS6 (q_fMO_hears_126 _ _ _ _ _ _ _ ) (fun _ h => h) (fun _ h => h)
      · skip
        exact zfr.c hS6 (q_fMO_hears_130 _ _ _ _ _ _ _ ) (fun _ h => h) (fun _ h => h)
  · skip
    exact zfr.c hS6 (q_fMO_hears_130 _ _ _ _ _ _ _ ) (fun _ h => h) (fun _ h => h)
theorem q_fMO_hears (P S : ZS) (x0 : Int32) (x1 : Int32) (x2 : Int32) (x3 : Int32) : zfrA 100 [8] [10, 11, 13, 14, 15] S (fMO_hears P S x0 x1 x2 x3) := by
  unfold fMO_hears
  have hS : zfr 100 [8] [10, 11, 13, 14, 15] S S := zfr.rf
  refine zq_l (fun k12 => ?_)
  refine zq_l (fun k13 => ?_)
  refine zq_if ?_ ?_
  · skip
    exact hS
  · skip
    refine zq_if ?_ ?_
    · skip
      exact hS
    · skip
      refine zq_if ?_ ?_
      · skip
        refine zq_l (fun k22 => ?_)
        refine zq_if ?_ ?_
        · skip
          exact hS
        · skip
          refine zq_l (fun k24 => ?_)
          refine zq_if ?_ ?_
          · skip
            refine zq_l (fun k25 => ?_)
            refine zq_if ?_ ?_
            · skip
              refine zq_s (hS.F (by decide)) (fun S26 hS26 => ?_)
              exact hS26
            · skip
              exact hS
          · skip
            exact hS
      · skip
        refine zq_if ?_ ?_
        · skip
          exact zfr.c hS (q_fMO_hears_91 _ _ _ _ _ _ ) (by decide) (by decide)
        · skip
          refine zq_l (fun k15 => ?_)
          refine zq_if ?_ ?_
          · skip
            exact zfr.c hS (q_fMO_hears_91 _ _ _ _ _ _ ) (by decide) (by decide)
          · skip
            refine zq_s (hS.c (q_fMO_endAll _ _ _ _ _) (by decide) (by decide)) (fun S17 hS17 => ?_)
            refine zq_s (hS17.F (by decide)) (fun S19 hS19 => ?_)
            exact zfr.c hS19 (q_fMO_hears_91 _ _ _ _ _ _ ) (by decide) (by decide)
theorem q_fMO_arrive_210 (P : ZS) (rc165 : ZS → Int32 → Int32 → Int32 → Int32 → (ZS)) (S_210 : ZS) (x210_3 : Int32) (x210_4 : Int32) (x210_7 : Int32) (x210_8 : Int32) (hrc165 : ∀ (a0 : ZS) (a1 : Int32) (a2 : Int32) (a3 : Int32) (a4 : Int32), zfrA 100 [5, 8] [23, 24, 25, 26, 27] a0 (rc165 a0 a1 a2 a3 a4)) : zfrA 100 [5, 8] [23, 24, 25, 26, 27] S_210 (fMO_arrive_210 P rc165 S_210 x210_3 x210_4 x210_7 x210_8) := by
  unfold fMO_arrive_210
  have hS_210 : zfr 100 [5, 8] [23, 24, 25, 26, 27] S_210 S_210 := zfr.rf
  refine zq_l (fun k1 => ?_)
  exact zfr.c hS_210 (hrc165 _ _ _ _ _) (fun _ h => h) (fun _ h => h)
theorem q_fMO_arrive_165 (P : ZS) (rc165 : ZS → Int32 → Int32 → Int32 → Int32 → (ZS)) (S_165 : ZS) (x165_3 : Int32) (x165_4 : Int32) (x165_7 : Int32) (x165_8 : Int32) (hrc165 : ∀ (a0 : ZS) (a1 : Int32) (a2 : Int32) (a3 : Int32) (a4 : Int32), zfrA 100 [5, 8] [23, 24, 25, 26, 27] a0 (rc165 a0 a1 a2 a3 a4)) : zfrA 100 [5, 8] [23, 24, 25, 26, 27] S_165 (fMO_arrive_165 P rc165 S_165 x165_3 x165_4 x165_7 x165_8) := by
  unfold fMO_arrive_165
  have hS_165 : zfr 100 [5, 8] [23, 24, 25, 26, 27] S_165 S_165 := zfr.rf
  refine zq_if ?_ ?_
  · skip
    exact hS_165
  · skip
    refine zq_l (fun k3 => ?_)
    refine zq_l (fun k4 => ?_)
    refine zq_l (fun k5 => ?_)
    refine zq_l (fun k6 => ?_)
    refine zq_if ?_ ?_
    · skip
      exact zfr.c hS_165 (q_fMO_arrive_210 _ rc165 _ _ _ _ _ hrc165) (fun _ h => h) (fun _ h => h)
    · skip
      refine zq_if ?_ ?_
      · skip
        exact zfr.c hS_165 (q_fMO_arrive_210 _ rc165 _ _ _ _ _ hrc165) (fun _ h => h) (fun _ h => h)
      · skip
        refine zq_s (hS_165.c (q_fMO_put _ _ _ _) (by decide) (by decide)) (fun S8 hS8 => ?_)
        exact zfr.c hS8 (q_fMO_arrive_210 _ rc165 _ _ _ _ _ hrc165) (fun _ h => h) (fun _ h => h)
theorem z_fMO_arrive_165 (P : ZS) : ∀ (n : Nat) (S_165 : ZS) (x165_3 : Int32) (x165_4 : Int32) (x165_7 : Int32) (x165_8 : Int32), zfrA 100 [5, 8] [23, 24, 25, 26, 27] S_165 (zfix (fun S9 _ _ _ _ => S9) (fMO_arrive_165 P) n S_165 x165_3 x165_4 x165_7 x165_8) := by
  intro n
  induction n with
  | zero => intro S_165 x165_3 x165_4 x165_7 x165_8; rw [zfix_0]; exact zfr.rf
  | succ n ih => intro S_165 x165_3 x165_4 x165_7 x165_8; rw [zfix_s]; exact q_fMO_arrive_165 P _ _ _ _ _ _  ih
theorem q_fMO_arrive_130 (P : ZS) (S_130 : ZS) (x130_2 : Int32) (x130_3 : Int32) (x130_4 : Int32) (x130_5 : Int32) (x130_6 : Int32) (x130_7 : Int32) : zfrA 100 [5, 8, 11, 12, 13, 14] [10, 11, 13, 14, 15, 23, 24, 25, 26, 27] S_130 (fMO_arrive_130 P S_130 x130_2 x130_3 x130_4 x130_5 x130_6 x130_7) := by
  unfold fMO_arrive_130
  have hS_130 : zfr 100 [5, 8, 11, 12, 13, 14] [10, 11, 13, 14, 15, 23, 24, 25, 26, 27] S_130 S_130 := zfr.rf
  refine zq_s (hS_130.c (q_fMO_hears _ _ _ _ _ _) (by decide) (by decide)) (fun S11 hS11 => ?_)
  refine zq_l (fun k13 => ?_)
  refine zq_l (fun k14 => ?_)
  refine zq_s (hS11.c (q_fMO_say _ _ _ _ _ _) (by decide) (by decide)) (fun S16 hS16 => ?_)
  exact zfr.c hS16 (z_fMO_arrive_165 P  3 _ _ _ _ _) (by decide) (by decide)
theorem q_fMO_arrive_70 (P : ZS) (S_70 : ZS) (x70_2 : Int32) (x70_3 : Int32) (y70_0 : Int32) : zfrA 100 [5, 8, 11, 12, 13, 14] [10, 11, 13, 14, 15, 18, 19, 20, 23, 24, 25, 26, 27] S_70 (fMO_arrive_70 P S_70 x70_2 x70_3 y70_0) := by
  unfold fMO_arrive_70
  have hS_70 : zfr 100 [5, 8, 11, 12, 13, 14] [10, 11, 13, 14, 15, 18, 19, 20, 23, 24, 25, 26, 27] S_70 S_70 := zfr.rf
  refine zq_l (fun k18 => ?_)
  refine zq_l (fun k19 => ?_)
  refine zq_if ?_ ?_
  · skip
    exact hS_70
  · skip
    refine zq_l (fun k20 => ?_)
    refine zq_if ?_ ?_
    · skip
      exact zfr.c hS_70 (q_fMO_arrive_130 _ _ _ _ _ _ _ _ ) (by decide) (by decide)
    · skip
      refine zq_l (fun k21 => ?_)
      refine zq_l (fun k22 => ?_)
      refine zq_s (hS_70.c (q_fMO_news _ _ _ _ _ _) (by decide) (by decide)) (fun S24 hS24 => ?_)
      exact zfr.c hS24 (q_fMO_arrive_130 _ _ _ _ _ _ _ _ ) (by decide) (by decide)
theorem q_fMO_arrive (P S : ZS) (x0 : Int32) (x1 : Int32) : zfrA 100 [5, 8, 11, 12, 13, 14] [9, 10, 11, 13, 14, 15, 18, 19, 20, 23, 24, 25, 26, 27] S (fMO_arrive P S x0 x1) := by
  unfold fMO_arrive
  have hS : zfr 100 [5, 8, 11, 12, 13, 14] [9, 10, 11, 13, 14, 15, 18, 19, 20, 23, 24, 25, 26, 27] S S := zfr.rf
  refine zq_l (fun k26 => ?_)
  refine zq_l (fun k27 => ?_)
  refine zq_if ?_ ?_
  · skip
    refine zq_l (fun k28 => ?_)
    refine zq_if ?_ ?_
    · skip
      refine zq_l (fun k29 => ?_)
      refine zq_if ?_ ?_
      · skip
        refine zq_l (fun k31 => ?_)
        exact zfr.c hS (q_fMO_arrive_70 _ _ _ _ _ ) (by decide) (by decide)
      · skip
        refine zq_l (fun k30 => ?_)
        exact zfr.c hS (q_fMO_arrive_70 _ _ _ _ _ ) (by decide) (by decide)
    · skip
      refine zq_l (fun k32 => ?_)
      refine zq_l (fun k33 => ?_)
      refine zq_s (hS.F (by decide)) (fun S34 hS34 => ?_)
      refine zq_l (fun k36 => ?_)
      refine zq_l (fun k37 => ?_)
      refine zq_s (hS34.I (by decide)) (fun S38 hS38 => ?_)
      refine zq_s (hS38.I (by decide)) (fun S40 hS40 => ?_)
      exact hS40
  · skip
    exact hS
theorem q_fMO_turn_29 (P : ZS) (rc2 : ZS → Int32 → (ZS)) (rc29 : ZS → Int32 → Int32 → (ZS)) (S_29 : ZS) (x29_1 : Int32) (x29_2 : Int32) (hrc2 : ∀ (a0 : ZS) (a1 : Int32), zfrA 100 [] [23, 28, 29, 30, 31, 32] a0 (rc2 a0 a1)) (hrc29 : ∀ (a0 : ZS) (a1 : Int32) (a2 : Int32), zfrA 100 [] [23, 28, 29, 30, 31, 32] a0 (rc29 a0 a1 a2)) : zfrA 100 [] [23, 28, 29, 30, 31, 32] S_29 (fMO_turn_29 P rc2 rc29 S_29 x29_1 x29_2) := by
  unfold fMO_turn_29
  have hS_29 : zfr 100 [] [23, 28, 29, 30, 31, 32] S_29 S_29 := zfr.rf
  refine zq_l (fun k1 => ?_)
  refine zq_l (fun k2 => ?_)
  refine zq_l (fun k3 => ?_)
  refine zq_if ?_ ?_
  · skip
    refine zq_s (hS_29.F (by decide)) (fun S4 hS4 => ?_)
    refine zq_l (fun k6 => ?_)
    exact zfr.c hS4 (hrc2 _ _) (fun _ h => h) (fun _ h => h)
  · skip
    refine zq_l (fun k7 => ?_)
    refine zq_s (hS_29.F (by decide)) (fun S8 hS8 => ?_)
    refine zq_l (fun k10 => ?_)
    refine zq_s (hS8.F (by decide)) (fun S11 hS11 => ?_)
    refine zq_l (fun k13 => ?_)
    refine zq_s (hS11.F (by decide)) (fun S14 hS14 => ?_)
    refine zq_l (fun k16 => ?_)
    refine zq_s (hS14.F (by decide)) (fun S17 hS17 => ?_)
    refine zq_l (fun k19 => ?_)
    exact zfr.c hS17 (hrc29 _ _ _) (fun _ h => h) (fun _ h => h)
theorem z_fMO_turn_29 (P : ZS) (rc2 : ZS → Int32 → (ZS)) (hrc2 : ∀ (a0 : ZS) (a1 : Int32), zfrA 100 [] [23, 28, 29, 30, 31, 32] a0 (rc2 a0 a1)) : ∀ (n : Nat) (S_29 : ZS) (x29_1 : Int32) (x29_2 : Int32), zfrA 100 [] [23, 28, 29, 30, 31, 32] S_29 (zfix (fun S9 _ _ => S9) (fMO_turn_29 P rc2) n S_29 x29_1 x29_2) := by
  intro n
  induction n with
  | zero => intro S_29 x29_1 x29_2; rw [zfix_0]; exact zfr.rf
  | succ n ih => intro S_29 x29_1 x29_2; rw [zfix_s]; exact q_fMO_turn_29 P rc2 _ _ _ _ hrc2 ih
theorem q_fMO_turn_2 (P : ZS) (rc2 : ZS → Int32 → (ZS)) (S_2 : ZS) (x2_1 : Int32) (hrc2 : ∀ (a0 : ZS) (a1 : Int32), zfrA 100 [] [23, 28, 29, 30, 31, 32] a0 (rc2 a0 a1)) : zfrA 100 [] [23, 28, 29, 30, 31, 32] S_2 (fMO_turn_2 P rc2 S_2 x2_1) := by
  unfold fMO_turn_2
  have hS_2 : zfr 100 [] [23, 28, 29, 30, 31, 32] S_2 S_2 := zfr.rf
  refine zq_l (fun k20 => ?_)
  refine zq_l (fun k21 => ?_)
  refine zq_if ?_ ?_
  · skip
    exact hS_2
  · skip
    refine zq_l (fun k22 => ?_)
    refine zq_s (hS_2.F (by decide)) (fun S23 hS23 => ?_)
    refine zq_l (fun k25 => ?_)
    exact zfr.c hS23 (z_fMO_turn_29 P rc2 hrc2 7681 _ _ _) (fun _ h => h) (fun _ h => h)
theorem z_fMO_turn_2 (P : ZS) : ∀ (n : Nat) (S_2 : ZS) (x2_1 : Int32), zfrA 100 [] [23, 28, 29, 30, 31, 32] S_2 (zfix (fun S9 _ => S9) (fMO_turn_2 P) n S_2 x2_1) := by
  intro n
  induction n with
  | zero => intro S_2 x2_1; rw [zfix_0]; exact zfr.rf
  | succ n ih => intro S_2 x2_1; rw [zfix_s]; exact q_fMO_turn_2 P _ _ _  ih
theorem q_fMO_turn (P S : ZS) : zfrA 100 [] [23, 28, 29, 30, 31, 32] S (fMO_turn P S) := by
  unfold fMO_turn
  have hS : zfr 100 [] [23, 28, 29, 30, 31, 32] S S := zfr.rf
  exact zfr.c hS (z_fMO_turn_2 P  121 _ _) (fun _ h => h) (fun _ h => h)
theorem q_fMO_sends_203 (P : ZS) (S_203 : ZS) (x203_1 : Int32) (x203_2 : Int32) : zfrA 100 [5, 8] [23, 24, 25, 26, 27] S_203 (fMO_sends_203 P S_203 x203_1 x203_2) := by
  unfold fMO_sends_203
  have hS_203 : zfr 100 [5, 8] [23, 24, 25, 26, 27] S_203 S_203 := zfr.rf
  refine zq_s (hS_203.c (q_fMO_putAll _ _ _ _) (by decide) (by decide)) (fun S2 hS2 => ?_)
  exact hS2
theorem q_fMO_sends_60 (P : ZS) (rc12 : ZS → Int32 → Int32 → Int32 → Int32 → Int32 → (ZS)) (S_60 : ZS) (x60_1 : Int32) (x60_2 : Int32) (x60_3 : Int32) (x60_5 : Int32) (y60_0 : Int32) (hrc12 : ∀ (a0 : ZS) (a1 : Int32) (a2 : Int32) (a3 : Int32) (a4 : Int32) (a5 : Int32), zfrA 100 [5, 8, 11, 12, 13, 14] [23, 24, 25, 26, 27] a0 (rc12 a0 a1 a2 a3 a4 a5)) : zfrA 100 [5, 8, 11, 12, 13, 14] [23, 24, 25, 26, 27] S_60 (fMO_sends_60 P rc12 S_60 x60_1 x60_2 x60_3 x60_5 y60_0) := by
  unfold fMO_sends_60
  have hS_60 : zfr 100 [5, 8, 11, 12, 13, 14] [23, 24, 25, 26, 27] S_60 S_60 := zfr.rf
  refine zq_l (fun k4 => ?_)
  exact zfr.c hS_60 (hrc12 _ _ _ _ _ _) (fun _ h => h) (fun _ h => h)
theorem q_fMO_sends_58 (P : ZS) (rc12 : ZS → Int32 → Int32 → Int32 → Int32 → Int32 → (ZS)) (S_58 : ZS) (x58_1 : Int32) (x58_2 : Int32) (x58_3 : Int32) (x58_4 : Int32) (x58_5 : Int32) (hrc12 : ∀ (a0 : ZS) (a1 : Int32) (a2 : Int32) (a3 : Int32) (a4 : Int32) (a5 : Int32), zfrA 100 [5, 8, 11, 12, 13, 14] [23, 24, 25, 26, 27] a0 (rc12 a0 a1 a2 a3 a4 a5)) : zfrA 100 [5, 8, 11, 12, 13, 14] [23, 24, 25, 26, 27] S_58 (fMO_sends_58 P rc12 S_58 x58_1 x58_2 x58_3 x58_4 x58_5) := by
  unfold fMO_sends_58
  have hS_58 : zfr 100 [5, 8, 11, 12, 13, 14] [23, 24, 25, 26, 27] S_58 S_58 := zfr.rf
  exact zfr.c hS_58 (q_fMO_sends_60 _ rc12 _ _ _ _ _ _ hrc12) (fun _ h => h) (fun _ h => h)
theorem q_fMO_sends_12 (P : ZS) (rc12 : ZS → Int32 → Int32 → Int32 → Int32 → Int32 → (ZS)) (S_12 : ZS) (x12_1 : Int32) (x12_2 : Int32) (x12_3 : Int32) (x12_4 : Int32) (x12_5 : Int32) (hrc12 : ∀ (a0 : ZS) (a1 : Int32) (a2 : Int32) (a3 : Int32) (a4 : Int32) (a5 : Int32), zfrA 100 [5, 8, 11, 12, 13, 14] [23, 24, 25, 26, 27] a0 (rc12 a0 a1 a2 a3 a4 a5)) : zfrA 100 [5, 8, 11, 12, 13, 14] [23, 24, 25, 26, 27] S_12 (fMO_sends_12 P rc12 S_12 x12_1 x12_2 x12_3 x12_4 x12_5) := by
  unfold fMO_sends_12
  have hS_12 : zfr 100 [5, 8, 11, 12, 13, 14] [23, 24, 25, 26, 27] S_12 S_12 := zfr.rf
  refine zq_if ?_ ?_
  · skip
    refine zq_l (fun k5 => ?_)
    refine zq_if ?_ ?_
    · skip
      refine zq_l (fun k28 => ?_)
      refine zq_l (fun k29 => ?_)
      refine zq_s (hS_12.c (q_fMO_say _ _ _ _ _ _) (by decide) (by decide)) (fun S31 hS31 => ?_)
      exact zfr.c hS31 (q_fMO_sends_203 _ _ _ _ ) (by decide) (by decide)
    · skip
      refine zq_if ?_ ?_
      · skip
        refine zq_l (fun k6 => ?_)
        refine zq_if ?_ ?_
        · skip
          refine zq_l (fun k19 => ?_)
          refine zq_l (fun k20 => ?_)
          refine zq_s (hS_12.c (q_fMO_say _ _ _ _ _ _) (by decide) (by decide)) (fun S22 hS22 => ?_)
          exact zfr.c hS22 (q_fMO_sends_203 _ _ _ _ ) (by decide) (by decide)
        · skip
          refine zq_l (fun k8 => ?_)
          refine zq_if ?_ ?_
          · skip
            refine zq_l (fun k10 => ?_)
            refine zq_if ?_ ?_
            · skip
              exact hS_12
            · skip
              refine zq_l (fun k11 => ?_)
              refine zq_l (fun k12 => ?_)
              refine zq_s (hS_12.c (q_fMO_say _ _ _ _ _ _) (by decide) (by decide)) (fun S14 hS14 => ?_)
              exact zfr.c hS14 (q_fMO_sends_203 _ _ _ _ ) (by decide) (by decide)
          · skip
            refine zq_s (hS_12.c (q_fMO_say _ _ _ _ _ _) (by decide) (by decide)) (fun S17 hS17 => ?_)
            exact zfr.c hS17 (q_fMO_sends_203 _ _ _ _ ) (by decide) (by decide)
      · skip
        refine zq_l (fun k24 => ?_)
        refine zq_s (hS_12.c (q_fMO_say _ _ _ _ _ _) (by decide) (by decide)) (fun S26 hS26 => ?_)
        exact zfr.c hS26 (q_fMO_sends_203 _ _ _ _ ) (by decide) (by decide)
  · skip
    refine zq_l (fun k33 => ?_)
    refine zq_l (fun k34 => ?_)
    refine zq_l (fun k35 => ?_)
    refine zq_if ?_ ?_
    · skip
      exact zfr.c hS_12 (q_fMO_sends_58 _ rc12 _ _ _ _ _ _ hrc12) (fun _ h => h) (fun _ h => h)
    · skip
      refine zq_l (fun k37 => ?_)
      refine zq_l (fun k38 => ?_)
      refine zq_l (fun k39 => ?_)
      refine zq_if ?_ ?_
      · skip
        exact zfr.c hS_12 (q_fMO_sends_58 _ rc12 _ _ _ _ _ _ hrc12) (fun _ h => h) (fun _ h => h)
      · skip
        exact zfr.c hS_12 (q_fMO_sends_60 _ rc12 _ _ _ _ _ _ hrc12) (fun _ h => h) (fun _ h => h)
theorem z_fMO_sends_12 (P : ZS) : ∀ (n : Nat) (S_12 : ZS) (x12_1 : Int32) (x12_2 : Int32) (x12_3 : Int32) (x12_4 : Int32) (x12_5 : Int32), zfrA 100 [5, 8, 11, 12, 13, 14] [23, 24, 25, 26, 27] S_12 (zfix (fun S9 _ _ _ _ _ => S9) (fMO_sends_12 P) n S_12 x12_1 x12_2 x12_3 x12_4 x12_5) := by
  intro n
  induction n with
  | zero => intro S_12 x12_1 x12_2 x12_3 x12_4 x12_5; rw [zfix_0]; exact zfr.rf
  | succ n ih => intro S_12 x12_1 x12_2 x12_3 x12_4 x12_5; rw [zfix_s]; exact q_fMO_sends_12 P _ _ _ _ _ _ _  ih
theorem q_fMO_sends (P S : ZS) (x0 : Int32) (x1 : Int32) : zfrA 100 [5, 8, 11, 12, 13, 14] [23, 24, 25, 26, 27] S (fMO_sends P S x0 x1) := by
  unfold fMO_sends
  have hS : zfr 100 [5, 8, 11, 12, 13, 14] [23, 24, 25, 26, 27] S S := zfr.rf
  refine zq_l (fun k41 => ?_)
  exact zfr.c hS (z_fMO_sends_12 P  3 _ _ _ _ _ _) (fun _ h => h) (fun _ h => h)
theorem q_fMO_tickOf_168 (P : ZS) (S_168 : ZS) (x168_1 : Int32) (x168_2 : Int32) : zfrA 100 [5, 8, 11, 12, 13, 14] [23, 24, 25, 26, 27] S_168 (fMO_tickOf_168 P S_168 x168_1 x168_2) := by
  unfold fMO_tickOf_168
  have hS_168 : zfr 100 [5, 8, 11, 12, 13, 14] [23, 24, 25, 26, 27] S_168 S_168 := zfr.rf
  refine zq_s (hS_168.c (q_fMO_sends _ _ _ _) (by decide) (by decide)) (fun S2 hS2 => ?_)
  exact hS2
theorem q_fMO_tickOf_136 (P : ZS) (S_136 : ZS) (x136_1 : Int32) (x136_2 : Int32) (x136_3 : Int32) : zfrA 100 [5, 8, 11, 12, 13, 14] [14, 23, 24, 25, 26, 27] S_136 (fMO_tickOf_136 P S_136 x136_1 x136_2 x136_3) := by
  unfold fMO_tickOf_136
  have hS_136 : zfr 100 [5, 8, 11, 12, 13, 14] [14, 23, 24, 25, 26, 27] S_136 S_136 := zfr.rf
  refine zq_l (fun k4 => ?_)
  refine zq_l (fun k5 => ?_)
  refine zq_s (hS_136.F (by decide)) (fun S6 hS6 => ?_)
  refine zq_l (fun k8 => ?_)
  refine zq_if ?_ ?_
  · skip
    exact zfr.c hS6 (q_fMO_tickOf_168 _ _ _ _ ) (by decide) (by decide)
  · skip
    refine zq_l (fun k9 => ?_)
    refine zq_l (fun k10 => ?_)
    refine zq_if ?_ ?_
    · skip
      exact zfr.c hS6 (q_fMO_tickOf_168 _ _ _ _ ) (by decide) (by decide)
    · skip
      exact hS6
theorem q_fMO_tickOf_108 (P : ZS) (S_108 : ZS) (x108_1 : Int32) (x108_2 : Int32) (x108_3 : Int32) : zfrA 100 [5, 8, 11, 12, 13, 14] [10, 14, 23, 24, 25, 26, 27] S_108 (fMO_tickOf_108 P S_108 x108_1 x108_2 x108_3) := by
  unfold fMO_tickOf_108
  have hS_108 : zfr 100 [5, 8, 11, 12, 13, 14] [10, 14, 23, 24, 25, 26, 27] S_108 S_108 := zfr.rf
  refine zq_l (fun k11 => ?_)
  refine zq_if ?_ ?_
  · skip
    refine zq_l (fun k13 => ?_)
    refine zq_if ?_ ?_
    · skip
      exact zfr.c hS_108 (q_fMO_tickOf_136 _ _ _ _ _ ) (by decide) (by decide)
    · skip
      refine zq_s (hS_108.c (q_fMO_endAll _ _ _ _ _) (by decide) (by decide)) (fun S15 hS15 => ?_)
      exact zfr.c hS15 (q_fMO_tickOf_136 _ _ _ _ _ ) (by decide) (by decide)
  · skip
    exact zfr.c hS_108 (q_fMO_tickOf_136 _ _ _ _ _ ) (by decide) (by decide)
theorem q_fMO_tickOf_32 (P : ZS) (S_32 : ZS) (x32_1 : Int32) (x32_2 : Int32) (x32_3 : Int32) (y32_0 : Int32) (y32_1 : Int32) : zfrA 100 [5, 8, 11, 12, 13, 14] [10, 11, 12, 13, 14, 18, 19, 20, 23, 24, 25, 26, 27] S_32 (fMO_tickOf_32 P S_32 x32_1 x32_2 x32_3 y32_0 y32_1) := by
  unfold fMO_tickOf_32
  have hS_32 : zfr 100 [5, 8, 11, 12, 13, 14] [10, 11, 12, 13, 14, 18, 19, 20, 23, 24, 25, 26, 27] S_32 S_32 := zfr.rf
  refine zq_s (hS_32.F (by decide)) (fun S17 hS17 => ?_)
  refine zq_l (fun k20 => ?_)
  refine zq_if ?_ ?_
  · skip
    exact zfr.c hS17 (q_fMO_tickOf_108 _ _ _ _ _ ) (by decide) (by decide)
  · skip
    refine zq_l (fun k22 => ?_)
    refine zq_if ?_ ?_
    · skip
      refine zq_l (fun k23 => ?_)
      refine zq_if ?_ ?_
      · skip
        refine zq_l (fun k25 => ?_)
        refine zq_if ?_ ?_
        · skip
          exact zfr.c hS17 (q_fMO_tickOf_108 _ _ _ _ _ ) (by decide) (by decide)
        · skip
          refine zq_s (hS17.F (by decide)) (fun S26 hS26 => ?_)
          exact zfr.c hS26 (q_fMO_tickOf_108 _ _ _ _ _ ) (by decide) (by decide)
      · skip
        refine zq_l (fun k28 => ?_)
        refine zq_l (fun k29 => ?_)
        refine zq_s (hS17.F (by decide)) (fun S30 hS30 => ?_)
        refine zq_l (fun k32 => ?_)
        refine zq_if ?_ ?_
        · skip
          refine zq_s (hS30.c (q_fMO_takeHold _ _ _) (by decide) (by decide)) (fun S34 hS34 => ?_)
          exact zfr.c hS34 (q_fMO_tickOf_108 _ _ _ _ _ ) (by decide) (by decide)
        · skip
          exact zfr.c hS30 (q_fMO_tickOf_108 _ _ _ _ _ ) (by decide) (by decide)
    · skip
      exact zfr.c hS17 (q_fMO_tickOf_108 _ _ _ _ _ ) (by decide) (by decide)
theorem q_fMO_tickOf (P S : ZS) (x0 : Int32) (x1 : Int32) : zfrA 100 [5, 8, 11, 12, 13, 14] [10, 11, 12, 13, 14, 18, 19, 20, 23, 24, 25, 26, 27] S (fMO_tickOf P S x0 x1) := by
  unfold fMO_tickOf
  have hS : zfr 100 [5, 8, 11, 12, 13, 14] [10, 11, 12, 13, 14, 18, 19, 20, 23, 24, 25, 26, 27] S S := zfr.rf
  refine zq_l (fun k37 => ?_)
  refine zq_l (fun k38 => ?_)
  refine zq_if ?_ ?_
  · skip
    exact zfr.c hS (q_fMO_tickOf_32 _ _ _ _ _ _ _ ) (fun _ h => h) (fun _ h => h)
  · skip
    refine zq_l (fun k39 => ?_)
    refine zq_l (fun k40 => ?_)
    exact zfr.c hS (q_fMO_tickOf_32 _ _ _ _ _ _ _ ) (fun _ h => h) (fun _ h => h)
theorem q_fMO_look_100 (P : ZS) (S_100 : ZS) (y100_0 : Int32) (y100_1 : Int32) : zfrA 100 [9] [] S_100 (fMO_look_100 P S_100 y100_0 y100_1) := by
  unfold fMO_look_100
  have hS_100 : zfr 100 [9] [] S_100 S_100 := zfr.rf
  refine zq_l (fun k1 => ?_)
  refine zq_s (hS_100.I (by decide)) (fun S2 hS2 => ?_)
  exact hS2
theorem q_fMO_look_79 (P : ZS) (rc35 : ZS → Int32 → Int32 → (ZS)) (S_79 : ZS) (x79_2 : Int32) (y79_0 : Int32) (hrc35 : ∀ (a0 : ZS) (a1 : Int32) (a2 : Int32), zfrA 100 [9] [33] a0 (rc35 a0 a1 a2)) : zfrA 100 [9] [33] S_79 (fMO_look_79 P rc35 S_79 x79_2 y79_0) := by
  unfold fMO_look_79
  have hS_79 : zfr 100 [9] [33] S_79 S_79 := zfr.rf
  refine zq_l (fun k4 => ?_)
  exact zfr.c hS_79 (hrc35 _ _ _) (fun _ h => h) (fun _ h => h)
theorem q_fMO_look_74 (P : ZS) (rc35 : ZS → Int32 → Int32 → (ZS)) (S_74 : ZS) (x74_2 : Int32) (hrc35 : ∀ (a0 : ZS) (a1 : Int32) (a2 : Int32), zfrA 100 [9] [33] a0 (rc35 a0 a1 a2)) : zfrA 100 [9] [33] S_74 (fMO_look_74 P rc35 S_74 x74_2) := by
  unfold fMO_look_74
  have hS_74 : zfr 100 [9] [33] S_74 S_74 := zfr.rf
  exact zfr.c hS_74 (q_fMO_look_79 _ rc35 _ _ _ hrc35) (fun _ h => h) (fun _ h => h)
theorem q_fMO_look_70 (P : ZS) (rc35 : ZS → Int32 → Int32 → (ZS)) (S_70 : ZS) (x70_1 : Int32) (x70_2 : Int32) (hrc35 : ∀ (a0 : ZS) (a1 : Int32) (a2 : Int32), zfrA 100 [9] [33] a0 (rc35 a0 a1 a2)) : zfrA 100 [9] [33] S_70 (fMO_look_70 P rc35 S_70 x70_1 x70_2) := by
  unfold fMO_look_70
  have hS_70 : zfr 100 [9] [33] S_70 S_70 := zfr.rf
  refine zq_if ?_ ?_
  · skip
    exact zfr.c hS_70 (q_fMO_look_79 _ rc35 _ _ _ hrc35) (fun _ h => h) (fun _ h => h)
  · skip
    exact zfr.c hS_70 (q_fMO_look_74 _ rc35 _ _ hrc35) (fun _ h => h) (fun _ h => h)
theorem q_fMO_look_35 (P : ZS) (rc35 : ZS → Int32 → Int32 → (ZS)) (S_35 : ZS) (x35_1 : Int32) (x35_2 : Int32) (hrc35 : ∀ (a0 : ZS) (a1 : Int32) (a2 : Int32), zfrA 100 [9] [33] a0 (rc35 a0 a1 a2)) : zfrA 100 [9] [33] S_35 (fMO_look_35 P rc35 S_35 x35_1 x35_2) := by
  unfold fMO_look_35
  have hS_35 : zfr 100 [9] [33] S_35 S_35 := zfr.rf
  refine zq_l (fun k5 => ?_)
  refine zq_if ?_ ?_
  · skip
    refine zq_l (fun k6 => ?_)
    refine zq_if ?_ ?_
    · skip
      exact zfr.c hS_35 (q_fMO_look_100 _ _ _ _ ) (by decide) (by decide)
    · skip
      exact zfr.c hS_35 (q_fMO_look_100 _ _ _ _ ) (by decide) (by decide)
  · skip
    refine zq_l (fun k8 => ?_)
    refine zq_if ?_ ?_
    · skip
      exact zfr.c hS_35 (q_fMO_look_70 _ rc35 _ _ _ hrc35) (fun _ h => h) (fun _ h => h)
    · skip
      refine zq_l (fun k9 => ?_)
      refine zq_l (fun k10 => ?_)
      refine zq_2 (hS_35.c (q_fMO_join _ _ _ _) (by decide) (by decide)) (fun S13 k12 hS13 => ?_)
      refine zq_if ?_ ?_
      · skip
        exact zfr.c hS13 (q_fMO_look_74 _ rc35 _ _ hrc35) (fun _ h => h) (fun _ h => h)
      · skip
        exact zfr.c hS13 (q_fMO_look_70 _ rc35 _ _ _ hrc35) (fun _ h => h) (fun _ h => h)
theorem z_fMO_look_35 (P : ZS) : ∀ (n : Nat) (S_35 : ZS) (x35_1 : Int32) (x35_2 : Int32), zfrA 100 [9] [33] S_35 (zfix (fun S9 _ _ => S9) (fMO_look_35 P) n S_35 x35_1 x35_2) := by
  intro n
  induction n with
  | zero => intro S_35 x35_1 x35_2; rw [zfix_0]; exact zfr.rf
  | succ n ih => intro S_35 x35_1 x35_2; rw [zfix_s]; exact q_fMO_look_35 P _ _ _ _  ih
theorem q_fMO_look_10 (P : ZS) (rc10 : ZS → Int32 → (ZS)) (S_10 : ZS) (x10_1 : Int32) (hrc10 : ∀ (a0 : ZS) (a1 : Int32), zfrA 100 [9] [33] a0 (rc10 a0 a1)) : zfrA 100 [9] [33] S_10 (fMO_look_10 P rc10 S_10 x10_1) := by
  unfold fMO_look_10
  have hS_10 : zfr 100 [9] [33] S_10 S_10 := zfr.rf
  refine zq_l (fun k15 => ?_)
  refine zq_if ?_ ?_
  · skip
    exact zfr.c hS_10 (z_fMO_look_35 P  61 _ _ _) (fun _ h => h) (fun _ h => h)
  · skip
    refine zq_s (hS_10.F (by decide)) (fun S16 hS16 => ?_)
    refine zq_l (fun k18 => ?_)
    exact zfr.c hS16 (hrc10 _ _) (fun _ h => h) (fun _ h => h)
theorem z_fMO_look_10 (P : ZS) : ∀ (n : Nat) (S_10 : ZS) (x10_1 : Int32), zfrA 100 [9] [33] S_10 (zfix (fun S9 _ => S9) (fMO_look_10 P) n S_10 x10_1) := by
  intro n
  induction n with
  | zero => intro S_10 x10_1; rw [zfix_0]; exact zfr.rf
  | succ n ih => intro S_10 x10_1; rw [zfix_s]; exact q_fMO_look_10 P _ _ _  ih
theorem q_fMO_look (P S : ZS) : zfrA 100 [9] [33] S (fMO_look P S) := by
  unfold fMO_look
  have hS : zfr 100 [9] [33] S S := zfr.rf
  refine zq_l (fun k19 => ?_)
  refine zq_if ?_ ?_
  · skip
    exact zfr.c hS (z_fMO_look_10 P  49 _ _) (fun _ h => h) (fun _ h => h)
  · skip
    exact hS
theorem q_fMO_tick_183 (P : ZS) (S_183 : ZS) (y183_0 : Int32) (y183_1 : Int32) : zfrA 100 [10] [] S_183 (fMO_tick_183 P S_183 y183_0 y183_1) := by
  unfold fMO_tick_183
  have hS_183 : zfr 100 [10] [] S_183 S_183 := zfr.rf
  refine zq_l (fun k1 => ?_)
  refine zq_s (hS_183.I (by decide)) (fun S2 hS2 => ?_)
  exact hS2
theorem q_fMO_tick_182 (P : ZS) (S_182 : ZS) (y182_0 : Int32) : zfrA 100 [10] [] S_182 (fMO_tick_182 P S_182 y182_0) := by
  unfold fMO_tick_182
  have hS_182 : zfr 100 [10] [] S_182 S_182 := zfr.rf
  exact zfr.c hS_182 (q_fMO_tick_183 _ _ _ _ ) (fun _ h => h) (fun _ h => h)
theorem q_fMO_tick_136 (P : ZS) (S_136 : ZS) (y136_0 : Int32) : zfrA 100 [7, 9, 10] [33] S_136 (fMO_tick_136 P S_136 y136_0) := by
  unfold fMO_tick_136
  have hS_136 : zfr 100 [7, 9, 10] [33] S_136 S_136 := zfr.rf
  refine zq_s (hS_136.I (by decide)) (fun S4 hS4 => ?_)
  refine zq_s (hS4.c (q_fMO_look _ _) (by decide) (by decide)) (fun S7 hS7 => ?_)
  refine zq_l (fun k9 => ?_)
  refine zq_l (fun k10 => ?_)
  refine zq_l (fun k11 => ?_)
  refine zq_l (fun k12 => ?_)
  refine zq_l (fun k13 => ?_)
  refine zq_if ?_ ?_
  · skip
    exact zfr.c hS7 (q_fMO_tick_182 _ _ _ ) (by decide) (by decide)
  · skip
    refine zq_l (fun k15 => ?_)
    refine zq_if ?_ ?_
    · skip
      exact zfr.c hS7 (q_fMO_tick_182 _ _ _ ) (by decide) (by decide)
    · skip
      refine zq_l (fun k17 => ?_)
      refine zq_if ?_ ?_
      · skip
        exact zfr.c hS7 (q_fMO_tick_183 _ _ _ _ ) (by decide) (by decide)
      · skip
        exact zfr.c hS7 (q_fMO_tick_182 _ _ _ ) (by decide) (by decide)
theorem q_fMO_tick_106 (P : ZS) (rc68 : ZS → Int32 → (ZS)) (rc78 : ZS → Int32 → Int32 → (ZS)) (S_106 : ZS) (x106_1 : Int32) (x106_2 : Int32) (hrc68 : ∀ (a0 : ZS) (a1 : Int32), zfrA 100 [5, 7, 8, 9, 10, 11, 12, 13, 14] [10, 11, 12, 13, 14, 18, 19, 20, 23, 24, 25, 26, 27, 33] a0 (rc68 a0 a1)) (hrc78 : ∀ (a0 : ZS) (a1 : Int32) (a2 : Int32), zfrA 100 [5, 7, 8, 9, 10, 11, 12, 13, 14] [10, 11, 12, 13, 14, 18, 19, 20, 23, 24, 25, 26, 27, 33] a0 (rc78 a0 a1 a2)) : zfrA 100 [5, 7, 8, 9, 10, 11, 12, 13, 14] [10, 11, 12, 13, 14, 18, 19, 20, 23, 24, 25, 26, 27, 33] S_106 (fMO_tick_106 P rc68 rc78 S_106 x106_1 x106_2) := by
  unfold fMO_tick_106
  have hS_106 : zfr 100 [5, 7, 8, 9, 10, 11, 12, 13, 14] [10, 11, 12, 13, 14, 18, 19, 20, 23, 24, 25, 26, 27, 33] S_106 S_106 := zfr.rf
  refine zq_l (fun k18 => ?_)
  exact zfr.c hS_106 (hrc78 _ _ _) (fun _ h => h) (fun _ h => h)
theorem q_fMO_tick_78 (P : ZS) (rc68 : ZS → Int32 → (ZS)) (rc78 : ZS → Int32 → Int32 → (ZS)) (S_78 : ZS) (x78_1 : Int32) (x78_2 : Int32) (hrc68 : ∀ (a0 : ZS) (a1 : Int32), zfrA 100 [5, 7, 8, 9, 10, 11, 12, 13, 14] [10, 11, 12, 13, 14, 18, 19, 20, 23, 24, 25, 26, 27, 33] a0 (rc68 a0 a1)) (hrc78 : ∀ (a0 : ZS) (a1 : Int32) (a2 : Int32), zfrA 100 [5, 7, 8, 9, 10, 11, 12, 13, 14] [10, 11, 12, 13, 14, 18, 19, 20, 23, 24, 25, 26, 27, 33] a0 (rc78 a0 a1 a2)) : zfrA 100 [5, 7, 8, 9, 10, 11, 12, 13, 14] [10, 11, 12, 13, 14, 18, 19, 20, 23, 24, 25, 26, 27, 33] S_78 (fMO_tick_78 P rc68 rc78 S_78 x78_1 x78_2) := by
  unfold fMO_tick_78
  have hS_78 : zfr 100 [5, 7, 8, 9, 10, 11, 12, 13, 14] [10, 11, 12, 13, 14, 18, 19, 20, 23, 24, 25, 26, 27, 33] S_78 S_78 := zfr.rf
  refine zq_if ?_ ?_
  · skip
    refine zq_l (fun k19 => ?_)
    exact zfr.c hS_78 (hrc68 _ _) (fun _ h => h) (fun _ h => h)
  · skip
    refine zq_l (fun k21 => ?_)
    refine zq_l (fun k22 => ?_)
    refine zq_l (fun k23 => ?_)
    refine zq_if ?_ ?_
    · skip
      exact zfr.c hS_78 (q_fMO_tick_106 _ rc68 rc78 _ _ _ hrc68 hrc78) (fun _ h => h) (fun _ h => h)
    · skip
      refine zq_s (hS_78.c (q_fMO_tickOf _ _ _ _) (by decide) (by decide)) (fun S25 hS25 => ?_)
      exact zfr.c hS25 (q_fMO_tick_106 _ rc68 rc78 _ _ _ hrc68 hrc78) (fun _ h => h) (fun _ h => h)
theorem z_fMO_tick_78 (P : ZS) (rc68 : ZS → Int32 → (ZS)) (hrc68 : ∀ (a0 : ZS) (a1 : Int32), zfrA 100 [5, 7, 8, 9, 10, 11, 12, 13, 14] [10, 11, 12, 13, 14, 18, 19, 20, 23, 24, 25, 26, 27, 33] a0 (rc68 a0 a1)) : ∀ (n : Nat) (S_78 : ZS) (x78_1 : Int32) (x78_2 : Int32), zfrA 100 [5, 7, 8, 9, 10, 11, 12, 13, 14] [10, 11, 12, 13, 14, 18, 19, 20, 23, 24, 25, 26, 27, 33] S_78 (zfix (fun S9 _ _ => S9) (fMO_tick_78 P rc68) n S_78 x78_1 x78_2) := by
  intro n
  induction n with
  | zero => intro S_78 x78_1 x78_2; rw [zfix_0]; exact zfr.rf
  | succ n ih => intro S_78 x78_1 x78_2; rw [zfix_s]; exact q_fMO_tick_78 P rc68 _ _ _ _ hrc68 ih
theorem q_fMO_tick_68 (P : ZS) (rc68 : ZS → Int32 → (ZS)) (S_68 : ZS) (x68_1 : Int32) (hrc68 : ∀ (a0 : ZS) (a1 : Int32), zfrA 100 [5, 7, 8, 9, 10, 11, 12, 13, 14] [10, 11, 12, 13, 14, 18, 19, 20, 23, 24, 25, 26, 27, 33] a0 (rc68 a0 a1)) : zfrA 100 [5, 7, 8, 9, 10, 11, 12, 13, 14] [10, 11, 12, 13, 14, 18, 19, 20, 23, 24, 25, 26, 27, 33] S_68 (fMO_tick_68 P rc68 S_68 x68_1) := by
  unfold fMO_tick_68
  have hS_68 : zfr 100 [5, 7, 8, 9, 10, 11, 12, 13, 14] [10, 11, 12, 13, 14, 18, 19, 20, 23, 24, 25, 26, 27, 33] S_68 S_68 := zfr.rf
  refine zq_l (fun k27 => ?_)
  refine zq_if ?_ ?_
  · skip
    refine zq_l (fun k28 => ?_)
    refine zq_if ?_ ?_
    · skip
      refine zq_l (fun k29 => ?_)
      refine zq_l (fun k30 => ?_)
      exact zfr.c hS_68 (q_fMO_tick_136 _ _ _ ) (by decide) (by decide)
    · skip
      exact zfr.c hS_68 (q_fMO_tick_136 _ _ _ ) (by decide) (by decide)
  · skip
    exact zfr.c hS_68 (z_fMO_tick_78 P rc68 hrc68 7 _ _ _) (fun _ h => h) (fun _ h => h)
theorem z_fMO_tick_68 (P : ZS) : ∀ (n : Nat) (S_68 : ZS) (x68_1 : Int32), zfrA 100 [5, 7, 8, 9, 10, 11, 12, 13, 14] [10, 11, 12, 13, 14, 18, 19, 20, 23, 24, 25, 26, 27, 33] S_68 (zfix (fun S9 _ => S9) (fMO_tick_68 P) n S_68 x68_1) := by
  intro n
  induction n with
  | zero => intro S_68 x68_1; rw [zfix_0]; exact zfr.rf
  | succ n ih => intro S_68 x68_1; rw [zfix_s]; exact q_fMO_tick_68 P _ _ _  ih
theorem q_fMO_tick_33 (P : ZS) (rc21 : ZS → Int32 → (ZS)) (rc33 : ZS → Int32 → Int32 → (ZS)) (S_33 : ZS) (x33_1 : Int32) (x33_2 : Int32) (hrc21 : ∀ (a0 : ZS) (a1 : Int32), zfrA 100 [5, 7, 8, 9, 10, 11, 12, 13, 14] [9, 10, 11, 12, 13, 14, 15, 18, 19, 20, 23, 24, 25, 26, 27, 33] a0 (rc21 a0 a1)) (hrc33 : ∀ (a0 : ZS) (a1 : Int32) (a2 : Int32), zfrA 100 [5, 7, 8, 9, 10, 11, 12, 13, 14] [9, 10, 11, 12, 13, 14, 15, 18, 19, 20, 23, 24, 25, 26, 27, 33] a0 (rc33 a0 a1 a2)) : zfrA 100 [5, 7, 8, 9, 10, 11, 12, 13, 14] [9, 10, 11, 12, 13, 14, 15, 18, 19, 20, 23, 24, 25, 26, 27, 33] S_33 (fMO_tick_33 P rc21 rc33 S_33 x33_1 x33_2) := by
  unfold fMO_tick_33
  have hS_33 : zfr 100 [5, 7, 8, 9, 10, 11, 12, 13, 14] [9, 10, 11, 12, 13, 14, 15, 18, 19, 20, 23, 24, 25, 26, 27, 33] S_33 S_33 := zfr.rf
  refine zq_l (fun k31 => ?_)
  refine zq_if ?_ ?_
  · skip
    refine zq_l (fun k32 => ?_)
    exact zfr.c hS_33 (hrc21 _ _) (fun _ h => h) (fun _ h => h)
  · skip
    refine zq_l (fun k33 => ?_)
    refine zq_l (fun k34 => ?_)
    refine zq_s (hS_33.c (q_fMO_arrive _ _ _ _) (by decide) (by decide)) (fun S36 hS36 => ?_)
    refine zq_l (fun k38 => ?_)
    exact zfr.c hS36 (hrc33 _ _ _) (fun _ h => h) (fun _ h => h)
theorem z_fMO_tick_33 (P : ZS) (rc21 : ZS → Int32 → (ZS)) (hrc21 : ∀ (a0 : ZS) (a1 : Int32), zfrA 100 [5, 7, 8, 9, 10, 11, 12, 13, 14] [9, 10, 11, 12, 13, 14, 15, 18, 19, 20, 23, 24, 25, 26, 27, 33] a0 (rc21 a0 a1)) : ∀ (n : Nat) (S_33 : ZS) (x33_1 : Int32) (x33_2 : Int32), zfrA 100 [5, 7, 8, 9, 10, 11, 12, 13, 14] [9, 10, 11, 12, 13, 14, 15, 18, 19, 20, 23, 24, 25, 26, 27, 33] S_33 (zfix (fun S9 _ _ => S9) (fMO_tick_33 P rc21) n S_33 x33_1 x33_2) := by
  intro n
  induction n with
  | zero => intro S_33 x33_1 x33_2; rw [zfix_0]; exact zfr.rf
  | succ n ih => intro S_33 x33_1 x33_2; rw [zfix_s]; exact q_fMO_tick_33 P rc21 _ _ _ _ hrc21 ih
theorem q_fMO_tick_21 (P : ZS) (rc21 : ZS → Int32 → (ZS)) (S_21 : ZS) (x21_1 : Int32) (hrc21 : ∀ (a0 : ZS) (a1 : Int32), zfrA 100 [5, 7, 8, 9, 10, 11, 12, 13, 14] [9, 10, 11, 12, 13, 14, 15, 18, 19, 20, 23, 24, 25, 26, 27, 33] a0 (rc21 a0 a1)) : zfrA 100 [5, 7, 8, 9, 10, 11, 12, 13, 14] [9, 10, 11, 12, 13, 14, 15, 18, 19, 20, 23, 24, 25, 26, 27, 33] S_21 (fMO_tick_21 P rc21 S_21 x21_1) := by
  unfold fMO_tick_21
  have hS_21 : zfr 100 [5, 7, 8, 9, 10, 11, 12, 13, 14] [9, 10, 11, 12, 13, 14, 15, 18, 19, 20, 23, 24, 25, 26, 27, 33] S_21 S_21 := zfr.rf
  refine zq_l (fun k39 => ?_)
  refine zq_l (fun k40 => ?_)
  refine zq_if ?_ ?_
  · skip
    exact zfr.c hS_21 (z_fMO_tick_68 P  49 _ _) (by decide) (by decide)
  · skip
    exact zfr.c hS_21 (z_fMO_tick_33 P rc21 hrc21 65 _ _ _) (fun _ h => h) (fun _ h => h)
theorem z_fMO_tick_21 (P : ZS) : ∀ (n : Nat) (S_21 : ZS) (x21_1 : Int32), zfrA 100 [5, 7, 8, 9, 10, 11, 12, 13, 14] [9, 10, 11, 12, 13, 14, 15, 18, 19, 20, 23, 24, 25, 26, 27, 33] S_21 (zfix (fun S9 _ => S9) (fMO_tick_21 P) n S_21 x21_1) := by
  intro n
  induction n with
  | zero => intro S_21 x21_1; rw [zfix_0]; exact zfr.rf
  | succ n ih => intro S_21 x21_1; rw [zfix_s]; exact q_fMO_tick_21 P _ _ _  ih
theorem q_fMO_tick (P S : ZS) : zfrA 100 [4, 5, 7, 8, 9, 10, 11, 12, 13, 14] [9, 10, 11, 12, 13, 14, 15, 18, 19, 20, 23, 24, 25, 26, 27, 28, 29, 30, 31, 32, 33] S (fMO_tick P S) := by
  unfold fMO_tick
  have hS : zfr 100 [4, 5, 7, 8, 9, 10, 11, 12, 13, 14] [9, 10, 11, 12, 13, 14, 15, 18, 19, 20, 23, 24, 25, 26, 27, 28, 29, 30, 31, 32, 33] S S := zfr.rf
  refine zq_l (fun k41 => ?_)
  refine zq_l (fun k42 => ?_)
  refine zq_s (hS.I (by decide)) (fun S43 hS43 => ?_)
  refine zq_s (hS43.I (by decide)) (fun S45 hS45 => ?_)
  refine zq_s (hS45.c (q_fMO_turn _ _) (by decide) (by decide)) (fun S48 hS48 => ?_)
  exact zfr.c hS48 (z_fMO_tick_21 P  121 _ _) (by decide) (by decide)
theorem q_fMO_ticks_52 (P : ZS) (rc52 : ZS → Int32 → Int32 → (ZS × Int32)) (S_52 : ZS) (x52_1 : Int32) (x52_2 : Int32) (hrc52 : ∀ (a0 : ZS) (a1 : Int32) (a2 : Int32), zfrB 100 [4, 5, 7, 8, 9, 10, 11, 12, 13, 14] [9, 10, 11, 12, 13, 14, 15, 18, 19, 20, 23, 24, 25, 26, 27, 28, 29, 30, 31, 32, 33] a0 (rc52 a0 a1 a2)) : zfrB 100 [4, 5, 7, 8, 9, 10, 11, 12, 13, 14] [9, 10, 11, 12, 13, 14, 15, 18, 19, 20, 23, 24, 25, 26, 27, 28, 29, 30, 31, 32, 33] S_52 (fMO_ticks_52 P rc52 S_52 x52_1 x52_2) := by
  unfold fMO_ticks_52
  have hS_52 : zfr 100 [4, 5, 7, 8, 9, 10, 11, 12, 13, 14] [9, 10, 11, 12, 13, 14, 15, 18, 19, 20, 23, 24, 25, 26, 27, 28, 29, 30, 31, 32, 33] S_52 S_52 := zfr.rf
  refine zq_if ?_ ?_
  · skip
    refine zq_l (fun k1 => ?_)
    exact hS_52
  · skip
    refine zq_s (hS_52.c (q_fMO_tick _ _) (by decide) (by decide)) (fun S3 hS3 => ?_)
    refine zq_l (fun k5 => ?_)
    exact zfr.c hS3 (hrc52 _ _ _) (fun _ h => h) (fun _ h => h)
theorem z_fMO_ticks_52 (P : ZS) : ∀ (n : Nat) (S_52 : ZS) (x52_1 : Int32) (x52_2 : Int32), zfrB 100 [4, 5, 7, 8, 9, 10, 11, 12, 13, 14] [9, 10, 11, 12, 13, 14, 15, 18, 19, 20, 23, 24, 25, 26, 27, 28, 29, 30, 31, 32, 33] S_52 (zfix (fun S9 _ _ => (S9, 0)) (fMO_ticks_52 P) n S_52 x52_1 x52_2) := by
  intro n
  induction n with
  | zero => intro S_52 x52_1 x52_2; rw [zfix_0]; exact zfr.rf
  | succ n ih => intro S_52 x52_1 x52_2; rw [zfix_s]; exact q_fMO_ticks_52 P _ _ _ _  ih
theorem q_fMO_ticks_42 (P : ZS) (S_42 : ZS) (x42_1 : Int32) (y42_0 : Int32) (y42_1 : Int32) : zfrB 100 [3, 4, 5, 7, 8, 9, 10, 11, 12, 13, 14] [9, 10, 11, 12, 13, 14, 15, 18, 19, 20, 23, 24, 25, 26, 27, 28, 29, 30, 31, 32, 33] S_42 (fMO_ticks_42 P S_42 x42_1 y42_0 y42_1) := by
  unfold fMO_ticks_42
  have hS_42 : zfr 100 [3, 4, 5, 7, 8, 9, 10, 11, 12, 13, 14] [9, 10, 11, 12, 13, 14, 15, 18, 19, 20, 23, 24, 25, 26, 27, 28, 29, 30, 31, 32, 33] S_42 S_42 := zfr.rf
  refine zq_2 (hS_42.c (q_fMO_goes _ _ _ _) (by decide) (by decide)) (fun S8 k7 hS8 => ?_)
  refine zq_if ?_ ?_
  · skip
    exact hS8
  · skip
    exact zfr.c hS8 (z_fMO_ticks_52 P  257 _ _ _) (by decide) (by decide)
theorem q_fMO_ticks_41 (P : ZS) (S_41 : ZS) (x41_1 : Int32) (y41_0 : Int32) : zfrB 100 [3, 4, 5, 7, 8, 9, 10, 11, 12, 13, 14] [9, 10, 11, 12, 13, 14, 15, 18, 19, 20, 23, 24, 25, 26, 27, 28, 29, 30, 31, 32, 33] S_41 (fMO_ticks_41 P S_41 x41_1 y41_0) := by
  unfold fMO_ticks_41
  have hS_41 : zfr 100 [3, 4, 5, 7, 8, 9, 10, 11, 12, 13, 14] [9, 10, 11, 12, 13, 14, 15, 18, 19, 20, 23, 24, 25, 26, 27, 28, 29, 30, 31, 32, 33] S_41 S_41 := zfr.rf
  exact zfr.c hS_41 (q_fMO_ticks_42 _ _ _ _ _ ) (fun _ h => h) (fun _ h => h)
theorem q_fMO_ticks_18 (P : ZS) (S_18 : ZS) (x18_1 : Int32) (y18_0 : Int32) : zfrB 100 [3, 4, 5, 7, 8, 9, 10, 11, 12, 13, 14] [9, 10, 11, 12, 13, 14, 15, 18, 19, 20, 23, 24, 25, 26, 27, 28, 29, 30, 31, 32, 33] S_18 (fMO_ticks_18 P S_18 x18_1 y18_0) := by
  unfold fMO_ticks_18
  have hS_18 : zfr 100 [3, 4, 5, 7, 8, 9, 10, 11, 12, 13, 14] [9, 10, 11, 12, 13, 14, 15, 18, 19, 20, 23, 24, 25, 26, 27, 28, 29, 30, 31, 32, 33] S_18 S_18 := zfr.rf
  refine zq_l (fun k10 => ?_)
  refine zq_if ?_ ?_
  · skip
    exact zfr.c hS_18 (q_fMO_ticks_41 _ _ _ _ ) (fun _ h => h) (fun _ h => h)
  · skip
    refine zq_l (fun k11 => ?_)
    refine zq_l (fun k12 => ?_)
    refine zq_if ?_ ?_
    · skip
      exact zfr.c hS_18 (q_fMO_ticks_41 _ _ _ _ ) (fun _ h => h) (fun _ h => h)
    · skip
      exact zfr.c hS_18 (q_fMO_ticks_42 _ _ _ _ _ ) (fun _ h => h) (fun _ h => h)
theorem q_fMO_ticks_17 (P : ZS) (S_17 : ZS) (x17_1 : Int32) : zfrB 100 [3, 4, 5, 7, 8, 9, 10, 11, 12, 13, 14] [9, 10, 11, 12, 13, 14, 15, 18, 19, 20, 23, 24, 25, 26, 27, 28, 29, 30, 31, 32, 33] S_17 (fMO_ticks_17 P S_17 x17_1) := by
  unfold fMO_ticks_17
  have hS_17 : zfr 100 [3, 4, 5, 7, 8, 9, 10, 11, 12, 13, 14] [9, 10, 11, 12, 13, 14, 15, 18, 19, 20, 23, 24, 25, 26, 27, 28, 29, 30, 31, 32, 33] S_17 S_17 := zfr.rf
  exact zfr.c hS_17 (q_fMO_ticks_18 _ _ _ _ ) (fun _ h => h) (fun _ h => h)
theorem q_fMO_ticks (P S : ZS) (x0 : Int32) : zfrB 100 [3, 4, 5, 7, 8, 9, 10, 11, 12, 13, 14] [9, 10, 11, 12, 13, 14, 15, 18, 19, 20, 23, 24, 25, 26, 27, 28, 29, 30, 31, 32, 33] S (fMO_ticks P S x0) := by
  unfold fMO_ticks
  have hS : zfr 100 [3, 4, 5, 7, 8, 9, 10, 11, 12, 13, 14] [9, 10, 11, 12, 13, 14, 15, 18, 19, 20, 23, 24, 25, 26, 27, 28, 29, 30, 31, 32, 33] S S := zfr.rf
  refine zq_if ?_ ?_
  · skip
    exact zfr.c hS (q_fMO_ticks_17 _ _ _ ) (fun _ h => h) (fun _ h => h)
  · skip
    refine zq_if ?_ ?_
    · skip
      exact zfr.c hS (q_fMO_ticks_17 _ _ _ ) (fun _ h => h) (fun _ h => h)
    · skip
      exact zfr.c hS (q_fMO_ticks_18 _ _ _ _ ) (fun _ h => h) (fun _ h => h)
theorem q_fMO_send_428 (P : ZS) (rc141 : ZS → Int32 → Int32 → Int32 → Int32 → Int32 → Int32 → (ZS × Int32)) (S_428 : ZS) (x428_1 : Int32) (x428_2 : Int32) (x428_3 : Int32) (x428_5 : Int32) (x428_6 : Int32) (x428_7 : Int32) (hrc141 : ∀ (a0 : ZS) (a1 : Int32) (a2 : Int32) (a3 : Int32) (a4 : Int32) (a5 : Int32) (a6 : Int32), zfrB 100 [6] [20, 21, 35, 36, 37] a0 (rc141 a0 a1 a2 a3 a4 a5 a6)) : zfrB 100 [6] [20, 21, 35, 36, 37] S_428 (fMO_send_428 P rc141 S_428 x428_1 x428_2 x428_3 x428_5 x428_6 x428_7) := by
  unfold fMO_send_428
  have hS_428 : zfr 100 [6] [20, 21, 35, 36, 37] S_428 S_428 := zfr.rf
  refine zq_l (fun k1 => ?_)
  exact zfr.c hS_428 (hrc141 _ _ _ _ _ _ _) (fun _ h => h) (fun _ h => h)
theorem q_fMO_send_422 (P : ZS) (rc141 : ZS → Int32 → Int32 → Int32 → Int32 → Int32 → Int32 → (ZS × Int32)) (rc249 : ZS → Int32 → Int32 → Int32 → Int32 → Int32 → Int32 → Int32 → Int32 → Int32 → (ZS × Int32)) (S_422 : ZS) (x422_1 : Int32) (x422_2 : Int32) (x422_3 : Int32) (x422_5 : Int32) (x422_6 : Int32) (x422_7 : Int32) (x422_8 : Int32) (x422_9 : Int32) (x422_10 : Int32) (hrc141 : ∀ (a0 : ZS) (a1 : Int32) (a2 : Int32) (a3 : Int32) (a4 : Int32) (a5 : Int32) (a6 : Int32), zfrB 100 [6] [20, 21, 35, 36, 37] a0 (rc141 a0 a1 a2 a3 a4 a5 a6)) (hrc249 : ∀ (a0 : ZS) (a1 : Int32) (a2 : Int32) (a3 : Int32) (a4 : Int32) (a5 : Int32) (a6 : Int32) (a7 : Int32) (a8 : Int32) (a9 : Int32), zfrB 100 [6] [20, 21, 35, 36, 37] a0 (rc249 a0 a1 a2 a3 a4 a5 a6 a7 a8 a9)) : zfrB 100 [6] [20, 21, 35, 36, 37] S_422 (fMO_send_422 P rc141 rc249 S_422 x422_1 x422_2 x422_3 x422_5 x422_6 x422_7 x422_8 x422_9 x422_10) := by
  unfold fMO_send_422
  have hS_422 : zfr 100 [6] [20, 21, 35, 36, 37] S_422 S_422 := zfr.rf
  refine zq_l (fun k2 => ?_)
  exact zfr.c hS_422 (hrc249 _ _ _ _ _ _ _ _ _ _) (fun _ h => h) (fun _ h => h)
theorem q_fMO_send_419 (P : ZS) (rc141 : ZS → Int32 → Int32 → Int32 → Int32 → Int32 → Int32 → (ZS × Int32)) (rc249 : ZS → Int32 → Int32 → Int32 → Int32 → Int32 → Int32 → Int32 → Int32 → Int32 → (ZS × Int32)) (S_419 : ZS) (x419_1 : Int32) (x419_2 : Int32) (x419_3 : Int32) (x419_5 : Int32) (x419_6 : Int32) (x419_7 : Int32) (x419_8 : Int32) (x419_9 : Int32) (x419_10 : Int32) (y419_0 : Int32) (hrc141 : ∀ (a0 : ZS) (a1 : Int32) (a2 : Int32) (a3 : Int32) (a4 : Int32) (a5 : Int32) (a6 : Int32), zfrB 100 [6] [20, 21, 35, 36, 37] a0 (rc141 a0 a1 a2 a3 a4 a5 a6)) (hrc249 : ∀ (a0 : ZS) (a1 : Int32) (a2 : Int32) (a3 : Int32) (a4 : Int32) (a5 : Int32) (a6 : Int32) (a7 : Int32) (a8 : Int32) (a9 : Int32), zfrB 100 [6] [20, 21, 35, 36, 37] a0 (rc249 a0 a1 a2 a3 a4 a5 a6 a7 a8 a9)) : zfrB 100 [6] [20, 21, 35, 36, 37] S_419 (fMO_send_419 P rc141 rc249 S_419 x419_1 x419_2 x419_3 x419_5 x419_6 x419_7 x419_8 x419_9 x419_10 y419_0) := by
  unfold fMO_send_419
  have hS_419 : zfr 100 [6] [20, 21, 35, 36, 37] S_419 S_419 := zfr.rf
  refine zq_s (hS_419.I (by decide)) (fun S3 hS3 => ?_)
  exact zfr.c hS3 (q_fMO_send_422 _ rc141 rc249 _ _ _ _ _ _ _ _ _ _ hrc141 hrc249) (fun _ h => h) (fun _ h => h)
theorem q_fMO_send_299 (P : ZS) (rc141 : ZS → Int32 → Int32 → Int32 → Int32 → Int32 → Int32 → (ZS × Int32)) (rc249 : ZS → Int32 → Int32 → Int32 → Int32 → Int32 → Int32 → Int32 → Int32 → Int32 → (ZS × Int32)) (S_299 : ZS) (x299_1 : Int32) (x299_2 : Int32) (x299_3 : Int32) (x299_5 : Int32) (x299_6 : Int32) (x299_7 : Int32) (x299_8 : Int32) (x299_9 : Int32) (x299_10 : Int32) (y299_0 : Int32) (hrc141 : ∀ (a0 : ZS) (a1 : Int32) (a2 : Int32) (a3 : Int32) (a4 : Int32) (a5 : Int32) (a6 : Int32), zfrB 100 [6] [20, 21, 35, 36, 37] a0 (rc141 a0 a1 a2 a3 a4 a5 a6)) (hrc249 : ∀ (a0 : ZS) (a1 : Int32) (a2 : Int32) (a3 : Int32) (a4 : Int32) (a5 : Int32) (a6 : Int32) (a7 : Int32) (a8 : Int32) (a9 : Int32), zfrB 100 [6] [20, 21, 35, 36, 37] a0 (rc249 a0 a1 a2 a3 a4 a5 a6 a7 a8 a9)) : zfrB 100 [6] [20, 21, 35, 36, 37] S_299 (fMO_send_299 P rc141 rc249 S_299 x299_1 x299_2 x299_3 x299_5 x299_6 x299_7 x299_8 x299_9 x299_10 y299_0) := by
  unfold fMO_send_299
  have hS_299 : zfr 100 [6] [20, 21, 35, 36, 37] S_299 S_299 := zfr.rf
  refine zq_if ?_ ?_
  · skip
    exact zfr.c hS_299 (q_fMO_send_422 _ rc141 rc249 _ _ _ _ _ _ _ _ _ _ hrc141 hrc249) (fun _ h => h) (fun _ h => h)
  · skip
    refine zq_l (fun k8 => ?_)
    refine zq_if ?_ ?_
    · skip
      exact zfr.c hS_299 (q_fMO_send_422 _ rc141 rc249 _ _ _ _ _ _ _ _ _ _ hrc141 hrc249) (fun _ h => h) (fun _ h => h)
    · skip
      refine zq_l (fun k10 => ?_)
      refine zq_if ?_ ?_
      · skip
        exact zfr.c hS_299 (q_fMO_send_422 _ rc141 rc249 _ _ _ _ _ _ _ _ _ _ hrc141 hrc249) (fun _ h => h) (fun _ h => h)
      · skip
        refine zq_if ?_ ?_
        · skip
          exact zfr.c hS_299 (q_fMO_send_422 _ rc141 rc249 _ _ _ _ _ _ _ _ _ _ hrc141 hrc249) (fun _ h => h) (fun _ h => h)
        · skip
          refine zq_l (fun k12 => ?_)
          refine zq_s (hS_299.F (by decide)) (fun S13 hS13 => ?_)
          refine zq_s (hS13.F (by decide)) (fun S15 hS15 => ?_)
          refine zq_l (fun k17 => ?_)
          refine zq_l (fun k19 => ?_)
          refine zq_l (fun k20 => ?_)
          refine zq_l (fun k21 => ?_)
          refine zq_s (hS15.F (by decide)) (fun S22 hS22 => ?_)
          refine zq_l (fun k25 => ?_)
          refine zq_l (fun k26 => ?_)
          refine zq_l (fun k27 => ?_)
          refine zq_if ?_ ?_
          · skip
            refine zq_l (fun k28 => ?_)
            exact zfr.c hS22 (q_fMO_send_419 _ rc141 rc249 _ _ _ _ _ _ _ _ _ _ _ hrc141 hrc249) (fun _ h => h) (fun _ h => h)
          · skip
            refine zq_l (fun k30 => ?_)
            refine zq_l (fun k31 => ?_)
            exact zfr.c hS22 (q_fMO_send_419 _ rc141 rc249 _ _ _ _ _ _ _ _ _ _ _ hrc141 hrc249) (fun _ h => h) (fun _ h => h)
theorem q_fMO_send_298 (P : ZS) (rc141 : ZS → Int32 → Int32 → Int32 → Int32 → Int32 → Int32 → (ZS × Int32)) (rc249 : ZS → Int32 → Int32 → Int32 → Int32 → Int32 → Int32 → Int32 → Int32 → Int32 → (ZS × Int32)) (S_298 : ZS) (x298_1 : Int32) (x298_2 : Int32) (x298_3 : Int32) (x298_5 : Int32) (x298_6 : Int32) (x298_7 : Int32) (x298_8 : Int32) (x298_9 : Int32) (x298_10 : Int32) (hrc141 : ∀ (a0 : ZS) (a1 : Int32) (a2 : Int32) (a3 : Int32) (a4 : Int32) (a5 : Int32) (a6 : Int32), zfrB 100 [6] [20, 21, 35, 36, 37] a0 (rc141 a0 a1 a2 a3 a4 a5 a6)) (hrc249 : ∀ (a0 : ZS) (a1 : Int32) (a2 : Int32) (a3 : Int32) (a4 : Int32) (a5 : Int32) (a6 : Int32) (a7 : Int32) (a8 : Int32) (a9 : Int32), zfrB 100 [6] [20, 21, 35, 36, 37] a0 (rc249 a0 a1 a2 a3 a4 a5 a6 a7 a8 a9)) : zfrB 100 [6] [20, 21, 35, 36, 37] S_298 (fMO_send_298 P rc141 rc249 S_298 x298_1 x298_2 x298_3 x298_5 x298_6 x298_7 x298_8 x298_9 x298_10) := by
  unfold fMO_send_298
  have hS_298 : zfr 100 [6] [20, 21, 35, 36, 37] S_298 S_298 := zfr.rf
  exact zfr.c hS_298 (q_fMO_send_299 _ rc141 rc249 _ _ _ _ _ _ _ _ _ _ _ hrc141 hrc249) (fun _ h => h) (fun _ h => h)
theorem q_fMO_send_294 (P : ZS) (rc141 : ZS → Int32 → Int32 → Int32 → Int32 → Int32 → Int32 → (ZS × Int32)) (rc249 : ZS → Int32 → Int32 → Int32 → Int32 → Int32 → Int32 → Int32 → Int32 → Int32 → (ZS × Int32)) (S_294 : ZS) (x294_1 : Int32) (x294_2 : Int32) (x294_3 : Int32) (x294_5 : Int32) (x294_6 : Int32) (x294_7 : Int32) (x294_8 : Int32) (x294_9 : Int32) (x294_10 : Int32) (hrc141 : ∀ (a0 : ZS) (a1 : Int32) (a2 : Int32) (a3 : Int32) (a4 : Int32) (a5 : Int32) (a6 : Int32), zfrB 100 [6] [20, 21, 35, 36, 37] a0 (rc141 a0 a1 a2 a3 a4 a5 a6)) (hrc249 : ∀ (a0 : ZS) (a1 : Int32) (a2 : Int32) (a3 : Int32) (a4 : Int32) (a5 : Int32) (a6 : Int32) (a7 : Int32) (a8 : Int32) (a9 : Int32), zfrB 100 [6] [20, 21, 35, 36, 37] a0 (rc249 a0 a1 a2 a3 a4 a5 a6 a7 a8 a9)) : zfrB 100 [6] [20, 21, 35, 36, 37] S_294 (fMO_send_294 P rc141 rc249 S_294 x294_1 x294_2 x294_3 x294_5 x294_6 x294_7 x294_8 x294_9 x294_10) := by
  unfold fMO_send_294
  have hS_294 : zfr 100 [6] [20, 21, 35, 36, 37] S_294 S_294 := zfr.rf
  exact zfr.c hS_294 (q_fMO_send_299 _ rc141 rc249 _ _ _ _ _ _ _ _ _ _ _ hrc141 hrc249) (fun _ h => h) (fun _ h => h)
theorem q_fMO_send_249 (P : ZS) (rc141 : ZS → Int32 → Int32 → Int32 → Int32 → Int32 → Int32 → (ZS × Int32)) (rc249 : ZS → Int32 → Int32 → Int32 → Int32 → Int32 → Int32 → Int32 → Int32 → Int32 → (ZS × Int32)) (S_249 : ZS) (x249_1 : Int32) (x249_2 : Int32) (x249_3 : Int32) (x249_5 : Int32) (x249_6 : Int32) (x249_7 : Int32) (x249_8 : Int32) (x249_9 : Int32) (x249_10 : Int32) (hrc141 : ∀ (a0 : ZS) (a1 : Int32) (a2 : Int32) (a3 : Int32) (a4 : Int32) (a5 : Int32) (a6 : Int32), zfrB 100 [6] [20, 21, 35, 36, 37] a0 (rc141 a0 a1 a2 a3 a4 a5 a6)) (hrc249 : ∀ (a0 : ZS) (a1 : Int32) (a2 : Int32) (a3 : Int32) (a4 : Int32) (a5 : Int32) (a6 : Int32) (a7 : Int32) (a8 : Int32) (a9 : Int32), zfrB 100 [6] [20, 21, 35, 36, 37] a0 (rc249 a0 a1 a2 a3 a4 a5 a6 a7 a8 a9)) : zfrB 100 [6] [20, 21, 35, 36, 37] S_249 (fMO_send_249 P rc141 rc249 S_249 x249_1 x249_2 x249_3 x249_5 x249_6 x249_7 x249_8 x249_9 x249_10) := by
  unfold fMO_send_249
  have hS_249 : zfr 100 [6] [20, 21, 35, 36, 37] S_249 S_249 := zfr.rf
  refine zq_l (fun k32 => ?_)
  refine zq_if ?_ ?_
  · skip
    exact zfr.c hS_249 (q_fMO_send_428 _ rc141 _ _ _ _ _ _ _ hrc141) (fun _ h => h) (fun _ h => h)
  · skip
    refine zq_l (fun k33 => ?_)
    refine zq_if ?_ ?_
    · skip
      exact zfr.c hS_249 (q_fMO_send_428 _ rc141 _ _ _ _ _ _ _ hrc141) (fun _ h => h) (fun _ h => h)
    · skip
      refine zq_l (fun k34 => ?_)
      refine zq_if ?_ ?_
      · skip
        exact zfr.c hS_249 (q_fMO_send_298 _ rc141 rc249 _ _ _ _ _ _ _ _ _ _ hrc141 hrc249) (fun _ h => h) (fun _ h => h)
      · skip
        refine zq_if ?_ ?_
        · skip
          exact zfr.c hS_249 (q_fMO_send_294 _ rc141 rc249 _ _ _ _ _ _ _ _ _ _ hrc141 hrc249) (fun _ h => h) (fun _ h => h)
        · skip
          refine zq_if ?_ ?_
          · skip
            exact zfr.c hS_249 (q_fMO_send_294 _ rc141 rc249 _ _ _ _ _ _ _ _ _ _ hrc141 hrc249) (fun _ h => h) (fun _ h => h)
          · skip
            exact zfr.c hS_249 (q_fMO_send_298 _ rc141 rc249 _ _ _ _ _ _ _ _ _ _ hrc141 hrc249) (fun _ h => h) (fun _ h => h)
theorem z_fMO_send_249 (P : ZS) (rc141 : ZS → Int32 → Int32 → Int32 → Int32 → Int32 → Int32 → (ZS × Int32)) (hrc141 : ∀ (a0 : ZS) (a1 : Int32) (a2 : Int32) (a3 : Int32) (a4 : Int32) (a5 : Int32) (a6 : Int32), zfrB 100 [6] [20, 21, 35, 36, 37] a0 (rc141 a0 a1 a2 a3 a4 a5 a6)) : ∀ (n : Nat) (S_249 : ZS) (x249_1 : Int32) (x249_2 : Int32) (x249_3 : Int32) (x249_5 : Int32) (x249_6 : Int32) (x249_7 : Int32) (x249_8 : Int32) (x249_9 : Int32) (x249_10 : Int32), zfrB 100 [6] [20, 21, 35, 36, 37] S_249 (zfix (fun S9 _ _ _ _ _ _ _ _ _ => (S9, 0)) (fMO_send_249 P rc141) n S_249 x249_1 x249_2 x249_3 x249_5 x249_6 x249_7 x249_8 x249_9 x249_10) := by
  intro n
  induction n with
  | zero => intro S_249 x249_1 x249_2 x249_3 x249_5 x249_6 x249_7 x249_8 x249_9 x249_10; rw [zfix_0]; exact zfr.rf
  | succ n ih => intro S_249 x249_1 x249_2 x249_3 x249_5 x249_6 x249_7 x249_8 x249_9 x249_10; rw [zfix_s]; exact q_fMO_send_249 P rc141 _ _ _ _ _ _ _ _ _ _ _ hrc141 ih
theorem q_fMO_send_243 (P : ZS) (rc141 : ZS → Int32 → Int32 → Int32 → Int32 → Int32 → Int32 → (ZS × Int32)) (S_243 : ZS) (x243_1 : Int32) (x243_2 : Int32) (x243_3 : Int32) (x243_6 : Int32) (x243_7 : Int32) (x243_8 : Int32) (x243_9 : Int32) (y243_0 : Int32) (y243_1 : Int32) (hrc141 : ∀ (a0 : ZS) (a1 : Int32) (a2 : Int32) (a3 : Int32) (a4 : Int32) (a5 : Int32) (a6 : Int32), zfrB 100 [6] [20, 21, 35, 36, 37] a0 (rc141 a0 a1 a2 a3 a4 a5 a6)) : zfrB 100 [6] [20, 21, 35, 36, 37] S_243 (fMO_send_243 P rc141 S_243 x243_1 x243_2 x243_3 x243_6 x243_7 x243_8 x243_9 y243_0 y243_1) := by
  unfold fMO_send_243
  have hS_243 : zfr 100 [6] [20, 21, 35, 36, 37] S_243 S_243 := zfr.rf
  refine zq_l (fun k35 => ?_)
  exact zfr.c hS_243 (z_fMO_send_249 P rc141 hrc141 61 _ _ _ _ _ _ _ _ _ _) (fun _ h => h) (fun _ h => h)
theorem q_fMO_send_215 (P : ZS) (rc141 : ZS → Int32 → Int32 → Int32 → Int32 → Int32 → Int32 → (ZS × Int32)) (S_215 : ZS) (x215_1 : Int32) (x215_2 : Int32) (x215_3 : Int32) (x215_5 : Int32) (x215_6 : Int32) (x215_7 : Int32) (x215_8 : Int32) (hrc141 : ∀ (a0 : ZS) (a1 : Int32) (a2 : Int32) (a3 : Int32) (a4 : Int32) (a5 : Int32) (a6 : Int32), zfrB 100 [6] [20, 21, 35, 36, 37] a0 (rc141 a0 a1 a2 a3 a4 a5 a6)) : zfrB 100 [6] [20, 21, 35, 36, 37] S_215 (fMO_send_215 P rc141 S_215 x215_1 x215_2 x215_3 x215_5 x215_6 x215_7 x215_8) := by
  unfold fMO_send_215
  have hS_215 : zfr 100 [6] [20, 21, 35, 36, 37] S_215 S_215 := zfr.rf
  refine zq_l (fun k37 => ?_)
  refine zq_l (fun k38 => ?_)
  refine zq_if ?_ ?_
  · skip
    exact zfr.c hS_215 (q_fMO_send_243 _ rc141 _ _ _ _ _ _ _ _ _ _ hrc141) (fun _ h => h) (fun _ h => h)
  · skip
    exact zfr.c hS_215 (q_fMO_send_243 _ rc141 _ _ _ _ _ _ _ _ _ _ hrc141) (fun _ h => h) (fun _ h => h)
theorem q_fMO_send_141 (P : ZS) (rc141 : ZS → Int32 → Int32 → Int32 → Int32 → Int32 → Int32 → (ZS × Int32)) (S_141 : ZS) (x141_1 : Int32) (x141_2 : Int32) (x141_3 : Int32) (x141_5 : Int32) (x141_6 : Int32) (x141_7 : Int32) (hrc141 : ∀ (a0 : ZS) (a1 : Int32) (a2 : Int32) (a3 : Int32) (a4 : Int32) (a5 : Int32) (a6 : Int32), zfrB 100 [6] [20, 21, 35, 36, 37] a0 (rc141 a0 a1 a2 a3 a4 a5 a6)) : zfrB 100 [6] [20, 21, 35, 36, 37] S_141 (fMO_send_141 P rc141 S_141 x141_1 x141_2 x141_3 x141_5 x141_6 x141_7) := by
  unfold fMO_send_141
  have hS_141 : zfr 100 [6] [20, 21, 35, 36, 37] S_141 S_141 := zfr.rf
  refine zq_if ?_ ?_
  · skip
    exact hS_141
  · skip
    refine zq_l (fun k39 => ?_)
    refine zq_l (fun k40 => ?_)
    refine zq_if ?_ ?_
    · skip
      exact zfr.c hS_141 (q_fMO_send_215 _ rc141 _ _ _ _ _ _ _ _ hrc141) (fun _ h => h) (fun _ h => h)
    · skip
      refine zq_l (fun k41 => ?_)
      refine zq_l (fun k42 => ?_)
      refine zq_l (fun k43 => ?_)
      refine zq_l (fun k44 => ?_)
      refine zq_l (fun k45 => ?_)
      refine zq_s (hS_141.F (by decide)) (fun S46 hS46 => ?_)
      refine zq_l (fun k48 => ?_)
      refine zq_l (fun k49 => ?_)
      refine zq_l (fun k50 => ?_)
      refine zq_l (fun k51 => ?_)
      refine zq_l (fun k52 => ?_)
      refine zq_s (hS46.F (by decide)) (fun S53 hS53 => ?_)
      exact zfr.c hS53 (q_fMO_send_215 _ rc141 _ _ _ _ _ _ _ _ hrc141) (fun _ h => h) (fun _ h => h)
theorem z_fMO_send_141 (P : ZS) : ∀ (n : Nat) (S_141 : ZS) (x141_1 : Int32) (x141_2 : Int32) (x141_3 : Int32) (x141_5 : Int32) (x141_6 : Int32) (x141_7 : Int32), zfrB 100 [6] [20, 21, 35, 36, 37] S_141 (zfix (fun S9 _ _ _ _ _ _ => (S9, 0)) (fMO_send_141 P) n S_141 x141_1 x141_2 x141_3 x141_5 x141_6 x141_7) := by
  intro n
  induction n with
  | zero => intro S_141 x141_1 x141_2 x141_3 x141_5 x141_6 x141_7; rw [zfix_0]; exact zfr.rf
  | succ n ih => intro S_141 x141_1 x141_2 x141_3 x141_5 x141_6 x141_7; rw [zfix_s]; exact q_fMO_send_141 P _ _ _ _ _ _ _ _  ih
theorem q_fMO_send_92 (P : ZS) (rc92 : ZS → Int32 → Int32 → Int32 → Int32 → (ZS × Int32)) (S_92 : ZS) (x92_1 : Int32) (x92_2 : Int32) (x92_3 : Int32) (x92_5 : Int32) (hrc92 : ∀ (a0 : ZS) (a1 : Int32) (a2 : Int32) (a3 : Int32) (a4 : Int32), zfrB 100 [6] [20, 21, 35, 36, 37] a0 (rc92 a0 a1 a2 a3 a4)) : zfrB 100 [6] [20, 21, 35, 36, 37] S_92 (fMO_send_92 P rc92 S_92 x92_1 x92_2 x92_3 x92_5) := by
  unfold fMO_send_92
  have hS_92 : zfr 100 [6] [20, 21, 35, 36, 37] S_92 S_92 := zfr.rf
  refine zq_if ?_ ?_
  · skip
    refine zq_l (fun k55 => ?_)
    refine zq_s (hS_92.F (by decide)) (fun S56 hS56 => ?_)
    refine zq_s (hS56.F (by decide)) (fun S58 hS58 => ?_)
    exact zfr.c hS58 (z_fMO_send_141 P  4097 _ _ _ _ _ _ _) (fun _ h => h) (fun _ h => h)
  · skip
    refine zq_s (hS_92.F (by decide)) (fun S60 hS60 => ?_)
    refine zq_l (fun k62 => ?_)
    exact zfr.c hS60 (hrc92 _ _ _ _ _) (fun _ h => h) (fun _ h => h)
theorem z_fMO_send_92 (P : ZS) : ∀ (n : Nat) (S_92 : ZS) (x92_1 : Int32) (x92_2 : Int32) (x92_3 : Int32) (x92_5 : Int32), zfrB 100 [6] [20, 21, 35, 36, 37] S_92 (zfix (fun S9 _ _ _ _ => (S9, 0)) (fMO_send_92 P) n S_92 x92_1 x92_2 x92_3 x92_5) := by
  intro n
  induction n with
  | zero => intro S_92 x92_1 x92_2 x92_3 x92_5; rw [zfix_0]; exact zfr.rf
  | succ n ih => intro S_92 x92_1 x92_2 x92_3 x92_5; rw [zfix_s]; exact q_fMO_send_92 P _ _ _ _ _ _  ih
theorem q_fMO_send_72 (P : ZS) (S_72 : ZS) (x72_1 : Int32) (x72_2 : Int32) (x72_3 : Int32) (y72_0 : Int32) : zfrB 100 [3, 6] [20, 21, 35, 36, 37] S_72 (fMO_send_72 P S_72 x72_1 x72_2 x72_3 y72_0) := by
  unfold fMO_send_72
  have hS_72 : zfr 100 [3, 6] [20, 21, 35, 36, 37] S_72 S_72 := zfr.rf
  refine zq_l (fun k63 => ?_)
  refine zq_2 (hS_72.c (q_fMO_goes _ _ _ _) (by decide) (by decide)) (fun S66 k65 hS66 => ?_)
  refine zq_if ?_ ?_
  · skip
    exact hS66
  · skip
    refine zq_s (hS66.I (by decide)) (fun S70 hS70 => ?_)
    exact zfr.c hS70 (z_fMO_send_92 P  121 _ _ _ _ _) (by decide) (by decide)
theorem q_fMO_send_71 (P : ZS) (S_71 : ZS) (x71_1 : Int32) (x71_2 : Int32) (x71_3 : Int32) : zfrB 100 [3, 6] [20, 21, 35, 36, 37] S_71 (fMO_send_71 P S_71 x71_1 x71_2 x71_3) := by
  unfold fMO_send_71
  have hS_71 : zfr 100 [3, 6] [20, 21, 35, 36, 37] S_71 S_71 := zfr.rf
  exact zfr.c hS_71 (q_fMO_send_72 _ _ _ _ _ _ ) (fun _ h => h) (fun _ h => h)
theorem q_fMO_send_39 (P : ZS) (S_39 : ZS) (x39_1 : Int32) (x39_2 : Int32) (x39_3 : Int32) (y39_0 : Int32) : zfrB 100 [3, 6] [20, 21, 35, 36, 37] S_39 (fMO_send_39 P S_39 x39_1 x39_2 x39_3 y39_0) := by
  unfold fMO_send_39
  have hS_39 : zfr 100 [3, 6] [20, 21, 35, 36, 37] S_39 S_39 := zfr.rf
  refine zq_if ?_ ?_
  · skip
    exact zfr.c hS_39 (q_fMO_send_71 _ _ _ _ _ ) (fun _ h => h) (fun _ h => h)
  · skip
    refine zq_l (fun k72 => ?_)
    refine zq_if ?_ ?_
    · skip
      exact zfr.c hS_39 (q_fMO_send_71 _ _ _ _ _ ) (fun _ h => h) (fun _ h => h)
    · skip
      refine zq_l (fun k73 => ?_)
      refine zq_if ?_ ?_
      · skip
        exact zfr.c hS_39 (q_fMO_send_71 _ _ _ _ _ ) (fun _ h => h) (fun _ h => h)
      · skip
        exact zfr.c hS_39 (q_fMO_send_72 _ _ _ _ _ _ ) (fun _ h => h) (fun _ h => h)
theorem q_fMO_send_38 (P : ZS) (S_38 : ZS) (x38_1 : Int32) (x38_2 : Int32) (x38_3 : Int32) : zfrB 100 [3, 6] [20, 21, 35, 36, 37] S_38 (fMO_send_38 P S_38 x38_1 x38_2 x38_3) := by
  unfold fMO_send_38
  have hS_38 : zfr 100 [3, 6] [20, 21, 35, 36, 37] S_38 S_38 := zfr.rf
  exact zfr.c hS_38 (q_fMO_send_39 _ _ _ _ _ _ ) (fun _ h => h) (fun _ h => h)
theorem q_fMO_send (P S : ZS) (x0 : Int32) (x1 : Int32) (x2 : Int32) : zfrB 100 [3, 6] [20, 21, 35, 36, 37] S (fMO_send P S x0 x1 x2) := by
  unfold fMO_send
  have hS : zfr 100 [3, 6] [20, 21, 35, 36, 37] S S := zfr.rf
  refine zq_if ?_ ?_
  · skip
    exact zfr.c hS (q_fMO_send_38 _ _ _ _ _ ) (fun _ h => h) (fun _ h => h)
  · skip
    refine zq_if ?_ ?_
    · skip
      exact zfr.c hS (q_fMO_send_38 _ _ _ _ _ ) (fun _ h => h) (fun _ h => h)
    · skip
      refine zq_if ?_ ?_
      · skip
        exact zfr.c hS (q_fMO_send_38 _ _ _ _ _ ) (fun _ h => h) (fun _ h => h)
      · skip
        refine zq_if ?_ ?_
        · skip
          exact zfr.c hS (q_fMO_send_38 _ _ _ _ _ ) (fun _ h => h) (fun _ h => h)
        · skip
          refine zq_if ?_ ?_
          · skip
            exact zfr.c hS (q_fMO_send_38 _ _ _ _ _ ) (fun _ h => h) (fun _ h => h)
          · skip
            refine zq_if ?_ ?_
            · skip
              exact zfr.c hS (q_fMO_send_38 _ _ _ _ _ ) (fun _ h => h) (fun _ h => h)
            · skip
              refine zq_if ?_ ?_
              · skip
                exact zfr.c hS (q_fMO_send_38 _ _ _ _ _ ) (fun _ h => h) (fun _ h => h)
              · skip
                exact zfr.c hS (q_fMO_send_39 _ _ _ _ _ _ ) (fun _ h => h) (fun _ h => h)
theorem q_fMO_bridge_22 (P_22 : ZS) (S_22 : ZS) (y22_0 : Int32) : zfrC 100 [3] [] S_22 (fMO_bridge_22 P_22 S_22 y22_0) := by
  unfold fMO_bridge_22
  have hS_22 : zfr 100 [3] [] S_22 S_22 := zfr.rf
  refine zq_s (hS_22.I (by decide)) (fun S1 hS1 => ?_)
  refine zq_l (fun k3 => ?_)
  refine zq_if ?_ ?_
  · skip
    refine zq_l (fun k5 => ?_)
    refine zq_l (fun k6 => ?_)
    refine zq_l (fun P7 => ?_)
    refine zq_l (fun k9 => ?_)
    refine zq_l (fun k10 => ?_)
    exact hS1
  · skip
    exact hS1
theorem q_fMO_bridge_17 (P_17 : ZS) (S_17 : ZS) : zfrC 100 [3] [] S_17 (fMO_bridge_17 P_17 S_17) := by
  unfold fMO_bridge_17
  have hS_17 : zfr 100 [3] [] S_17 S_17 := zfr.rf
  exact zfr.c hS_17 (q_fMO_bridge_22 _ _ _ ) (fun _ h => h) (fun _ h => h)
theorem q_fMO_bridge (P S : ZS) : zfrC 100 [3] [] S (fMO_bridge P S) := by
  unfold fMO_bridge
  have hS : zfr 100 [3] [] S S := zfr.rf
  refine zq_l (fun k11 => ?_)
  refine zq_if ?_ ?_
  · skip
    refine zq_l (fun k12 => ?_)
    refine zq_if ?_ ?_
    · skip
      exact zfr.c hS (q_fMO_bridge_17 _ _ ) (fun _ h => h) (fun _ h => h)
    · skip
      exact zfr.c hS (q_fMO_bridge_22 _ _ _ ) (fun _ h => h) (fun _ h => h)
  · skip
    exact zfr.c hS (q_fMO_bridge_17 _ _ ) (fun _ h => h) (fun _ h => h)
theorem q_fMO_link_55 (P_55 : ZS) (S_55 : ZS) (x55_1 : Int32) (x55_2 : Int32) (x55_3 : Int32) (y55_0 : Int32) (y55_1 : Int32) : zfrC 100 [3] [] S_55 (fMO_link_55 P_55 S_55 x55_1 x55_2 x55_3 y55_0 y55_1) := by
  unfold fMO_link_55
  have hS_55 : zfr 100 [3] [] S_55 S_55 := zfr.rf
  refine zq_2 (hS_55.c (q_fMO_goes _ _ _ _) (by decide) (by decide)) (fun S3 k2 hS3 => ?_)
  refine zq_if ?_ ?_
  · skip
    exact hS3
  · skip
    refine zq_l (fun k6 => ?_)
    refine zq_l (fun P7 => ?_)
    refine zq_l (fun k9 => ?_)
    refine zq_l (fun P10 => ?_)
    refine zq_l (fun k12 => ?_)
    refine zq_l (fun P13 => ?_)
    refine zq_l (fun k15 => ?_)
    refine zq_l (fun k16 => ?_)
    refine zq_l (fun P17 => ?_)
    refine zq_l (fun k19 => ?_)
    refine zq_l (fun k20 => ?_)
    exact hS3
theorem q_fMO_link_54 (P_54 : ZS) (S_54 : ZS) (x54_1 : Int32) (x54_2 : Int32) (x54_3 : Int32) (y54_0 : Int32) : zfrC 100 [3] [] S_54 (fMO_link_54 P_54 S_54 x54_1 x54_2 x54_3 y54_0) := by
  unfold fMO_link_54
  have hS_54 : zfr 100 [3] [] S_54 S_54 := zfr.rf
  exact zfr.c hS_54 (q_fMO_link_55 _ _ _ _ _ _ _ ) (fun _ h => h) (fun _ h => h)
theorem q_fMO_link_34 (P_34 : ZS) (S_34 : ZS) (x34_1 : Int32) (x34_2 : Int32) (x34_3 : Int32) (y34_0 : Int32) : zfrC 100 [3] [] S_34 (fMO_link_34 P_34 S_34 x34_1 x34_2 x34_3 y34_0) := by
  unfold fMO_link_34
  have hS_34 : zfr 100 [3] [] S_34 S_34 := zfr.rf
  refine zq_l (fun k21 => ?_)
  refine zq_if ?_ ?_
  · skip
    refine zq_l (fun k22 => ?_)
    refine zq_if ?_ ?_
    · skip
      exact zfr.c hS_34 (q_fMO_link_54 _ _ _ _ _ _ ) (fun _ h => h) (fun _ h => h)
    · skip
      exact zfr.c hS_34 (q_fMO_link_55 _ _ _ _ _ _ _ ) (fun _ h => h) (fun _ h => h)
  · skip
    exact zfr.c hS_34 (q_fMO_link_54 _ _ _ _ _ _ ) (fun _ h => h) (fun _ h => h)
theorem q_fMO_link_33 (P_33 : ZS) (S_33 : ZS) (x33_1 : Int32) (x33_2 : Int32) (x33_3 : Int32) : zfrC 100 [3] [] S_33 (fMO_link_33 P_33 S_33 x33_1 x33_2 x33_3) := by
  unfold fMO_link_33
  have hS_33 : zfr 100 [3] [] S_33 S_33 := zfr.rf
  exact zfr.c hS_33 (q_fMO_link_34 _ _ _ _ _ _ ) (fun _ h => h) (fun _ h => h)
theorem q_fMO_link (P S : ZS) (x0 : Int32) (x1 : Int32) (x2 : Int32) : zfrC 100 [3] [] S (fMO_link P S x0 x1 x2) := by
  unfold fMO_link
  have hS : zfr 100 [3] [] S S := zfr.rf
  refine zq_l (fun k24 => ?_)
  refine zq_if ?_ ?_
  · skip
    exact zfr.c hS (q_fMO_link_33 _ _ _ _ _ ) (fun _ h => h) (fun _ h => h)
  · skip
    refine zq_l (fun k26 => ?_)
    refine zq_if ?_ ?_
    · skip
      exact zfr.c hS (q_fMO_link_33 _ _ _ _ _ ) (fun _ h => h) (fun _ h => h)
    · skip
      refine zq_l (fun k28 => ?_)
      refine zq_if ?_ ?_
      · skip
        exact zfr.c hS (q_fMO_link_33 _ _ _ _ _ ) (fun _ h => h) (fun _ h => h)
      · skip
        refine zq_if ?_ ?_
        · skip
          exact zfr.c hS (q_fMO_link_33 _ _ _ _ _ ) (fun _ h => h) (fun _ h => h)
        · skip
          exact zfr.c hS (q_fMO_link_34 _ _ _ _ _ _ ) (fun _ h => h) (fun _ h => h)
theorem q_fMO_owner_41 (P_41 : ZS) (S_41 : ZS) (x41_1 : Int32) (x41_2 : Int32) (x41_3 : Int32) (y41_0 : Int32) (y41_1 : Int32) : zfrD 100 [3] [] S_41 (fMO_owner_41 P_41 S_41 x41_1 x41_2 x41_3 y41_0 y41_1) := by
  unfold fMO_owner_41
  have hS_41 : zfr 100 [3] [] S_41 S_41 := zfr.rf
  refine zq_2 (hS_41.c (q_fMO_goes _ _ _ _) (by decide) (by decide)) (fun S3 k2 hS3 => ?_)
  refine zq_if ?_ ?_
  · skip
    exact hS3
  · skip
    refine zq_l (fun P5 => ?_)
    refine zq_l (fun P7 => ?_)
    exact hS3
theorem q_fMO_owner_29 (P_29 : ZS) (S_29 : ZS) (x29_1 : Int32) (x29_2 : Int32) (x29_3 : Int32) (y29_0 : Int32) : zfrD 100 [3] [] S_29 (fMO_owner_29 P_29 S_29 x29_1 x29_2 x29_3 y29_0) := by
  unfold fMO_owner_29
  have hS_29 : zfr 100 [3] [] S_29 S_29 := zfr.rf
  refine zq_l (fun k9 => ?_)
  refine zq_if ?_ ?_
  · skip
    exact zfr.c hS_29 (q_fMO_owner_41 _ _ _ _ _ _ _ ) (fun _ h => h) (fun _ h => h)
  · skip
    exact zfr.c hS_29 (q_fMO_owner_41 _ _ _ _ _ _ _ ) (fun _ h => h) (fun _ h => h)
theorem q_fMO_owner_28 (P_28 : ZS) (S_28 : ZS) (x28_1 : Int32) (x28_2 : Int32) (x28_3 : Int32) : zfrD 100 [3] [] S_28 (fMO_owner_28 P_28 S_28 x28_1 x28_2 x28_3) := by
  unfold fMO_owner_28
  have hS_28 : zfr 100 [3] [] S_28 S_28 := zfr.rf
  exact zfr.c hS_28 (q_fMO_owner_29 _ _ _ _ _ _ ) (fun _ h => h) (fun _ h => h)
theorem q_fMO_owner (P S : ZS) (x0 : Int32) (x1 : Int32) (x2 : Int32) : zfrD 100 [3] [] S (fMO_owner P S x0 x1 x2) := by
  unfold fMO_owner
  have hS : zfr 100 [3] [] S S := zfr.rf
  refine zq_l (fun k11 => ?_)
  refine zq_if ?_ ?_
  · skip
    exact zfr.c hS (q_fMO_owner_28 _ _ _ _ _ ) (fun _ h => h) (fun _ h => h)
  · skip
    refine zq_l (fun k13 => ?_)
    refine zq_if ?_ ?_
    · skip
      exact zfr.c hS (q_fMO_owner_28 _ _ _ _ _ ) (fun _ h => h) (fun _ h => h)
    · skip
      refine zq_l (fun k15 => ?_)
      refine zq_if ?_ ?_
      · skip
        exact zfr.c hS (q_fMO_owner_28 _ _ _ _ _ ) (fun _ h => h) (fun _ h => h)
      · skip
        exact zfr.c hS (q_fMO_owner_29 _ _ _ _ _ _ ) (fun _ h => h) (fun _ h => h)
theorem q_fMO_fail_25 (P : ZS) (S_25 : ZS) : zfrB 100 [9] [33] S_25 (fMO_fail_25 P S_25) := by
  unfold fMO_fail_25
  have hS_25 : zfr 100 [9] [33] S_25 S_25 := zfr.rf
  refine zq_s (hS_25.c (q_fMO_look _ _) (by decide) (by decide)) (fun S2 hS2 => ?_)
  exact hS2
theorem q_fMO_fail_74 (P : ZS) (rc50 : ZS → Int32 → Int32 → (ZS × Int32)) (S_74 : ZS) (x74_1 : Int32) (x74_2 : Int32) (y74_0 : Int32) (hrc50 : ∀ (a0 : ZS) (a1 : Int32) (a2 : Int32), zfrB 100 [5, 7, 8, 9, 11, 12, 13, 14] [10, 11, 14, 18, 19, 20, 23, 24, 25, 26, 27, 33] a0 (rc50 a0 a1 a2)) : zfrB 100 [5, 7, 8, 9, 11, 12, 13, 14] [10, 11, 14, 18, 19, 20, 23, 24, 25, 26, 27, 33] S_74 (fMO_fail_74 P rc50 S_74 x74_1 x74_2 y74_0) := by
  unfold fMO_fail_74
  have hS_74 : zfr 100 [5, 7, 8, 9, 11, 12, 13, 14] [10, 11, 14, 18, 19, 20, 23, 24, 25, 26, 27, 33] S_74 S_74 := zfr.rf
  refine zq_l (fun k5 => ?_)
  refine zq_l (fun k6 => ?_)
  refine zq_l (fun k7 => ?_)
  refine zq_s (hS_74.c (q_fMO_change _ _ _ _ _) (by decide) (by decide)) (fun S9 hS9 => ?_)
  refine zq_s (hS9.c (q_fMO_begins _ _ _ _ _) (by decide) (by decide)) (fun S12 hS12 => ?_)
  refine zq_l (fun k14 => ?_)
  refine zq_l (fun k15 => ?_)
  refine zq_s (hS12.c (q_fMO_news _ _ _ _ _ _) (by decide) (by decide)) (fun S17 hS17 => ?_)
  refine zq_l (fun k19 => ?_)
  exact zfr.c hS17 (hrc50 _ _ _) (fun _ h => h) (fun _ h => h)
theorem q_fMO_fail_50 (P : ZS) (rc50 : ZS → Int32 → Int32 → (ZS × Int32)) (S_50 : ZS) (x50_1 : Int32) (x50_2 : Int32) (hrc50 : ∀ (a0 : ZS) (a1 : Int32) (a2 : Int32), zfrB 100 [5, 7, 8, 9, 11, 12, 13, 14] [10, 11, 14, 18, 19, 20, 23, 24, 25, 26, 27, 33] a0 (rc50 a0 a1 a2)) : zfrB 100 [5, 7, 8, 9, 11, 12, 13, 14] [10, 11, 14, 18, 19, 20, 23, 24, 25, 26, 27, 33] S_50 (fMO_fail_50 P rc50 S_50 x50_1 x50_2) := by
  unfold fMO_fail_50
  have hS_50 : zfr 100 [5, 7, 8, 9, 11, 12, 13, 14] [10, 11, 14, 18, 19, 20, 23, 24, 25, 26, 27, 33] S_50 S_50 := zfr.rf
  refine zq_if ?_ ?_
  · skip
    refine zq_s (hS_50.I (by decide)) (fun S20 hS20 => ?_)
    refine zq_s (hS20.c (q_fMO_look _ _) (by decide) (by decide)) (fun S23 hS23 => ?_)
    exact hS23
  · skip
    refine zq_if ?_ ?_
    · skip
      refine zq_l (fun k26 => ?_)
      exact zfr.c hS_50 (q_fMO_fail_74 _ rc50 _ _ _ _ hrc50) (fun _ h => h) (fun _ h => h)
    · skip
      refine zq_l (fun k25 => ?_)
      exact zfr.c hS_50 (q_fMO_fail_74 _ rc50 _ _ _ _ hrc50) (fun _ h => h) (fun _ h => h)
theorem z_fMO_fail_50 (P : ZS) : ∀ (n : Nat) (S_50 : ZS) (x50_1 : Int32) (x50_2 : Int32), zfrB 100 [5, 7, 8, 9, 11, 12, 13, 14] [10, 11, 14, 18, 19, 20, 23, 24, 25, 26, 27, 33] S_50 (zfix (fun S9 _ _ => (S9, 0)) (fMO_fail_50 P) n S_50 x50_1 x50_2) := by
  intro n
  induction n with
  | zero => intro S_50 x50_1 x50_2; rw [zfix_0]; exact zfr.rf
  | succ n ih => intro S_50 x50_1 x50_2; rw [zfix_s]; exact q_fMO_fail_50 P _ _ _ _  ih
theorem q_fMO_fail (P S : ZS) (x0 : Int32) : zfrB 100 [3, 5, 7, 8, 9, 11, 12, 13, 14] [7, 8, 10, 11, 14, 18, 19, 20, 23, 24, 25, 26, 27, 33] S (fMO_fail P S x0) := by
  unfold fMO_fail
  have hS : zfr 100 [3, 5, 7, 8, 9, 11, 12, 13, 14] [7, 8, 10, 11, 14, 18, 19, 20, 23, 24, 25, 26, 27, 33] S S := zfr.rf
  refine zq_l (fun k28 => ?_)
  refine zq_l (fun k29 => ?_)
  refine zq_2 (hS.c (q_fMO_goes _ _ _ _) (by decide) (by decide)) (fun S32 k31 hS32 => ?_)
  refine zq_if ?_ ?_
  · skip
    exact zfr.c hS32 (q_fMO_fail_25 _ _ ) (by decide) (by decide)
  · skip
    refine zq_l (fun k34 => ?_)
    refine zq_if ?_ ?_
    · skip
      refine zq_s (hS32.F (by decide)) (fun S35 hS35 => ?_)
      refine zq_l (fun k37 => ?_)
      refine zq_l (fun k38 => ?_)
      refine zq_s (hS35.F (by decide)) (fun S39 hS39 => ?_)
      exact zfr.c hS39 (z_fMO_fail_50 P  3 _ _ _) (by decide) (by decide)
    · skip
      exact zfr.c hS32 (q_fMO_fail_25 _ _ ) (by decide) (by decide)
theorem q_fMO_heal_25 (P : ZS) (S_25 : ZS) : zfrB 100 [9] [33] S_25 (fMO_heal_25 P S_25) := by
  unfold fMO_heal_25
  have hS_25 : zfr 100 [9] [33] S_25 S_25 := zfr.rf
  refine zq_s (hS_25.c (q_fMO_look _ _) (by decide) (by decide)) (fun S2 hS2 => ?_)
  exact hS2
theorem q_fMO_heal (P S : ZS) (x0 : Int32) : zfrB 100 [3, 7, 9] [7, 10, 13, 14, 33] S (fMO_heal P S x0) := by
  unfold fMO_heal
  have hS : zfr 100 [3, 7, 9] [7, 10, 13, 14, 33] S S := zfr.rf
  refine zq_l (fun k5 => ?_)
  refine zq_l (fun k6 => ?_)
  refine zq_2 (hS.c (q_fMO_goes _ _ _ _) (by decide) (by decide)) (fun S9 k8 hS9 => ?_)
  refine zq_if ?_ ?_
  · skip
    exact zfr.c hS9 (q_fMO_heal_25 _ _ ) (by decide) (by decide)
  · skip
    refine zq_l (fun k11 => ?_)
    refine zq_if ?_ ?_
    · skip
      exact zfr.c hS9 (q_fMO_heal_25 _ _ ) (by decide) (by decide)
    · skip
      refine zq_s (hS9.F (by decide)) (fun S12 hS12 => ?_)
      refine zq_l (fun k14 => ?_)
      refine zq_s (hS12.c (q_fMO_ends _ _ _ _ _) (by decide) (by decide)) (fun S16 hS16 => ?_)
      refine zq_l (fun k18 => ?_)
      refine zq_s (hS16.c (q_fMO_ends _ _ _ _ _) (by decide) (by decide)) (fun S20 hS20 => ?_)
      refine zq_s (hS20.I (by decide)) (fun S22 hS22 => ?_)
      refine zq_s (hS22.c (q_fMO_look _ _) (by decide) (by decide)) (fun S25 hS25 => ?_)
      exact hS25
theorem q_fMO_lose_25 (P : ZS) (S_25 : ZS) (x25_1 : Int32) (x25_2 : Int32) (y25_0 : Int32) : zfrB 100 [3] [9] S_25 (fMO_lose_25 P S_25 x25_1 x25_2 y25_0) := by
  unfold fMO_lose_25
  have hS_25 : zfr 100 [3] [9] S_25 S_25 := zfr.rf
  refine zq_l (fun k1 => ?_)
  refine zq_2 (hS_25.c (q_fMO_goes _ _ _ _) (by decide) (by decide)) (fun S4 k3 hS4 => ?_)
  refine zq_if ?_ ?_
  · skip
    exact hS4
  · skip
    refine zq_l (fun k6 => ?_)
    refine zq_s (hS4.F (by decide)) (fun S7 hS7 => ?_)
    exact hS7
theorem q_fMO_lose_24 (P : ZS) (S_24 : ZS) (x24_1 : Int32) (x24_2 : Int32) : zfrB 100 [3] [9] S_24 (fMO_lose_24 P S_24 x24_1 x24_2) := by
  unfold fMO_lose_24
  have hS_24 : zfr 100 [3] [9] S_24 S_24 := zfr.rf
  exact zfr.c hS_24 (q_fMO_lose_25 _ _ _ _ _ ) (fun _ h => h) (fun _ h => h)
theorem q_fMO_lose (P S : ZS) (x0 : Int32) (x1 : Int32) : zfrB 100 [3] [9] S (fMO_lose P S x0 x1) := by
  unfold fMO_lose
  have hS : zfr 100 [3] [9] S S := zfr.rf
  refine zq_l (fun k10 => ?_)
  refine zq_if ?_ ?_
  · skip
    exact zfr.c hS (q_fMO_lose_24 _ _ _ _ ) (fun _ h => h) (fun _ h => h)
  · skip
    refine zq_if ?_ ?_
    · skip
      exact zfr.c hS (q_fMO_lose_24 _ _ _ _ ) (fun _ h => h) (fun _ h => h)
    · skip
      refine zq_if ?_ ?_
      · skip
        exact zfr.c hS (q_fMO_lose_24 _ _ _ _ ) (fun _ h => h) (fun _ h => h)
      · skip
        exact zfr.c hS (q_fMO_lose_25 _ _ _ _ _ ) (fun _ h => h) (fun _ h => h)
theorem q_fMO_order_175 (P : ZS) (S_175 : ZS) (x175_6 : Int32) : zfrB 100 [9] [33] S_175 (fMO_order_175 P S_175 x175_6) := by
  unfold fMO_order_175
  have hS_175 : zfr 100 [9] [33] S_175 S_175 := zfr.rf
  refine zq_s (hS_175.c (q_fMO_look _ _) (by decide) (by decide)) (fun S2 hS2 => ?_)
  exact hS2
theorem q_fMO_order_94 (P : ZS) (S_94 : ZS) (x94_1 : Int32) (x94_2 : Int32) (x94_4 : Int32) (x94_5 : Int32) (y94_0 : Int32) : zfrB 100 [5, 7, 8, 9, 11, 12, 13, 14] [10, 11, 13, 14, 15, 16, 17, 18, 19, 20, 23, 24, 25, 26, 27, 33] S_94 (fMO_order_94 P S_94 x94_1 x94_2 x94_4 x94_5 y94_0) := by
  unfold fMO_order_94
  have hS_94 : zfr 100 [5, 7, 8, 9, 11, 12, 13, 14] [10, 11, 13, 14, 15, 16, 17, 18, 19, 20, 23, 24, 25, 26, 27, 33] S_94 S_94 := zfr.rf
  refine zq_if ?_ ?_
  · skip
    exact zfr.c hS_94 (q_fMO_order_175 _ _ _ ) (by decide) (by decide)
  · skip
    refine zq_l (fun k4 => ?_)
    refine zq_2 (hS_94.c (q_fMO_endCommand _ _ _ _) (by decide) (by decide)) (fun S7 k6 hS7 => ?_)
    refine zq_s (hS7.F (by decide)) (fun S9 hS9 => ?_)
    refine zq_s (hS9.F (by decide)) (fun S11 hS11 => ?_)
    refine zq_s (hS11.c (q_fMO_begins _ _ _ _ _) (by decide) (by decide)) (fun S14 hS14 => ?_)
    refine zq_l (fun k16 => ?_)
    refine zq_l (fun k17 => ?_)
    refine zq_s (hS14.F (by decide)) (fun S18 hS18 => ?_)
    refine zq_l (fun k20 => ?_)
    refine zq_l (fun k21 => ?_)
    refine zq_l (fun k22 => ?_)
    refine zq_s (hS18.c (q_fMO_news _ _ _ _ _ _) (by decide) (by decide)) (fun S24 hS24 => ?_)
    refine zq_s (hS24.I (by decide)) (fun S26 hS26 => ?_)
    exact zfr.c hS26 (q_fMO_order_175 _ _ _ ) (by decide) (by decide)
theorem q_fMO_order_89 (P : ZS) (S_89 : ZS) (x89_1 : Int32) (x89_2 : Int32) (x89_4 : Int32) (x89_5 : Int32) : zfrB 100 [5, 7, 8, 9, 11, 12, 13, 14] [10, 11, 13, 14, 15, 16, 17, 18, 19, 20, 23, 24, 25, 26, 27, 33] S_89 (fMO_order_89 P S_89 x89_1 x89_2 x89_4 x89_5) := by
  unfold fMO_order_89
  have hS_89 : zfr 100 [5, 7, 8, 9, 11, 12, 13, 14] [10, 11, 13, 14, 15, 16, 17, 18, 19, 20, 23, 24, 25, 26, 27, 33] S_89 S_89 := zfr.rf
  exact zfr.c hS_89 (q_fMO_order_94 _ _ _ _ _ _ _ ) (fun _ h => h) (fun _ h => h)
theorem q_fMO_order_64 (P : ZS) (S_64 : ZS) (x64_1 : Int32) (x64_2 : Int32) (x64_4 : Int32) (y64_0 : Int32) : zfrB 100 [5, 7, 8, 9, 11, 12, 13, 14] [10, 11, 13, 14, 15, 16, 17, 18, 19, 20, 23, 24, 25, 26, 27, 33] S_64 (fMO_order_64 P S_64 x64_1 x64_2 x64_4 y64_0) := by
  unfold fMO_order_64
  have hS_64 : zfr 100 [5, 7, 8, 9, 11, 12, 13, 14] [10, 11, 13, 14, 15, 16, 17, 18, 19, 20, 23, 24, 25, 26, 27, 33] S_64 S_64 := zfr.rf
  refine zq_l (fun k28 => ?_)
  refine zq_if ?_ ?_
  · skip
    refine zq_l (fun k29 => ?_)
    refine zq_if ?_ ?_
    · skip
      exact zfr.c hS_64 (q_fMO_order_94 _ _ _ _ _ _ _ ) (fun _ h => h) (fun _ h => h)
    · skip
      exact zfr.c hS_64 (q_fMO_order_89 _ _ _ _ _ _ ) (fun _ h => h) (fun _ h => h)
  · skip
    exact zfr.c hS_64 (q_fMO_order_89 _ _ _ _ _ _ ) (fun _ h => h) (fun _ h => h)
theorem q_fMO_order_31 (P : ZS) (S_31 : ZS) (x31_1 : Int32) (x31_2 : Int32) (x31_3 : Int32) (y31_0 : Int32) : zfrB 100 [3, 5, 7, 8, 9, 11, 12, 13, 14] [10, 11, 13, 14, 15, 16, 17, 18, 19, 20, 23, 24, 25, 26, 27, 33] S_31 (fMO_order_31 P S_31 x31_1 x31_2 x31_3 y31_0) := by
  unfold fMO_order_31
  have hS_31 : zfr 100 [3, 5, 7, 8, 9, 11, 12, 13, 14] [10, 11, 13, 14, 15, 16, 17, 18, 19, 20, 23, 24, 25, 26, 27, 33] S_31 S_31 := zfr.rf
  refine zq_l (fun k30 => ?_)
  refine zq_2 (hS_31.c (q_fMO_goes _ _ _ _) (by decide) (by decide)) (fun S33 k32 hS33 => ?_)
  refine zq_if ?_ ?_
  · skip
    exact hS33
  · skip
    refine zq_l (fun k35 => ?_)
    refine zq_l (fun k37 => ?_)
    refine zq_if ?_ ?_
    · skip
      exact zfr.c hS33 (q_fMO_order_64 _ _ _ _ _ _ ) (by decide) (by decide)
    · skip
      exact zfr.c hS33 (q_fMO_order_64 _ _ _ _ _ _ ) (by decide) (by decide)
theorem q_fMO_order_30 (P : ZS) (S_30 : ZS) (x30_1 : Int32) (x30_2 : Int32) (x30_3 : Int32) : zfrB 100 [3, 5, 7, 8, 9, 11, 12, 13, 14] [10, 11, 13, 14, 15, 16, 17, 18, 19, 20, 23, 24, 25, 26, 27, 33] S_30 (fMO_order_30 P S_30 x30_1 x30_2 x30_3) := by
  unfold fMO_order_30
  have hS_30 : zfr 100 [3, 5, 7, 8, 9, 11, 12, 13, 14] [10, 11, 13, 14, 15, 16, 17, 18, 19, 20, 23, 24, 25, 26, 27, 33] S_30 S_30 := zfr.rf
  exact zfr.c hS_30 (q_fMO_order_31 _ _ _ _ _ _ ) (fun _ h => h) (fun _ h => h)
theorem q_fMO_order (P S : ZS) (x0 : Int32) (x1 : Int32) (x2 : Int32) : zfrB 100 [3, 5, 7, 8, 9, 11, 12, 13, 14] [10, 11, 13, 14, 15, 16, 17, 18, 19, 20, 23, 24, 25, 26, 27, 33] S (fMO_order P S x0 x1 x2) := by
  unfold fMO_order
  have hS : zfr 100 [3, 5, 7, 8, 9, 11, 12, 13, 14] [10, 11, 13, 14, 15, 16, 17, 18, 19, 20, 23, 24, 25, 26, 27, 33] S S := zfr.rf
  refine zq_l (fun k39 => ?_)
  refine zq_if ?_ ?_
  · skip
    exact zfr.c hS (q_fMO_order_30 _ _ _ _ _ ) (fun _ h => h) (fun _ h => h)
  · skip
    refine zq_l (fun k41 => ?_)
    refine zq_if ?_ ?_
    · skip
      exact zfr.c hS (q_fMO_order_30 _ _ _ _ _ ) (fun _ h => h) (fun _ h => h)
    · skip
      refine zq_l (fun k43 => ?_)
      refine zq_if ?_ ?_
      · skip
        exact zfr.c hS (q_fMO_order_30 _ _ _ _ _ ) (fun _ h => h) (fun _ h => h)
      · skip
        exact zfr.c hS (q_fMO_order_31 _ _ _ _ _ _ ) (fun _ h => h) (fun _ h => h)
theorem q_fMO_clear_53 (P : ZS) (S_53 : ZS) (x53_3 : Int32) (y53_0 : Int32) : zfrB 100 [7, 9] [33] S_53 (fMO_clear_53 P S_53 x53_3 y53_0) := by
  unfold fMO_clear_53
  have hS_53 : zfr 100 [7, 9] [33] S_53 S_53 := zfr.rf
  refine zq_s (hS_53.I (by decide)) (fun S1 hS1 => ?_)
  refine zq_s (hS1.c (q_fMO_look _ _) (by decide) (by decide)) (fun S4 hS4 => ?_)
  exact hS4
theorem q_fMO_clear_21 (P : ZS) (S_21 : ZS) (x21_1 : Int32) (x21_2 : Int32) (y21_0 : Int32) : zfrB 100 [3, 7, 8, 9] [10, 13, 14, 15, 33] S_21 (fMO_clear_21 P S_21 x21_1 x21_2 y21_0) := by
  unfold fMO_clear_21
  have hS_21 : zfr 100 [3, 7, 8, 9] [10, 13, 14, 15, 33] S_21 S_21 := zfr.rf
  refine zq_l (fun k6 => ?_)
  refine zq_2 (hS_21.c (q_fMO_goes _ _ _ _) (by decide) (by decide)) (fun S9 k8 hS9 => ?_)
  refine zq_if ?_ ?_
  · skip
    exact hS9
  · skip
    refine zq_2 (hS9.c (q_fMO_endCommand _ _ _ _) (by decide) (by decide)) (fun S13 k12 hS13 => ?_)
    refine zq_if ?_ ?_
    · skip
      refine zq_l (fun k15 => ?_)
      exact zfr.c hS13 (q_fMO_clear_53 _ _ _ _ ) (by decide) (by decide)
    · skip
      exact zfr.c hS13 (q_fMO_clear_53 _ _ _ _ ) (by decide) (by decide)
theorem q_fMO_clear_20 (P : ZS) (S_20 : ZS) (x20_1 : Int32) (x20_2 : Int32) : zfrB 100 [3, 7, 8, 9] [10, 13, 14, 15, 33] S_20 (fMO_clear_20 P S_20 x20_1 x20_2) := by
  unfold fMO_clear_20
  have hS_20 : zfr 100 [3, 7, 8, 9] [10, 13, 14, 15, 33] S_20 S_20 := zfr.rf
  exact zfr.c hS_20 (q_fMO_clear_21 _ _ _ _ _ ) (fun _ h => h) (fun _ h => h)
theorem q_fMO_clear (P S : ZS) (x0 : Int32) (x1 : Int32) : zfrB 100 [3, 7, 8, 9] [10, 13, 14, 15, 33] S (fMO_clear P S x0 x1) := by
  unfold fMO_clear
  have hS : zfr 100 [3, 7, 8, 9] [10, 13, 14, 15, 33] S S := zfr.rf
  refine zq_l (fun k17 => ?_)
  refine zq_if ?_ ?_
  · skip
    exact zfr.c hS (q_fMO_clear_20 _ _ _ _ ) (fun _ h => h) (fun _ h => h)
  · skip
    refine zq_l (fun k19 => ?_)
    refine zq_if ?_ ?_
    · skip
      exact zfr.c hS (q_fMO_clear_20 _ _ _ _ ) (fun _ h => h) (fun _ h => h)
    · skip
      exact zfr.c hS (q_fMO_clear_21 _ _ _ _ _ ) (fun _ h => h) (fun _ h => h)
theorem q_fMO_host_65 (P : ZS) (rc53 : ZS → Int32 → Int32 → Int32 → (ZS × Int32)) (rc65 : ZS → Int32 → Int32 → Int32 → Int32 → (ZS × Int32)) (S_65 : ZS) (x65_1 : Int32) (x65_3 : Int32) (x65_4 : Int32) (x65_5 : Int32) (hrc53 : ∀ (a0 : ZS) (a1 : Int32) (a2 : Int32) (a3 : Int32), zfrB 100 [] [20] a0 (rc53 a0 a1 a2 a3)) (hrc65 : ∀ (a0 : ZS) (a1 : Int32) (a2 : Int32) (a3 : Int32) (a4 : Int32), zfrB 100 [] [20] a0 (rc65 a0 a1 a2 a3 a4)) : zfrB 100 [] [20] S_65 (fMO_host_65 P rc53 rc65 S_65 x65_1 x65_3 x65_4 x65_5) := by
  unfold fMO_host_65
  have hS_65 : zfr 100 [] [20] S_65 S_65 := zfr.rf
  refine zq_if ?_ ?_
  · skip
    refine zq_l (fun k1 => ?_)
    exact zfr.c hS_65 (hrc53 _ _ _ _) (fun _ h => h) (fun _ h => h)
  · skip
    refine zq_l (fun k2 => ?_)
    refine zq_l (fun k3 => ?_)
    refine zq_l (fun k4 => ?_)
    refine zq_l (fun k5 => ?_)
    refine zq_s (hS_65.F (by decide)) (fun S6 hS6 => ?_)
    refine zq_l (fun k8 => ?_)
    exact zfr.c hS6 (hrc65 _ _ _ _ _) (fun _ h => h) (fun _ h => h)
theorem z_fMO_host_65 (P : ZS) (rc53 : ZS → Int32 → Int32 → Int32 → (ZS × Int32)) (hrc53 : ∀ (a0 : ZS) (a1 : Int32) (a2 : Int32) (a3 : Int32), zfrB 100 [] [20] a0 (rc53 a0 a1 a2 a3)) : ∀ (n : Nat) (S_65 : ZS) (x65_1 : Int32) (x65_3 : Int32) (x65_4 : Int32) (x65_5 : Int32), zfrB 100 [] [20] S_65 (zfix (fun S9 _ _ _ _ => (S9, 0)) (fMO_host_65 P rc53) n S_65 x65_1 x65_3 x65_4 x65_5) := by
  intro n
  induction n with
  | zero => intro S_65 x65_1 x65_3 x65_4 x65_5; rw [zfix_0]; exact zfr.rf
  | succ n ih => intro S_65 x65_1 x65_3 x65_4 x65_5; rw [zfix_s]; exact q_fMO_host_65 P rc53 _ _ _ _ _ _ hrc53 ih
theorem q_fMO_host_53 (P : ZS) (rc53 : ZS → Int32 → Int32 → Int32 → (ZS × Int32)) (S_53 : ZS) (x53_1 : Int32) (x53_3 : Int32) (x53_4 : Int32) (hrc53 : ∀ (a0 : ZS) (a1 : Int32) (a2 : Int32) (a3 : Int32), zfrB 100 [] [20] a0 (rc53 a0 a1 a2 a3)) : zfrB 100 [] [20] S_53 (fMO_host_53 P rc53 S_53 x53_1 x53_3 x53_4) := by
  unfold fMO_host_53
  have hS_53 : zfr 100 [] [20] S_53 S_53 := zfr.rf
  refine zq_l (fun k9 => ?_)
  refine zq_if ?_ ?_
  · skip
    exact hS_53
  · skip
    exact zfr.c hS_53 (z_fMO_host_65 P rc53 hrc53 5 _ _ _ _ _) (fun _ h => h) (fun _ h => h)
theorem z_fMO_host_53 (P : ZS) : ∀ (n : Nat) (S_53 : ZS) (x53_1 : Int32) (x53_3 : Int32) (x53_4 : Int32), zfrB 100 [] [20] S_53 (zfix (fun S9 _ _ _ => (S9, 0)) (fMO_host_53 P) n S_53 x53_1 x53_3 x53_4) := by
  intro n
  induction n with
  | zero => intro S_53 x53_1 x53_3 x53_4; rw [zfix_0]; exact zfr.rf
  | succ n ih => intro S_53 x53_1 x53_3 x53_4; rw [zfix_s]; exact q_fMO_host_53 P _ _ _ _ _  ih
theorem q_fMO_host_24 (P : ZS) (S_24 : ZS) (x24_1 : Int32) (x24_2 : Int32) (y24_0 : Int32) : zfrB 100 [3] [20, 22] S_24 (fMO_host_24 P S_24 x24_1 x24_2 y24_0) := by
  unfold fMO_host_24
  have hS_24 : zfr 100 [3] [20, 22] S_24 S_24 := zfr.rf
  refine zq_l (fun k10 => ?_)
  refine zq_2 (hS_24.c (q_fMO_goes _ _ _ _) (by decide) (by decide)) (fun S13 k12 hS13 => ?_)
  refine zq_if ?_ ?_
  · skip
    exact hS13
  · skip
    refine zq_l (fun k15 => ?_)
    refine zq_s (hS13.F (by decide)) (fun S16 hS16 => ?_)
    exact zfr.c hS16 (z_fMO_host_53 P  49 _ _ _ _) (by decide) (by decide)
theorem q_fMO_host_23 (P : ZS) (S_23 : ZS) (x23_1 : Int32) (x23_2 : Int32) : zfrB 100 [3] [20, 22] S_23 (fMO_host_23 P S_23 x23_1 x23_2) := by
  unfold fMO_host_23
  have hS_23 : zfr 100 [3] [20, 22] S_23 S_23 := zfr.rf
  exact zfr.c hS_23 (q_fMO_host_24 _ _ _ _ _ ) (fun _ h => h) (fun _ h => h)
theorem q_fMO_host (P S : ZS) (x0 : Int32) (x1 : Int32) : zfrB 100 [3] [20, 22] S (fMO_host P S x0 x1) := by
  unfold fMO_host
  have hS : zfr 100 [3] [20, 22] S S := zfr.rf
  refine zq_if ?_ ?_
  · skip
    exact zfr.c hS (q_fMO_host_23 _ _ _ _ ) (fun _ h => h) (fun _ h => h)
  · skip
    refine zq_if ?_ ?_
    · skip
      exact zfr.c hS (q_fMO_host_23 _ _ _ _ ) (fun _ h => h) (fun _ h => h)
    · skip
      refine zq_l (fun k19 => ?_)
      refine zq_if ?_ ?_
      · skip
        exact zfr.c hS (q_fMO_host_23 _ _ _ _ ) (fun _ h => h) (fun _ h => h)
      · skip
        exact zfr.c hS (q_fMO_host_24 _ _ _ _ _ ) (fun _ h => h) (fun _ h => h)
theorem q_fMO_visits (P S : ZS) : zfrB 100 [3] [] S (fMO_visits P S) := by
  unfold fMO_visits
  have hS : zfr 100 [3] [] S S := zfr.rf
  refine zq_s (hS.I (by decide)) (fun S1 hS1 => ?_)
  refine zq_l (fun k3 => ?_)
  exact hS1
theorem q_fMO_holds_31 (P : ZS) (S_31 : ZS) (x31_1 : Int32) (x31_2 : Int32) (y31_0 : Int32) : zfrB 100 [3] [] S_31 (fMO_holds_31 P S_31 x31_1 x31_2 y31_0) := by
  unfold fMO_holds_31
  have hS_31 : zfr 100 [3] [] S_31 S_31 := zfr.rf
  refine zq_s (hS_31.I (by decide)) (fun S1 hS1 => ?_)
  refine zq_l (fun k3 => ?_)
  refine zq_if ?_ ?_
  · skip
    refine zq_l (fun k5 => ?_)
    refine zq_l (fun k6 => ?_)
    exact hS1
  · skip
    exact hS1
theorem q_fMO_holds_30 (P : ZS) (S_30 : ZS) (x30_1 : Int32) (x30_2 : Int32) : zfrB 100 [3] [] S_30 (fMO_holds_30 P S_30 x30_1 x30_2) := by
  unfold fMO_holds_30
  have hS_30 : zfr 100 [3] [] S_30 S_30 := zfr.rf
  exact zfr.c hS_30 (q_fMO_holds_31 _ _ _ _ _ ) (fun _ h => h) (fun _ h => h)
theorem q_fMO_holds (P S : ZS) (x0 : Int32) (x1 : Int32) : zfrB 100 [3] [] S (fMO_holds P S x0 x1) := by
  unfold fMO_holds
  have hS : zfr 100 [3] [] S S := zfr.rf
  refine zq_l (fun k8 => ?_)
  refine zq_if ?_ ?_
  · skip
    exact zfr.c hS (q_fMO_holds_30 _ _ _ _ ) (fun _ h => h) (fun _ h => h)
  · skip
    refine zq_l (fun k10 => ?_)
    refine zq_if ?_ ?_
    · skip
      exact zfr.c hS (q_fMO_holds_30 _ _ _ _ ) (fun _ h => h) (fun _ h => h)
    · skip
      refine zq_l (fun k12 => ?_)
      refine zq_if ?_ ?_
      · skip
        exact zfr.c hS (q_fMO_holds_30 _ _ _ _ ) (fun _ h => h) (fun _ h => h)
      · skip
        exact zfr.c hS (q_fMO_holds_31 _ _ _ _ _ ) (fun _ h => h) (fun _ h => h)
theorem q_fMO_told_30 (P : ZS) (S_30 : ZS) (x30_1 : Int32) (x30_2 : Int32) (x30_3 : Int32) (y30_0 : Int32) : zfrB 100 [3] [] S_30 (fMO_told_30 P S_30 x30_1 x30_2 x30_3 y30_0) := by
  unfold fMO_told_30
  have hS_30 : zfr 100 [3] [] S_30 S_30 := zfr.rf
  refine zq_s (hS_30.I (by decide)) (fun S1 hS1 => ?_)
  refine zq_l (fun k3 => ?_)
  refine zq_if ?_ ?_
  · skip
    refine zq_if ?_ ?_
    · skip
      refine zq_l (fun k10 => ?_)
      exact hS1
    · skip
      refine zq_if ?_ ?_
      · skip
        refine zq_l (fun k8 => ?_)
        refine zq_l (fun k9 => ?_)
        exact hS1
      · skip
        refine zq_l (fun k5 => ?_)
        refine zq_if ?_ ?_
        · skip
          exact hS1
        · skip
          refine zq_l (fun k6 => ?_)
          exact hS1
  · skip
    exact hS1
theorem q_fMO_told_29 (P : ZS) (S_29 : ZS) (x29_1 : Int32) (x29_2 : Int32) (x29_3 : Int32) : zfrB 100 [3] [] S_29 (fMO_told_29 P S_29 x29_1 x29_2 x29_3) := by
  unfold fMO_told_29
  have hS_29 : zfr 100 [3] [] S_29 S_29 := zfr.rf
  exact zfr.c hS_29 (q_fMO_told_30 _ _ _ _ _ _ ) (fun _ h => h) (fun _ h => h)
theorem q_fMO_told (P S : ZS) (x0 : Int32) (x1 : Int32) (x2 : Int32) : zfrB 100 [3] [] S (fMO_told P S x0 x1 x2) := by
  unfold fMO_told
  have hS : zfr 100 [3] [] S S := zfr.rf
  refine zq_l (fun k12 => ?_)
  refine zq_if ?_ ?_
  · skip
    exact zfr.c hS (q_fMO_told_29 _ _ _ _ _ ) (fun _ h => h) (fun _ h => h)
  · skip
    refine zq_l (fun k14 => ?_)
    refine zq_if ?_ ?_
    · skip
      exact zfr.c hS (q_fMO_told_29 _ _ _ _ _ ) (fun _ h => h) (fun _ h => h)
    · skip
      refine zq_if ?_ ?_
      · skip
        exact zfr.c hS (q_fMO_told_29 _ _ _ _ _ ) (fun _ h => h) (fun _ h => h)
      · skip
        refine zq_if ?_ ?_
        · skip
          exact zfr.c hS (q_fMO_told_29 _ _ _ _ _ ) (fun _ h => h) (fun _ h => h)
        · skip
          exact zfr.c hS (q_fMO_told_30 _ _ _ _ _ _ ) (fun _ h => h) (fun _ h => h)
theorem q_fMO_learned_33 (P : ZS) (S_33 : ZS) (x33_1 : Int32) (x33_2 : Int32) (x33_3 : Int32) (y33_0 : Int32) : zfrB 100 [3] [] S_33 (fMO_learned_33 P S_33 x33_1 x33_2 x33_3 y33_0) := by
  unfold fMO_learned_33
  have hS_33 : zfr 100 [3] [] S_33 S_33 := zfr.rf
  refine zq_s (hS_33.I (by decide)) (fun S1 hS1 => ?_)
  refine zq_l (fun k3 => ?_)
  refine zq_if ?_ ?_
  · skip
    refine zq_l (fun k5 => ?_)
    exact hS1
  · skip
    exact hS1
theorem q_fMO_learned_32 (P : ZS) (S_32 : ZS) (x32_1 : Int32) (x32_2 : Int32) (x32_3 : Int32) : zfrB 100 [3] [] S_32 (fMO_learned_32 P S_32 x32_1 x32_2 x32_3) := by
  unfold fMO_learned_32
  have hS_32 : zfr 100 [3] [] S_32 S_32 := zfr.rf
  exact zfr.c hS_32 (q_fMO_learned_33 _ _ _ _ _ _ ) (fun _ h => h) (fun _ h => h)
theorem q_fMO_learned (P S : ZS) (x0 : Int32) (x1 : Int32) (x2 : Int32) : zfrB 100 [3] [] S (fMO_learned P S x0 x1 x2) := by
  unfold fMO_learned
  have hS : zfr 100 [3] [] S S := zfr.rf
  refine zq_l (fun k7 => ?_)
  refine zq_if ?_ ?_
  · skip
    exact zfr.c hS (q_fMO_learned_32 _ _ _ _ _ ) (fun _ h => h) (fun _ h => h)
  · skip
    refine zq_if ?_ ?_
    · skip
      exact zfr.c hS (q_fMO_learned_32 _ _ _ _ _ ) (fun _ h => h) (fun _ h => h)
    · skip
      refine zq_if ?_ ?_
      · skip
        exact zfr.c hS (q_fMO_learned_32 _ _ _ _ _ ) (fun _ h => h) (fun _ h => h)
      · skip
        refine zq_if ?_ ?_
        · skip
          exact zfr.c hS (q_fMO_learned_32 _ _ _ _ _ ) (fun _ h => h) (fun _ h => h)
        · skip
          refine zq_if ?_ ?_
          · skip
            exact zfr.c hS (q_fMO_learned_32 _ _ _ _ _ ) (fun _ h => h) (fun _ h => h)
          · skip
            exact zfr.c hS (q_fMO_learned_33 _ _ _ _ _ _ ) (fun _ h => h) (fun _ h => h)
theorem q_fMO_joined_99 (P : ZS) (rc59 : ZS → Int32 → Int32 → Int32 → (ZS × Int32)) (S_99 : ZS) (x99_1 : Int32) (x99_2 : Int32) (x99_3 : Int32) (y99_0 : Int32) (hrc59 : ∀ (a0 : ZS) (a1 : Int32) (a2 : Int32) (a3 : Int32), zfrB 100 [] [33] a0 (rc59 a0 a1 a2 a3)) : zfrB 100 [] [33] S_99 (fMO_joined_99 P rc59 S_99 x99_1 x99_2 x99_3 y99_0) := by
  unfold fMO_joined_99
  have hS_99 : zfr 100 [] [33] S_99 S_99 := zfr.rf
  refine zq_l (fun k1 => ?_)
  exact zfr.c hS_99 (hrc59 _ _ _ _) (fun _ h => h) (fun _ h => h)
theorem q_fMO_joined_98 (P : ZS) (rc59 : ZS → Int32 → Int32 → Int32 → (ZS × Int32)) (S_98 : ZS) (x98_1 : Int32) (x98_2 : Int32) (x98_3 : Int32) (hrc59 : ∀ (a0 : ZS) (a1 : Int32) (a2 : Int32) (a3 : Int32), zfrB 100 [] [33] a0 (rc59 a0 a1 a2 a3)) : zfrB 100 [] [33] S_98 (fMO_joined_98 P rc59 S_98 x98_1 x98_2 x98_3) := by
  unfold fMO_joined_98
  have hS_98 : zfr 100 [] [33] S_98 S_98 := zfr.rf
  exact zfr.c hS_98 (q_fMO_joined_99 _ rc59 _ _ _ _ _ hrc59) (fun _ h => h) (fun _ h => h)
theorem q_fMO_joined_59 (P : ZS) (rc59 : ZS → Int32 → Int32 → Int32 → (ZS × Int32)) (S_59 : ZS) (x59_1 : Int32) (x59_2 : Int32) (x59_3 : Int32) (hrc59 : ∀ (a0 : ZS) (a1 : Int32) (a2 : Int32) (a3 : Int32), zfrB 100 [] [33] a0 (rc59 a0 a1 a2 a3)) : zfrB 100 [] [33] S_59 (fMO_joined_59 P rc59 S_59 x59_1 x59_2 x59_3) := by
  unfold fMO_joined_59
  have hS_59 : zfr 100 [] [33] S_59 S_59 := zfr.rf
  refine zq_l (fun k2 => ?_)
  refine zq_if ?_ ?_
  · skip
    refine zq_l (fun k3 => ?_)
    refine zq_l (fun k4 => ?_)
    refine zq_if ?_ ?_
    · skip
      exact hS_59
    · skip
      exact hS_59
  · skip
    refine zq_l (fun k6 => ?_)
    refine zq_if ?_ ?_
    · skip
      exact zfr.c hS_59 (q_fMO_joined_98 _ rc59 _ _ _ _ hrc59) (fun _ h => h) (fun _ h => h)
    · skip
      refine zq_l (fun k7 => ?_)
      refine zq_l (fun k8 => ?_)
      refine zq_2 (hS_59.c (q_fMO_join _ _ _ _) (by decide) (by decide)) (fun S11 k10 hS11 => ?_)
      refine zq_if ?_ ?_
      · skip
        exact zfr.c hS11 (q_fMO_joined_98 _ rc59 _ _ _ _ hrc59) (fun _ h => h) (fun _ h => h)
      · skip
        exact zfr.c hS11 (q_fMO_joined_99 _ rc59 _ _ _ _ _ hrc59) (fun _ h => h) (fun _ h => h)
theorem z_fMO_joined_59 (P : ZS) : ∀ (n : Nat) (S_59 : ZS) (x59_1 : Int32) (x59_2 : Int32) (x59_3 : Int32), zfrB 100 [] [33] S_59 (zfix (fun S9 _ _ _ => (S9, 0)) (fMO_joined_59 P) n S_59 x59_1 x59_2 x59_3) := by
  intro n
  induction n with
  | zero => intro S_59 x59_1 x59_2 x59_3; rw [zfix_0]; exact zfr.rf
  | succ n ih => intro S_59 x59_1 x59_2 x59_3; rw [zfix_s]; exact q_fMO_joined_59 P _ _ _ _ _  ih
theorem q_fMO_joined_36 (P : ZS) (rc36 : ZS → Int32 → Int32 → Int32 → (ZS × Int32)) (S_36 : ZS) (x36_1 : Int32) (x36_2 : Int32) (x36_3 : Int32) (hrc36 : ∀ (a0 : ZS) (a1 : Int32) (a2 : Int32) (a3 : Int32), zfrB 100 [] [33] a0 (rc36 a0 a1 a2 a3)) : zfrB 100 [] [33] S_36 (fMO_joined_36 P rc36 S_36 x36_1 x36_2 x36_3) := by
  unfold fMO_joined_36
  have hS_36 : zfr 100 [] [33] S_36 S_36 := zfr.rf
  refine zq_l (fun k13 => ?_)
  refine zq_if ?_ ?_
  · skip
    exact zfr.c hS_36 (z_fMO_joined_59 P  61 _ _ _ _) (fun _ h => h) (fun _ h => h)
  · skip
    refine zq_s (hS_36.F (by decide)) (fun S14 hS14 => ?_)
    refine zq_l (fun k16 => ?_)
    exact zfr.c hS14 (hrc36 _ _ _ _) (fun _ h => h) (fun _ h => h)
theorem z_fMO_joined_36 (P : ZS) : ∀ (n : Nat) (S_36 : ZS) (x36_1 : Int32) (x36_2 : Int32) (x36_3 : Int32), zfrB 100 [] [33] S_36 (zfix (fun S9 _ _ _ => (S9, 0)) (fMO_joined_36 P) n S_36 x36_1 x36_2 x36_3) := by
  intro n
  induction n with
  | zero => intro S_36 x36_1 x36_2 x36_3; rw [zfix_0]; exact zfr.rf
  | succ n ih => intro S_36 x36_1 x36_2 x36_3; rw [zfix_s]; exact q_fMO_joined_36 P _ _ _ _ _  ih
theorem q_fMO_joined_22 (P : ZS) (S_22 : ZS) (x22_1 : Int32) (x22_2 : Int32) (y22_0 : Int32) : zfrB 100 [3] [33] S_22 (fMO_joined_22 P S_22 x22_1 x22_2 y22_0) := by
  unfold fMO_joined_22
  have hS_22 : zfr 100 [3] [33] S_22 S_22 := zfr.rf
  refine zq_s (hS_22.I (by decide)) (fun S17 hS17 => ?_)
  refine zq_l (fun k19 => ?_)
  refine zq_if ?_ ?_
  · skip
    exact zfr.c hS17 (z_fMO_joined_36 P  49 _ _ _ _) (by decide) (by decide)
  · skip
    exact hS17
theorem q_fMO_joined_21 (P : ZS) (S_21 : ZS) (x21_1 : Int32) (x21_2 : Int32) : zfrB 100 [3] [33] S_21 (fMO_joined_21 P S_21 x21_1 x21_2) := by
  unfold fMO_joined_21
  have hS_21 : zfr 100 [3] [33] S_21 S_21 := zfr.rf
  exact zfr.c hS_21 (q_fMO_joined_22 _ _ _ _ _ ) (fun _ h => h) (fun _ h => h)
theorem q_fMO_joined (P S : ZS) (x0 : Int32) (x1 : Int32) : zfrB 100 [3] [33] S (fMO_joined P S x0 x1) := by
  unfold fMO_joined
  have hS : zfr 100 [3] [33] S S := zfr.rf
  refine zq_l (fun k21 => ?_)
  refine zq_if ?_ ?_
  · skip
    exact zfr.c hS (q_fMO_joined_21 _ _ _ _ ) (fun _ h => h) (fun _ h => h)
  · skip
    refine zq_l (fun k23 => ?_)
    refine zq_if ?_ ?_
    · skip
      exact zfr.c hS (q_fMO_joined_21 _ _ _ _ ) (fun _ h => h) (fun _ h => h)
    · skip
      exact zfr.c hS (q_fMO_joined_22 _ _ _ _ _ ) (fun _ h => h) (fun _ h => h)
theorem q_fMO_casts_9 (P : ZS) (rc9 : ZS → Int32 → Int32 → (ZS × Int32)) (S_9 : ZS) (x9_1 : Int32) (x9_2 : Int32) (hrc9 : ∀ (a0 : ZS) (a1 : Int32) (a2 : Int32), zfrB 100 [] [] a0 (rc9 a0 a1 a2)) : zfrB 100 [] [] S_9 (fMO_casts_9 P rc9 S_9 x9_1 x9_2) := by
  unfold fMO_casts_9
  have hS_9 : zfr 100 [] [] S_9 S_9 := zfr.rf
  refine zq_if ?_ ?_
  · skip
    exact hS_9
  · skip
    refine zq_l (fun k1 => ?_)
    refine zq_l (fun k2 => ?_)
    refine zq_l (fun k3 => ?_)
    exact zfr.c hS_9 (hrc9 _ _ _) (fun _ h => h) (fun _ h => h)
theorem z_fMO_casts_9 (P : ZS) : ∀ (n : Nat) (S_9 : ZS) (x9_1 : Int32) (x9_2 : Int32), zfrB 100 [] [] S_9 (zfix (fun S9 _ _ => (S9, 0)) (fMO_casts_9 P) n S_9 x9_1 x9_2) := by
  intro n
  induction n with
  | zero => intro S_9 x9_1 x9_2; rw [zfix_0]; exact zfr.rf
  | succ n ih => intro S_9 x9_1 x9_2; rw [zfix_s]; exact q_fMO_casts_9 P _ _ _ _  ih
theorem q_fMO_casts (P S : ZS) : zfrB 100 [3] [] S (fMO_casts P S) := by
  unfold fMO_casts
  have hS : zfr 100 [3] [] S S := zfr.rf
  refine zq_s (hS.I (by decide)) (fun S4 hS4 => ?_)
  exact zfr.c hS4 (z_fMO_casts_9 P  121 _ _ _) (by decide) (by decide)
theorem q_fMO_lost (P S : ZS) : zfrB 100 [3] [] S (fMO_lost P S) := by
  unfold fMO_lost
  have hS : zfr 100 [3] [] S S := zfr.rf
  refine zq_s (hS.I (by decide)) (fun S1 hS1 => ?_)
  refine zq_l (fun k3 => ?_)
  exact hS1
theorem q_fMO_circles (P S : ZS) : zfrB 100 [3] [] S (fMO_circles P S) := by
  unfold fMO_circles
  have hS : zfr 100 [3] [] S S := zfr.rf
  refine zq_s (hS.I (by decide)) (fun S1 hS1 => ?_)
  refine zq_l (fun k3 => ?_)
  exact hS1
theorem q_fMO_apart (P S : ZS) : zfrB 100 [3] [] S (fMO_apart P S) := by
  unfold fMO_apart
  have hS : zfr 100 [3] [] S S := zfr.rf
  refine zq_s (hS.I (by decide)) (fun S1 hS1 => ?_)
  refine zq_l (fun k3 => ?_)
  exact hS1
theorem q_fMO_start_144 (rc125 : ZS → ZS → Int32 → (ZS × ZS × Int32)) (P_144 : ZS) (S_144 : ZS) (x144_2 : Int32) (hrc125 : ∀ (a0 : ZS) (a1 : ZS) (a2 : Int32), zfrC 100 [5, 8, 11, 12, 13, 14] [10, 11, 12, 14, 18, 19, 20, 23, 24, 25, 26, 27] a1 (rc125 a0 a1 a2)) : zfrC 100 [5, 8, 11, 12, 13, 14] [10, 11, 12, 14, 18, 19, 20, 23, 24, 25, 26, 27] S_144 (fMO_start_144 rc125 P_144 S_144 x144_2) := by
  unfold fMO_start_144
  have hS_144 : zfr 100 [5, 8, 11, 12, 13, 14] [10, 11, 12, 14, 18, 19, 20, 23, 24, 25, 26, 27] S_144 S_144 := zfr.rf
  refine zq_l (fun k1 => ?_)
  exact zfr.c hS_144 (hrc125 _ _ _) (fun _ h => h) (fun _ h => h)
theorem q_fMO_start_125 (rc125 : ZS → ZS → Int32 → (ZS × ZS × Int32)) (P_125 : ZS) (S_125 : ZS) (x125_2 : Int32) (hrc125 : ∀ (a0 : ZS) (a1 : ZS) (a2 : Int32), zfrC 100 [5, 8, 11, 12, 13, 14] [10, 11, 12, 14, 18, 19, 20, 23, 24, 25, 26, 27] a1 (rc125 a0 a1 a2)) : zfrC 100 [5, 8, 11, 12, 13, 14] [10, 11, 12, 14, 18, 19, 20, 23, 24, 25, 26, 27] S_125 (fMO_start_125 rc125 P_125 S_125 x125_2) := by
  unfold fMO_start_125
  have hS_125 : zfr 100 [5, 8, 11, 12, 13, 14] [10, 11, 12, 14, 18, 19, 20, 23, 24, 25, 26, 27] S_125 S_125 := zfr.rf
  refine zq_if ?_ ?_
  · skip
    exact hS_125
  · skip
    refine zq_l (fun k3 => ?_)
    refine zq_if ?_ ?_
    · skip
      exact zfr.c hS_125 (q_fMO_start_144 rc125 _ _ _ hrc125) (fun _ h => h) (fun _ h => h)
    · skip
      refine zq_s (hS_125.c (q_fMO_takeHold _ _ _) (by decide) (by decide)) (fun S5 hS5 => ?_)
      exact zfr.c hS5 (q_fMO_start_144 rc125 _ _ _ hrc125) (fun _ h => h) (fun _ h => h)
theorem z_fMO_start_125  : ∀ (n : Nat) (P_125 : ZS) (S_125 : ZS) (x125_2 : Int32), zfrC 100 [5, 8, 11, 12, 13, 14] [10, 11, 12, 14, 18, 19, 20, 23, 24, 25, 26, 27] S_125 (zfix (fun P9 S9 _ => (P9, S9, 0)) (fMO_start_125 ) n P_125 S_125 x125_2) := by
  intro n
  induction n with
  | zero => intro P_125 S_125 x125_2; rw [zfix_0]; exact zfr.rf
  | succ n ih => intro P_125 S_125 x125_2; rw [zfix_s]; exact q_fMO_start_125  _ _ _ _  ih
theorem q_fMO_start_111 (rc43 : ZS → ZS → Int32 → (ZS × ZS × Int32)) (rc53 : ZS → ZS → Int32 → Int32 → (ZS × ZS × Int32)) (P_111 : ZS) (S_111 : ZS) (x111_2 : Int32) (x111_3 : Int32) (hrc43 : ∀ (a0 : ZS) (a1 : ZS) (a2 : Int32), zfrC 100 [5, 8, 11, 12, 13, 14] [10, 11, 12, 14, 18, 19, 20, 23, 24, 25, 26, 27] a1 (rc43 a0 a1 a2)) (hrc53 : ∀ (a0 : ZS) (a1 : ZS) (a2 : Int32) (a3 : Int32), zfrC 100 [5, 8, 11, 12, 13, 14] [10, 11, 12, 14, 18, 19, 20, 23, 24, 25, 26, 27] a1 (rc53 a0 a1 a2 a3)) : zfrC 100 [5, 8, 11, 12, 13, 14] [10, 11, 12, 14, 18, 19, 20, 23, 24, 25, 26, 27] S_111 (fMO_start_111 rc43 rc53 P_111 S_111 x111_2 x111_3) := by
  unfold fMO_start_111
  have hS_111 : zfr 100 [5, 8, 11, 12, 13, 14] [10, 11, 12, 14, 18, 19, 20, 23, 24, 25, 26, 27] S_111 S_111 := zfr.rf
  refine zq_l (fun k7 => ?_)
  exact zfr.c hS_111 (hrc53 _ _ _ _) (fun _ h => h) (fun _ h => h)
theorem q_fMO_start_109 (rc43 : ZS → ZS → Int32 → (ZS × ZS × Int32)) (rc53 : ZS → ZS → Int32 → Int32 → (ZS × ZS × Int32)) (P_109 : ZS) (S_109 : ZS) (x109_2 : Int32) (x109_3 : Int32) (y109_0 : Int32) (hrc43 : ∀ (a0 : ZS) (a1 : ZS) (a2 : Int32), zfrC 100 [5, 8, 11, 12, 13, 14] [10, 11, 12, 14, 18, 19, 20, 23, 24, 25, 26, 27] a1 (rc43 a0 a1 a2)) (hrc53 : ∀ (a0 : ZS) (a1 : ZS) (a2 : Int32) (a3 : Int32), zfrC 100 [5, 8, 11, 12, 13, 14] [10, 11, 12, 14, 18, 19, 20, 23, 24, 25, 26, 27] a1 (rc53 a0 a1 a2 a3)) : zfrC 100 [5, 8, 11, 12, 13, 14] [10, 11, 12, 14, 18, 19, 20, 23, 24, 25, 26, 27] S_109 (fMO_start_109 rc43 rc53 P_109 S_109 x109_2 x109_3 y109_0) := by
  unfold fMO_start_109
  have hS_109 : zfr 100 [5, 8, 11, 12, 13, 14] [10, 11, 12, 14, 18, 19, 20, 23, 24, 25, 26, 27] S_109 S_109 := zfr.rf
  refine zq_l (fun P8 => ?_)
  exact zfr.c hS_109 (q_fMO_start_111 rc43 rc53 _ _ _ _ hrc43 hrc53) (fun _ h => h) (fun _ h => h)
theorem q_fMO_start_53 (rc43 : ZS → ZS → Int32 → (ZS × ZS × Int32)) (rc53 : ZS → ZS → Int32 → Int32 → (ZS × ZS × Int32)) (P_53 : ZS) (S_53 : ZS) (x53_2 : Int32) (x53_3 : Int32) (hrc43 : ∀ (a0 : ZS) (a1 : ZS) (a2 : Int32), zfrC 100 [5, 8, 11, 12, 13, 14] [10, 11, 12, 14, 18, 19, 20, 23, 24, 25, 26, 27] a1 (rc43 a0 a1 a2)) (hrc53 : ∀ (a0 : ZS) (a1 : ZS) (a2 : Int32) (a3 : Int32), zfrC 100 [5, 8, 11, 12, 13, 14] [10, 11, 12, 14, 18, 19, 20, 23, 24, 25, 26, 27] a1 (rc53 a0 a1 a2 a3)) : zfrC 100 [5, 8, 11, 12, 13, 14] [10, 11, 12, 14, 18, 19, 20, 23, 24, 25, 26, 27] S_53 (fMO_start_53 rc43 rc53 P_53 S_53 x53_2 x53_3) := by
  unfold fMO_start_53
  have hS_53 : zfr 100 [5, 8, 11, 12, 13, 14] [10, 11, 12, 14, 18, 19, 20, 23, 24, 25, 26, 27] S_53 S_53 := zfr.rf
  refine zq_l (fun k10 => ?_)
  refine zq_if ?_ ?_
  · skip
    refine zq_l (fun k11 => ?_)
    exact zfr.c hS_53 (hrc43 _ _ _) (fun _ h => h) (fun _ h => h)
  · skip
    refine zq_l (fun k13 => ?_)
    refine zq_if ?_ ?_
    · skip
      exact zfr.c hS_53 (q_fMO_start_111 rc43 rc53 _ _ _ _ hrc43 hrc53) (fun _ h => h) (fun _ h => h)
    · skip
      refine zq_l (fun k14 => ?_)
      refine zq_l (fun k15 => ?_)
      refine zq_l (fun k16 => ?_)
      refine zq_l (fun k17 => ?_)
      refine zq_l (fun k18 => ?_)
      refine zq_if ?_ ?_
      · skip
        exact zfr.c hS_53 (q_fMO_start_109 rc43 rc53 _ _ _ _ _ hrc43 hrc53) (fun _ h => h) (fun _ h => h)
      · skip
        refine zq_l (fun k19 => ?_)
        exact zfr.c hS_53 (q_fMO_start_109 rc43 rc53 _ _ _ _ _ hrc43 hrc53) (fun _ h => h) (fun _ h => h)
theorem z_fMO_start_53 (rc43 : ZS → ZS → Int32 → (ZS × ZS × Int32)) (hrc43 : ∀ (a0 : ZS) (a1 : ZS) (a2 : Int32), zfrC 100 [5, 8, 11, 12, 13, 14] [10, 11, 12, 14, 18, 19, 20, 23, 24, 25, 26, 27] a1 (rc43 a0 a1 a2)) : ∀ (n : Nat) (P_53 : ZS) (S_53 : ZS) (x53_2 : Int32) (x53_3 : Int32), zfrC 100 [5, 8, 11, 12, 13, 14] [10, 11, 12, 14, 18, 19, 20, 23, 24, 25, 26, 27] S_53 (zfix (fun P9 S9 _ _ => (P9, S9, 0)) (fMO_start_53 rc43) n P_53 S_53 x53_2 x53_3) := by
  intro n
  induction n with
  | zero => intro P_53 S_53 x53_2 x53_3; rw [zfix_0]; exact zfr.rf
  | succ n ih => intro P_53 S_53 x53_2 x53_3; rw [zfix_s]; exact q_fMO_start_53 rc43 _ _ _ _ _ hrc43 ih
theorem q_fMO_start_43 (rc43 : ZS → ZS → Int32 → (ZS × ZS × Int32)) (P_43 : ZS) (S_43 : ZS) (x43_2 : Int32) (hrc43 : ∀ (a0 : ZS) (a1 : ZS) (a2 : Int32), zfrC 100 [5, 8, 11, 12, 13, 14] [10, 11, 12, 14, 18, 19, 20, 23, 24, 25, 26, 27] a1 (rc43 a0 a1 a2)) : zfrC 100 [5, 8, 11, 12, 13, 14] [10, 11, 12, 14, 18, 19, 20, 23, 24, 25, 26, 27] S_43 (fMO_start_43 rc43 P_43 S_43 x43_2) := by
  unfold fMO_start_43
  have hS_43 : zfr 100 [5, 8, 11, 12, 13, 14] [10, 11, 12, 14, 18, 19, 20, 23, 24, 25, 26, 27] S_43 S_43 := zfr.rf
  refine zq_l (fun k20 => ?_)
  refine zq_if ?_ ?_
  · skip
    exact zfr.c hS_43 (z_fMO_start_125   7 _ _ _) (fun _ h => h) (fun _ h => h)
  · skip
    exact zfr.c hS_43 (z_fMO_start_53 rc43 hrc43 61 _ _ _ _) (fun _ h => h) (fun _ h => h)
theorem z_fMO_start_43  : ∀ (n : Nat) (P_43 : ZS) (S_43 : ZS) (x43_2 : Int32), zfrC 100 [5, 8, 11, 12, 13, 14] [10, 11, 12, 14, 18, 19, 20, 23, 24, 25, 26, 27] S_43 (zfix (fun P9 S9 _ => (P9, S9, 0)) (fMO_start_43 ) n P_43 S_43 x43_2) := by
  intro n
  induction n with
  | zero => intro P_43 S_43 x43_2; rw [zfix_0]; exact zfr.rf
  | succ n ih => intro P_43 S_43 x43_2; rw [zfix_s]; exact q_fMO_start_43  _ _ _ _  ih
theorem q_fMO_start_13 (P_13 : ZS) (S_13 : ZS) (y13_0 : Int32) : zfrC 100 [3, 5, 8, 11, 12, 13, 14] [10, 11, 12, 14, 18, 19, 20, 23, 24, 25, 26, 27, 33] S_13 (fMO_start_13 P_13 S_13 y13_0) := by
  unfold fMO_start_13
  have hS_13 : zfr 100 [3, 5, 8, 11, 12, 13, 14] [10, 11, 12, 14, 18, 19, 20, 23, 24, 25, 26, 27, 33] S_13 S_13 := zfr.rf
  refine zq_s (hS_13.I (by decide)) (fun S21 hS21 => ?_)
  refine zq_l (fun k23 => ?_)
  refine zq_if ?_ ?_
  · skip
    refine zq_3 (hS21.c (q_fMO_faultOf _ _) (by decide) (by decide)) (fun P27 S26 k25 hS26 => ?_)
    refine zq_if ?_ ?_
    · skip
      refine zq_l (fun P29 => ?_)
      exact zfr.c hS26 (z_fMO_start_43   49 _ _ _) (by decide) (by decide)
    · skip
      exact hS26
  · skip
    exact hS21
theorem q_fMO_start (P S : ZS) : zfrC 100 [3, 5, 8, 11, 12, 13, 14] [10, 11, 12, 14, 18, 19, 20, 23, 24, 25, 26, 27, 33] S (fMO_start P S) := by
  unfold fMO_start
  have hS : zfr 100 [3, 5, 8, 11, 12, 13, 14] [10, 11, 12, 14, 18, 19, 20, 23, 24, 25, 26, 27, 33] S S := zfr.rf
  refine zq_l (fun k31 => ?_)
  refine zq_if ?_ ?_
  · skip
    exact zfr.c hS (q_fMO_start_13 _ _ _ ) (fun _ h => h) (fun _ h => h)
  · skip
    exact zfr.c hS (q_fMO_start_13 _ _ _ ) (fun _ h => h) (fun _ h => h)
