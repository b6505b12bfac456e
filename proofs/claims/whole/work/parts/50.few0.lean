/-! the wrapper of few before its gathering is made -/
theorem zSW_put0 {f : Nat → Int32} {μ μ1 : zMem} : ∀ k, k < 1 + nX true → zputS 1 (nX true) (SX true) (zSW false) k = zSW true k ∧ zputM 1 (nX true) μ1 (zMW f μ) k = zMW f μ1 k := by
  intro k hk
  unfold zputS zputM
  by_cases hk0 : k = 0
  · rw [if_neg (by omega), if_neg (by omega)]
    unfold zMW zSW
    rw [if_pos hk0, if_pos hk0, if_pos hk0, if_pos hk0]
    exact ⟨rfl, rfl⟩
  · rw [if_pos (by omega), if_pos (by omega)]
    unfold zSW zMW
    rw [if_neg hk0, if_neg hk0]
    exact ⟨rfl, rfl⟩
theorem tw_few0 {x1 x2 x3 v1 v5 v6 v : Int32} {f : Nat → Int32} {μ μ9 : zMem} (hc : fJ6_bitCount_0f7a4 x1 μ = some (0, v1, μ)) (h1 : ¬ x1 < 0) (h2 : ¬ zshl (1 : Int32) (μ 2 1) ≤ x1) (h3 : ¬ v1 < (2 : Int32)) (h4 : v1 ≤ (4 : Int32)) (h5 : f8_needQuestion x2 μ = some (0, v5, μ)) (h6 : f8_needWhat x3 (1 : Int32) μ = some (0, v6, μ)) (hr : fewT x1 x2 x3 (cM1 69 70 (zup μ 69 (fun _ => 0))) = some (0, v, μ9)) : zMH [(0, 12, 15, 13)] yL_few cL_few 6 (some .int) 8 [.ref 1, .int x1, .int x2, .int x3, .ref 0] (1 + nX false) (zSW false) (zMW f μ) (.inl (some (.int 0)), 1 + nX true, zSW true, zMW (fun i => if i = 0 then v else f i) μ9, 0 + (0 + 6 + 1), 0 + (0 + 19695 + 11)) := by
  have hg := nX_le false
  have hgt := nX_le true
  refine zMH_of (by decide +kernel) (by simp [Value.category]) (by simp) (Nat.le_of_ble_eq_true rfl) ?_
  show zBW _ _ _ _ _ _ _ [.ref 1, .int x1, .int x2, .int x3, .ref 0, .null] _ _ _ _ _
  refine zB_aload (pc := 0) dL_few_0 rfl ?_
  refine zB_iconst (pc := 2) (0 : Int32) dL_few_2 (by decide) ?_
  refine zB_aload_n (pc := 3) dL_few_3 rfl ?_
  refine zB_iload_n (pc := 4) dL_few_4 rfl ?_
  refine zB_iload_n (pc := 5) dL_few_5 rfl ?_
  refine zB_iload_n (pc := 6) dL_few_6 rfl ?_
  refine zB_callFV (B := 1) (pc := 7) (b := 0) (As := [.int x1, .int x2, .int x3]) (n := nX false) (S := SX false) (μ := μ) (v := some (.int v)) kvL_91 (t8_few0 hc h1 h2 h3 h4 h5 h6 hr) (fun q e => by cases e) (by decide) (by omega) (sx_0 false) rfl rfl (Nat.le_of_ble_eq_true rfl) zSW_sub (Nat.le_refl _) (zSW_wf false) (by decide) (Or.inr rfl) (by decide) (zwfG true) (by have hg := nX_le false; simp only [List.mem_cons, List.not_mem_nil, or_false, forall_eq_or_imp, forall_eq, zltEq, reduceCtorEq, false_implies, implies_true, and_true, true_and] <;> omega) (by have hg := nX_le false; simp only [List.mem_cons, List.not_mem_nil, or_false, forall_eq_or_imp, forall_eq, zltEq, reduceCtorEq, false_implies, implies_true, and_true, true_and] <;> omega) dL_few_7 ?_
  rw [show 1 + nX false + (nX true - nX false) = 1 + nX true from rfl]
  refine zB_congr (S2 := zSW true) (μ2 := zMW f μ9) zSW_put0 ?_
  refine zB_i2l (pc := 10) dL_few_10 ?_
  refine zB_last (pc := 11) (a := 0) (rf := zn) (by omega) rfl dL_few_11 ?_
  rw [zMW_set]
  refine zB_goto (pc := 12) (tgt := 19) dL_few_12 (by decide) ?_
  refine zB_iconst (pc := 19) (0 : Int32) dL_few_19 (by decide) ?_
  exact zB_iret (pc := 20) rfl dL_few_20
theorem tw_fewF_x1 {x1 : Int32} {x2 : Int32} {x3 : Int32} {f : Nat → Int32} {v : Int32} {μ μ1 : zMem} (h : f8_fewE x1 x2 x3 μ = some (1, v, μ1)) : zMH [(0, 12, 15, 13)] yL_few cL_few 6 (some .int) 8 [.ref 1, .int x1, .int x2, .int x3, .ref 0] (1 + nX false) (zSW false) (zMW f μ) (.inl (some (.int 1)), 1 + nX false, zSW false, zMW f μ1, 0 + 1, 0 + 6) := by
  have hg := nX_le false
  refine zMH_of (by decide +kernel) (by simp [Value.category]) (by simp) (Nat.le_of_ble_eq_true rfl) ?_
  show zBW _ _ _ _ _ _ _ [.ref 1, .int x1, .int x2, .int x3, .ref 0, .null] _ _ _ _ _
  refine zB_aload (pc := 0) dL_few_0 rfl ?_
  refine zB_iconst (pc := 2) (0 : Int32) dL_few_2 (by decide) ?_
  refine zB_aload_n (pc := 3) dL_few_3 rfl ?_
  refine zB_iload_n (pc := 4) dL_few_4 rfl ?_
  refine zB_iload_n (pc := 5) dL_few_5 rfl ?_
  refine zB_iload_n (pc := 6) dL_few_6 rfl ?_
  refine zB_callFX (B := 1) (pc := 7) (b := 0) (As := [.int x1, .int x2, .int x3]) (n := nX false) (S := SX false) (μ := μ) (E := "java/lang/IllegalArgumentException") (nm := "java/lang/IllegalArgumentException") (px := []) (x := ⟨0, 12, 15, 13⟩) (sx := []) (i := 5) (ln := 2) kvL_91 klL_91 (zMR_ex rfl (t8_fewE x1 x2 x3 μ) h) (by decide) (by omega) (sx_0 false) rfl rfl (Nat.le_of_ble_eq_true rfl) zSW_sub (Nat.le_refl _) (zSW_wf false) (by omega) (zwfG false) dL_few_7 rfl (fun z hz => by cases hz) (by decide) rfl (by decide) kxL_13 kxc_13 (Or.inr ⟨dL_few_15, rfl⟩) (by decide) ?_
  refine zB_congr (S2 := zSW false) (μ2 := zMW f μ1) zSW_put ?_
  refine zB_iconst (pc := 17) (1 : Int32) dL_few_17 (by decide) ?_
  exact zB_iret (pc := 18) rfl dL_few_18
