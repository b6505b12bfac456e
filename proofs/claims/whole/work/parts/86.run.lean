/-! THE PURE SIDE, 26: the class picks a WORK -/
/-- the score that the runner keeps -/
def xSc (T W : zN2) (r c : Nat) : Int32 := if r = 0 then zi (aP T W c) else if r = 1 then -zi (aP T W c) else if r = 2 then (-zi (W 2 (c / 10 % 10))) - zi (W 2 (c % 10)) else zi (T 8 (c / 100))
/-- what the runner has picked -/
def xB (T W : zN2) (r : Nat) (b : Option Nat) (μ : zMem) : Prop := match b with
  | none => μ 57 7 = zN1
  | some c => μ 57 7 = zi (c / 100) ∧ μ 57 8 = zi (c / 10 % 10) ∧ μ 57 9 = zi (c % 10) ∧ μ 57 10 = xSc T W r c
theorem zneg_int {a : Nat} (h : a < 1073741824) : (-zi a).toInt = -(a : Int) := by rw [Int32.toInt_neg, zi_int (by omega), zI_bm (by omega) (by omega)]
theorem xSc_int {T W : zN2} (hT : TB T) (hW : WB T W) {r c : Nat} : (xSc T W r c).toInt = (if r = 0 then (aP T W c : Int) else if r = 1 then -(aP T W c : Int) else if r = 2 then -(aL W c : Int) else (T 8 (c / 100) : Int)) := by
  have p1 := aP_le hW c
  have l1 := wb_2 hW (c / 10 % 10)
  have l2 := wb_2 hW (c % 10)
  have k1 := tb_8 hT (c / 100)
  unfold xSc aL
  by_cases h0 : r = 0
  · rw [if_pos h0, if_pos h0, zi_int (by omega)]
  · rw [if_neg h0, if_neg h0]
    by_cases h1 : r = 1
    · rw [if_pos h1, if_pos h1, zneg_int (by omega)]
    · rw [if_neg h1, if_neg h1]
      by_cases h2 : r = 2
      · rw [if_pos h2, if_pos h2, zI_sub (by rw [zneg_int (by omega), zi_int (by omega)]; omega) (by rw [zneg_int (by omega), zi_int (by omega)]; omega), zneg_int (by omega), zi_int (by omega)]; omega
      · rw [if_neg h2, if_neg h2, zi_int (by omega)]
theorem xSc_100 {T W : zN2} (hT : TB T) (hW : WB T W) {r c : Nat} : (xSc T W r c = (-100 : Int32)) = False := by
  apply eq_false
  intro e
  have h := xSc_int hT hW (r := r) (c := c)
  have e100 : (-100 : Int32).toInt = -100 := by decide
  rw [e, e100] at h
  have p1 := aP_le hW c
  have l1 := wb_2 hW (c / 10 % 10)
  have l2 := wb_2 hW (c % 10)
  unfold aL at h
  repeat' split at h
  all_goals omega
theorem x_score {T W : zN2} {μ : zMem} (hT : TB T) (hW : WB T W) (hP : W 0 3 = T 2 1) (hX : XT T μ) (hS : XS T W 28 μ) {r c : Nat} (hr : r < 4) (hc : cok T c) : f4_scoreOf (zi r) (zi (c / 100)) (zi (c / 10 % 10)) (zi (c % 10)) μ = some (0, xSc T W r c, μ) := by
  obtain ⟨c1, c2, c3⟩ := hc
  have hD := hT.2.2.1
  have hPP := hT.2.1
  have hA := tA_lt hT hW c1
  have hap := x_apart hT hW hS (show c / 10 % 10 < W 0 3 by omega) (show c % 10 < W 0 3 by omega) hA
  unfold f4_scoreOf xSc aP
  have hr4 : r = 0 ∨ r = 1 ∨ r = 2 ∨ r = 3 := by omega
  rcases hr4 with rfl | rfl | rfl | rfl
  · simp (disch := omega) only [zlit', if_true, x_questionOf hT hX hS c1, bnd0_ok', hap]
  · simp (disch := omega) only [zlit', if_true, if_false, ite_true, ite_false, Bool.false_eq_true, Bool.true_eq_false, reduceIte, z10, z01, Nat.one_ne_zero, Nat.zero_ne_one, x_questionOf hT hX hS c1, bnd0_ok', hap]
  · simp (disch := omega) only [zlit', zi_eq, show ¬ 2 = 0 by decide, show ¬ 2 = 1 by decide, if_true, if_false, ite_true, ite_false, Bool.false_eq_true, Bool.true_eq_false, reduceIte, z10, z01, Nat.one_ne_zero, Nat.zero_ne_one, zin_i, zi_cl, (hS.2 (c / 10 % 10) (by omega)).2.1, (hS.2 (c % 10) (by omega)).2.1]
  · simp (disch := omega) only [zlit', zi_eq, show ¬ 3 = 0 by decide, show ¬ 3 = 1 by decide, show ¬ 3 = 2 by decide, if_true, if_false, ite_true, ite_false, Bool.false_eq_true, Bool.true_eq_false, reduceIte, z10, z01, Nat.one_ne_zero, Nat.zero_ne_one, zin_i, zi_cl, (hX.2.2.2.2 _ c1).1]
theorem x_isBetter {T W : zN2} {μ : zMem} (hT : TB T) (hW : WB T W) (hX : XT T μ) {r c : Nat} {b : Option Nat} (hr : r < 4) (hc : cok T c) (hb : ∀ e, b = some e → cok T e) (hB : xB T W r b μ) : f4_isBetter (zi r) (zi (c / 100)) (xSc T W r c) μ = some (0, zi (match b with
    | none => 1
    | some e => b01 (ahd T W r c e)), μ) := by
  have hD := hT.2.2.1
  obtain ⟨c1, c2, c3⟩ := hc
  unfold f4_isBetter
  cases b with
  | none =>
    have h7 : μ 57 7 = zN1 := hB
    simp only [↓zneg1', zlit', h7, if_true]
  | some e =>
    obtain ⟨h7, h8, h9, h10⟩ := (hB : μ 57 7 = zi (e / 100) ∧ μ 57 8 = zi (e / 10 % 10) ∧ μ 57 9 = zi (e % 10) ∧ μ 57 10 = xSc T W r e)
    obtain ⟨e1, e2, e3⟩ := hb e rfl
    have s1 := xSc_int hT hW (r := r) (c := c)
    have s2 := xSc_int hT hW (r := r) (c := e)
    have p1 := aP_le hW c
    have p2 := aP_le hW e
    have l1 := wb_2 hW (c / 10 % 10)
    have l2 := wb_2 hW (c % 10)
    have l3 := wb_2 hW (e / 10 % 10)
    have l4 := wb_2 hW (e % 10)
    have k1 := tb_8 hT (c / 100)
    have k2 := tb_8 hT (e / 100)
    have k3 := tb_9 hT (c / 100)
    have k4 := tb_9 hT (e / 100)
    have x1 : T 8 (c / 100) * T 9 (e / 100) ≤ 99 * 240 := Nat.mul_le_mul k1.2 k4.2
    have x2 : T 8 (e / 100) * T 9 (c / 100) ≤ 99 * 240 := Nat.mul_le_mul k2.2 k3.2
    have fin : ∀ (m o : Int32), (o < m ↔ aV T W r c e < aU T W r c e) → (m = o ↔ aU T W r c e = aV T W r c e) → (if o < m then zbl (zi 1) (some (0, zi 1, μ)) else if m = o then if T 8 (c / 100) ≤ T 8 (e / 100) then zbl (zi 0) (some (0, zi 0, μ)) else zbl (zi 1) (some (0, zi 1, μ)) else zbl (zi 0) (some (0, zi 0, μ))) = some (0, zi (b01 (ahd T W r c e)), μ) := by
      intro m o hm1 hm2
      unfold ahd
      by_cases h1 : o < m
      · rw [if_pos h1, decide_eq_true (Or.inl (hm1.mp h1))]; exact zbl_1
      · rw [if_neg h1]
        have h1' : ¬ aV T W r c e < aU T W r c e := fun q => h1 (hm1.mpr q)
        by_cases h2 : m = o
        · rw [if_pos h2]
          have h2' := hm2.mp h2
          by_cases h3 : T 8 (c / 100) ≤ T 8 (e / 100)
          · rw [if_pos h3, decide_eq_false (by omega)]; exact zbl_0
          · rw [if_neg h3, decide_eq_true (by omega)]; exact zbl_1
        · rw [if_neg h2]
          have h2' : ¬ aU T W r c e = aV T W r c e := fun q => h2 (hm2.mpr q)
          rw [decide_eq_false (by omega)]; exact zbl_0
    by_cases h3 : r = 3
    · have g := fin (zi (T 8 (c / 100) * T 9 (e / 100))) (zi (T 8 (e / 100) * T 9 (c / 100)))
        (by rw [zi_lt (by omega) (by omega)]; unfold aU aV; subst h3; simp) (by rw [zi_eq (by omega) (by omega)]; unfold aU aV; subst h3; simp)
      have y1 : xSc T W r c = zi (T 8 (c / 100)) := by unfold xSc; subst h3; rfl
      have y2 : xSc T W r e = zi (T 8 (e / 100)) := by unfold xSc; subst h3; rfl
      simp (disch := omega) only [↓zneg1', zlit', h7, h10, zi_nN1, if_false, zlet_e', zi_le, show ¬ r ≤ 2 by omega, z10, zin_i, zi_cl, (hX.2.2.2.2 _ c1).1, (hX.2.2.2.2 _ e1).1, (hX.2.2.2.2 _ c1).2.1, (hX.2.2.2.2 _ e1).2.1, y1, y2, zi_mul]
      simp (disch := omega) only [zi_lt, zi_eq, zi_le] at g ⊢
      exact g
    · have g := fin (xSc T W r c) (xSc T W r e)
        (by
          rw [Int32.lt_iff_toInt_lt, s1, s2]; unfold aU aV
          repeat' split
          all_goals omega)
        (by
          rw [← Int32.toInt_inj, s1, s2]; unfold aU aV
          repeat' split
          all_goals omega)
      simp (disch := omega) only [↓zneg1', zlit', h7, h10, zi_nN1, if_false, zlet_e', zi_le, show r ≤ 2 by omega, if_true, zin_i, zi_cl, (hX.2.2.2.2 _ c1).1, (hX.2.2.2.2 _ e1).1]
      exact g
