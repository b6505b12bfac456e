/-! THE PURE SIDE, 19: rest -/
theorem x_needSt_ok {μ : zMem} {p : Nat} (h1 : 1 ≤ p) (h2 : p ≤ 99) : f8_needStake (zi p) μ = some (0, zi 0, μ) := by
  unfold f8_needStake
  simp (disch := omega) only [zlet_e, zlit, zi_lt, zi_le, show ¬ p < 1 by omega, if_false, if_true, h2]
theorem zcase1 (x : Int32) : (∃ p, 1 ≤ p ∧ p ≤ 99 ∧ x = zi p) ∨ (x < zi 1 ∨ zi 99 < x) := by
  rcases zcase x 100 (by decide) with ⟨p, hp, rfl⟩ | h
  · by_cases h0 : p = 0
    · right; left; rw [h0]; decide
    · left; exact ⟨p, by omega, by omega, rfl⟩
  · right
    rcases h with h | h
    · left; exact Int32.lt_trans h (by decide)
    · right; exact Int32.lt_of_lt_of_le (by decide) h
theorem x_needSt_no {μ : zMem} {x : Int32} (h : x < zi 1 ∨ zi 99 < x) : f8_needStake x μ = some (1, zi 0, μ) := by
  unfold f8_needStake
  by_cases h1 : x < zi 1
  · simp (disch := omega) only [zlet_e, zlit, h1, if_true]
  · have h2 := h.resolve_left h1
    have h3 : ¬ x ≤ zi 99 := fun q => absurd (Int32.lt_of_le_of_lt q h2) Int32.lt_irrefl
    simp (disch := omega) only [zlet_e, zlit, h1, h3, if_false]
theorem m_in99_ok {μ : zMem} {p : Nat} (h1 : 1 ≤ p) (h2 : p ≤ 99) : f9_in (zi p) (zi 1) (zi 99) μ = some (0, zi 1, μ) :=
  m_in_ok (by rw [zi_lt (by omega) (by omega)]; omega) (by rw [zi_lt (by omega) (by omega)]; omega)
theorem m_less {a b : Nat} {μ : zMem} (ha : a < 2147483648) (hb : b < 2147483648) : f9_less (zi a) (zi b) μ = some (0, zi (min a b), μ) := by
  unfold f9_less
  simp (disch := omega) only [zlet_e, zi_le]
  by_cases h : b ≤ a
  · rw [if_pos h, Nat.min_eq_right h]
  · rw [if_neg h, Nat.min_eq_left (by omega)]
theorem P_rest {x y z u v w : Int32} {μX μM : zMem} (h : zInv μX μM) : zPm cNI (f8_rest x y z u v w μX) (f9_rest x y z u v w μM) := by
  have h' := h
  obtain ⟨T, W, r, R, n, m, WI, rI, RI, ⟨hT, hW, hL, hX, hM, hS, hS', h30, hB, hR, hR'⟩, ht, hf, hi⟩ := h
  have hP := hT.2.1
  have hM0 := MT_0 (v := zi 0) hT hM
  have e00 : zset μM 0 0 (zi 0) 0 0 = zi 0 := zset_00
  rcases zcase x (T 2 1) (by omega) with ⟨p, hp, rfl⟩ | hx
  · have bad : ∀ (r' : zRes), r' = some (1, zi 0, μX) → ∀ (r'' : zRes), r'' = some (0, zi 0, zset (zset μM 0 0 (zi 0)) 0 0 (zi 2)) → zPm cNI r' r'' := by
      intro r' e1 r'' e2
      exact zPm_q h' (μX' := μX) (μM' := zset (zset μM 0 0 (zi 0)) 0 0 (zi 2)) (e := 1) (v := zi 0) (w := zi 0) e1 e2 zset_00 (fun h => absurd h (by decide)) (Or.inr (by decide)) zfr.refl zmq_00
    rcases zcase1 y with ⟨a, a1, a2, rfl⟩ | hy
    · rcases zcase1 z with ⟨b, b1, b2, rfl⟩ | hz
      · rcases zcase1 u with ⟨c, c1, c2, rfl⟩ | hu
        · rcases zcase1 v with ⟨g, g1, g2, rfl⟩ | hv
          · rcases zcase w 2 (by decide) with ⟨q, hq, rfl⟩ | hw
            · have h6 := tb_6 hT p
              have k1 : (10 - T 6 p) * (a + b) ≤ 10 * 198 := Nat.mul_le_mul (by omega) (by omega)
              have k2 : 1 * 1 ≤ (10 - T 6 p) * (a + b) := Nat.mul_le_mul (by omega) (by omega)
              have k3 : (10 - T 6 p) * g ≤ 10 * 99 := Nat.mul_le_mul (by omega) (by omega)
              have k4 : 1 * 1 ≤ (10 - T 6 p) * g := Nat.mul_le_mul (by omega) (by omega)
              have d1 : 10000 * a / ((10 - T 6 p) * (a + b)) ≤ 10000 * a := Nat.div_le_self _ _
              have d2 : 10000 * c / ((10 - T 6 p) * g) ≤ 10000 * c := Nat.div_le_self _ _
              refine zPm_q h' (μX' := μX) (μM' := zset μM 0 0 (zi 0)) (e := 0) (v := zi (if q = 0 then min 1000 (10000 * a / ((10 - T 6 p) * (a + b))) else min 1000 (10000 * c / ((10 - T 6 p) * g)))) (w := zi (if q = 0 then min 1000 (10000 * a / ((10 - T 6 p) * (a + b))) else min 1000 (10000 * c / ((10 - T 6 p) * g)))) ?_ ?_ zset_00 (fun _ => rfl) (Or.inl rfl) zfr.refl zmq_0
              · unfold f8_rest
                simp (disch := omega) only [x_needP_ok hT hX hp, x_needSt_ok a1 a2, x_needSt_ok b1 b2, x_needSt_ok c1 c2, x_needSt_ok g1 g2, x_needW_ok, bnd_ok, zlit, zlet_e, zin_i, zi_cl, (hX.2.2.2.1 p hp).2, zi_sub, zi_eq, zi_add]
                by_cases h0 : q = 0
                · simp (disch := omega) only [h0, if_true, zi_mul, zi_lt, show 0 < (10 - T 6 p) * (a + b) by omega, znz_i, zi_div, zmin_i]
                · simp (disch := omega) only [h0, if_false, zi_mul, zi_lt, show 0 < (10 - T 6 p) * g by omega, if_true, znz_i, zi_div, zmin_i]
              · unfold f9_rest
                simp (disch := omega) only [zlet_e, zlit, m_isP_ok hT hM0 hp, m_bad0 e00, bnd0_ok, if_true, if_false, ite_true, ite_false, Bool.false_eq_true, Bool.true_eq_false, reduceIte, z10, z01, Nat.one_ne_zero, Nat.zero_ne_one, m_in99_ok a1 a2, m_in99_ok b1 b2, m_in99_ok c1 c2, m_in99_ok g1 g2, m_inn_o, zin_i, zi_cl, zset_nk, hM.2.2.2.1 p hp, zi_sub, zi_eq, zi_add]
                by_cases h0 : q = 0
                · simp (disch := omega) only [h0, if_true, zi_mul, znz_i, zi_div, m_less, bnd0_ok]
                · simp (disch := omega) only [h0, if_false, zi_mul, znz_i, zi_div, m_less, bnd0_ok]
            · refine bad _ ?_ _ ?_
              · unfold f8_rest
                simp (disch := omega) only [x_needP_ok hT hX hp, x_needSt_ok a1 a2, x_needSt_ok b1 b2, x_needSt_ok c1 c2, x_needSt_ok g1 g2, zlit, x_needW_no (show 1 < 1000 by decide) hw, bnd_ok, bnd_ex (e := 0)]
              · unfold f9_rest
                simp (disch := omega) only [zlet_e, zlit, m_isP_ok hT hM0 hp, m_bad0 e00, m_bad1 e00, bnd0_ok, if_true, if_false, ite_true, ite_false, Bool.false_eq_true, Bool.true_eq_false, reduceIte, z10, z01, Nat.one_ne_zero, Nat.zero_ne_one, m_in99_ok a1 a2, m_in99_ok b1 b2, m_in99_ok c1 c2, m_in99_ok g1 g2, m_inn_c (show 1 < 1000 by decide) hw]
          · refine bad _ ?_ _ ?_
            · unfold f8_rest
              simp (disch := omega) only [x_needP_ok hT hX hp, x_needSt_ok a1 a2, x_needSt_ok b1 b2, x_needSt_ok c1 c2, x_needSt_no hv, bnd_ok, bnd_ex (e := 0)]
            · unfold f9_rest
              simp (disch := omega) only [zlet_e, zlit, m_isP_ok hT hM0 hp, m_bad0 e00, m_bad1 e00, bnd0_ok, if_true, if_false, ite_true, ite_false, Bool.false_eq_true, Bool.true_eq_false, reduceIte, z10, z01, Nat.one_ne_zero, Nat.zero_ne_one, m_in99_ok a1 a2, m_in99_ok b1 b2, m_in99_ok c1 c2, m_in_no hv]
        · refine bad _ ?_ _ ?_
          · unfold f8_rest
            simp (disch := omega) only [x_needP_ok hT hX hp, x_needSt_ok a1 a2, x_needSt_ok b1 b2, x_needSt_no hu, bnd_ok, bnd_ex (e := 0)]
          · unfold f9_rest
            simp (disch := omega) only [zlet_e, zlit, m_isP_ok hT hM0 hp, m_bad0 e00, m_bad1 e00, bnd0_ok, if_true, if_false, ite_true, ite_false, Bool.false_eq_true, Bool.true_eq_false, reduceIte, z10, z01, Nat.one_ne_zero, Nat.zero_ne_one, m_in99_ok a1 a2, m_in99_ok b1 b2, m_in_no hu]
      · refine bad _ ?_ _ ?_
        · unfold f8_rest
          simp (disch := omega) only [x_needP_ok hT hX hp, x_needSt_ok a1 a2, x_needSt_no hz, bnd_ok, bnd_ex (e := 0)]
        · unfold f9_rest
          simp (disch := omega) only [zlet_e, zlit, m_isP_ok hT hM0 hp, m_bad0 e00, m_bad1 e00, bnd0_ok, if_true, if_false, ite_true, ite_false, Bool.false_eq_true, Bool.true_eq_false, reduceIte, z10, z01, Nat.one_ne_zero, Nat.zero_ne_one, m_in99_ok a1 a2, m_in_no hz]
    · refine bad _ ?_ _ ?_
      · unfold f8_rest
        simp (disch := omega) only [x_needP_ok hT hX hp, x_needSt_no hy, bnd_ok, bnd_ex (e := 0)]
      · unfold f9_rest
        simp (disch := omega) only [zlet_e, zlit, m_isP_ok hT hM0 hp, m_bad0 e00, m_bad1 e00, bnd0_ok, if_true, if_false, ite_true, ite_false, Bool.false_eq_true, Bool.true_eq_false, reduceIte, z10, z01, Nat.one_ne_zero, Nat.zero_ne_one, m_in_no hy]
  · refine zPm_q h' (μX' := μX) (μM' := zset (zset μM 0 0 (zi 0)) 0 0 (zi 1)) (e := 2) (v := zi 0) (w := zi 0) ?_ ?_ zset_00 (fun h => absurd h (by decide)) (Or.inr (by decide)) zfr.refl zmq_00
    · unfold f8_rest
      simp only [x_needP_no hX hx, bnd_ex (e := 1)]
    · unfold f9_rest
      simp (disch := omega) only [zlet_e, zlit, m_isP_no hT hM0 hx, bnd0_ok, m_bad1 e00, if_true, if_false, ite_true, ite_false, Bool.false_eq_true, Bool.true_eq_false, reduceIte, z10, z01, Nat.one_ne_zero, Nat.zero_ne_one]
