/-! THE PURE SIDE, 33: run, lot, starved, rule, firm -/
theorem zcaseD (x : Int32) (N : Nat) (hN : N < 1000) : (∃ p, 1 ≤ p ∧ p ≤ N ∧ x = zi p) ∨ (x < zi 1 ∨ zi N < x) := by
  rcases zcase x (N + 1) (by omega) with ⟨p, hp, rfl⟩ | h
  · by_cases h0 : p = 0
    · right; left; rw [h0]; decide
    · left; exact ⟨p, by omega, by omega, rfl⟩
  · right
    rcases h with h | h
    · left; exact Int32.lt_trans h (by decide)
    · right; exact Int32.lt_of_lt_of_le (by rw [zi_lt (by omega) (by omega)]; omega) h
theorem x_needDays_ok {T W : zN2} {μ : zMem} (hW : WB T W) (hS : XS T W 23 μ) {p : Nat} (h1 : 1 ≤ p) (h2 : W 0 0 + p ≤ 30) : f8_needDays (zi p) μ = some (0, zi 0, μ) := by
  have hN := hW.1
  unfold f8_needDays
  simp (disch := omega) only [zlet_e, zlit, hS.1.1, zi_sub, zi_lt, zi_le, show ¬ p < 1 by omega, show p ≤ 30 - W 0 0 by omega, if_false, if_true]
theorem x_needDays_no {T W : zN2} {μ : zMem} (hW : WB T W) (hS : XS T W 23 μ) {x : Int32} (h : x < zi 1 ∨ zi (30 - W 0 0) < x) : f8_needDays x μ = some (1, zi 0, μ) := by
  have hN := hW.1
  unfold f8_needDays
  by_cases h1 : x < zi 1
  · simp (disch := omega) only [zlet_e, zlit, h1, if_true]
  · have h2 := h.resolve_left h1
    have h3 : ¬ x ≤ zi (30 - W 0 0) := fun q => absurd (Int32.lt_of_le_of_lt q h2) Int32.lt_irrefl
    simp (disch := omega) only [zlet_e, zlit, hS.1.1, zi_sub, h1, h3, if_false]
theorem m_days_ok {T W : zN2} {μ : zMem} (hW : WB T W) (hS : MS T W μ) {p : Nat} (h1 : 1 ≤ p) (h2 : W 0 0 + p ≤ 30) : f9_areDays (zi p) μ = some (0, zi 1, μ) := by
  have hN := hW.1
  have := m_in_ok (x := zi p) (lo := zi 1) (hi := zi (30 - W 0 0)) (μ := μ) (by rw [zi_lt (by omega) (by omega)]; omega) (by rw [zi_lt (by omega) (by omega)]; omega)
  unfold f9_areDays
  simp (disch := omega) only [zlit, hS.1.1, zi_sub, this, bnd0_ok, zbl_1]
theorem m_days_no {T W : zN2} {μ : zMem} (hW : WB T W) (hS : MS T W μ) {x : Int32} (h : x < zi 1 ∨ zi (30 - W 0 0) < x) : f9_areDays x μ = some (0, zi 0, μ) := by
  have hN := hW.1
  unfold f9_areDays
  simp (disch := omega) only [zlit, hS.1.1, zi_sub, m_in_no h, bnd0_ok, zbl_0]
/-- what a RUN answers -/
def gV (T : zN2) (g : gT) (w : Nat) : Int32 := if w = 0 then zi g.1.2.1 else if w = 1 then zi g.1.2.2.1 else if w = 2 then zi (nsum (fun d => b01 ((g.1.1 0 4).testBit d)) (T 2 2)) else g.1.2.2.2
theorem x_answer {T : zN2} {g : gT} {μ : zMem} (hT : TB T) (hok : rOK T g.1) (hs : xGn T g μ) {w : Nat} (hw : w < 4) : f4_answer (zi w) μ = some (0, gV T g w, μ) := by
  have hD := hT.2.2.1
  obtain ⟨⟨s1, s2, s3, s4⟩, -, -⟩ := hs
  unfold f4_answer gV
  have hw4 : w = 0 ∨ w = 1 ∨ w = 2 ∨ w = 3 := by omega
  rcases hw4 with rfl | rfl | rfl | rfl
  · simp only [zlit, if_true, s2]
  · simp only [zlit, if_true, if_false, ite_true, ite_false, Bool.false_eq_true, Bool.true_eq_false, reduceIte, z10, z01, Nat.one_ne_zero, Nat.zero_ne_one, s3]
  · have e : popc (g.1.1 0 4) = nsum (fun d => b01 ((g.1.1 0 4).testBit d)) (T 2 2) := popc_lt hok.1.2.2.2.2.2.2.2.2 (by omega)
    simp (disch := omega) only [zlit, zi_eq, show ¬ 2 = 0 by decide, show ¬ 2 = 1 by decide, if_true, if_false, ite_true, ite_false, Bool.false_eq_true, Bool.true_eq_false, reduceIte, z10, z01, Nat.one_ne_zero, Nat.zero_ne_one, s1.1.2.2.2.2, x_bitCount hok.1.2.2.2.2.1, bnd0_ok, e]
  · simp (disch := omega) only [zlit, zi_eq, show ¬ 3 = 0 by decide, show ¬ 3 = 1 by decide, show ¬ 3 = 2 by decide, if_true, if_false, ite_true, ite_false, Bool.false_eq_true, Bool.true_eq_false, reduceIte, z10, z01, Nat.one_ne_zero, Nat.zero_ne_one, s4]
theorem zsx_rn {μ μ' : zMem} (h : zfr (fun k => (28 ≤ k ∧ k < 32) ∨ k = 57) μ μ') : zfr zsx μ μ' := h.mono (fun q hq => by unfold zsx; omega)
theorem zmq_45 {μ : zMem} {v : Int32} : zmq μ (zset μ 0 45 v) :=
  ⟨⟨zset_nj (by decide), zset_nj (by decide), zset_nj (by decide), zset_nj (by decide)⟩, fun key j hk => by
    rw [zset_at, if_neg]
    intro e
    rw [e.1, e.2] at hk
    exact absurd hk (by decide), fun key hk => zset_nk (by unfold zmk at hk; omega)⟩
/-- a RUN from the live scene, in the class -/
theorem x_run {T W : zN2} {μ : zMem} (hT : TB T) (hW : WB T W) (hL : WL T W) (hX : XT T μ) (hS : XS T W 23 μ) {r days lot : Nat} {sd : Int32} (hr : r < 4) (hl : lot < 2) (hd : W 0 0 + days ≤ 30) :
    ∃ μ1 μ', f5_copyWorld 28 23 μ = some (0, zi 0, μ1) ∧ f4_goOn (zi r) (zi days) (zi lot) sd μ1 = some (0, zi 0, μ') ∧ xGn T (zit (gS T r lot (W 0 0)) days 0 ((W, 0, 0, zN1), zN1, sd)) μ' ∧ rOK T (zit (gS T r lot (W 0 0)) days 0 ((W, 0, 0, zN1), zN1, sd)).1 ∧ zfr zsx μ μ' ∧ μ1 23 = μ 23 := by
  obtain ⟨μ1, a1, a2, a3⟩ := x_trial hT hW hS
  obtain ⟨μ', b1, b2, b3, b4⟩ := x_goOn (sd := sd) hT hW hL.2.2.1 (XT_28 (zsx_28 a3) hX) a2 hr hl hd
  exact ⟨μ1, μ', a1, b1, b2, b3, (zsx_28 a3).trans (zsx_rn b4), a3 23 (by omega)⟩
theorem P_run {x y z : Int32} {μX μM : zMem} (h : zInv μX μM) : zPm cI (f8_run x y z μX) (f9_run x y z μM) := by
  have h' := h
  obtain ⟨T, W, r, R, n, m, WI, rI, RI, ⟨hT, hW, hL, hX, hM, hS, hS', h30, hB, hR, hR'⟩, ht, hf, hi⟩ := h
  have hN := hW.1
  have hM0 := MT_0 (v := zi 0) hT hM
  have hS0 := MS_0 (v := zi 0) hT hW hS'
  have e00 : zset μM 0 0 (zi 0) 0 0 = zi 0 := zset_00
  have bad : ∀ (r' : zRes), r' = some (1, zi 0, μX) → ∀ (r'' : zRes), r'' = some (0, zi 0, zset (zset μM 0 0 (zi 0)) 0 0 (zi 1)) → zPm cI r' r'' := by
    intro r' e1 r'' e2
    exact zPm_q h' (μX' := μX) (μM' := zset (zset μM 0 0 (zi 0)) 0 0 (zi 1)) (e := 1) (v := zi 0) (w := zi 0) e1 e2 zset_00 (fun h => absurd h (by decide)) (Or.inr (by decide)) zfr.refl zmq_00
  rcases zcase x 4 (by omega) with ⟨r, hr, rfl⟩ | hx
  · rcases zcaseD y (30 - W 0 0) (by omega) with ⟨dy, d1, d2, rfl⟩ | hy
    · rcases zcase z 4 (by omega) with ⟨w, hw, rfl⟩ | hz
      · obtain ⟨μ1, μ', a1, a2, a3, a4, a5, a6⟩ := x_run (lot := 0) (sd := zi 0) hT hW hL hX hS hr (by decide) (show W 0 0 + dy ≤ 30 by omega)
        obtain ⟨m', b1, b2, b3, b4, b5, b6, b7, b8⟩ := m_runs (lot := 0) (sd := zi 0) hT hW hL.2.2.1 hL.1 hM0 hS0 (by rw [zset_nj (by decide)]; exact h30) hr (by decide) (show W 0 0 + dy ≤ 30 by omega) (fun q => absurd q (by decide))
        have hans : m' 1128 w = gV T (zit (gS T r 0 (W 0 0)) dy 0 ((W, 0, 0, zN1), zN1, zi 0)) w := by
          unfold gV
          have hw4 : w = 0 ∨ w = 1 ∨ w = 2 ∨ w = 3 := by omega
          rcases hw4 with rfl | rfl | rfl | rfl
          · exact b2
          · exact b3
          · exact b4
          · exact b5
        refine zPm_q h' (μX' := μ') (μM' := m') (e := 0) (v := gV T (zit (gS T r 0 (W 0 0)) dy 0 ((W, 0, 0, zN1), zN1, zi 0)) w) (w := gV T (zit (gS T r 0 (W 0 0)) dy 0 ((W, 0, 0, zN1), zN1, zi 0)) w) ?_ ?_ ?_ (fun _ => rfl) (Or.inl rfl) a5 (zmq_0.trans b7)
        · unfold f8_run
          simp (disch := omega) only [x_needRule_ok hr, bnd_ok, x_needDays_ok hW hS d1 (show W 0 0 + dy ≤ 30 by omega), zlit, x_needW_ok, a1, bnd0_ok, a2, x_answer hT a4 a3 hw]
        · unfold f9_run
          simp (disch := omega) only [zlet_e, zlit, m_inn_o, m_days_ok hW hS0 d1 (show W 0 0 + dy ≤ 30 by omega), bnd0_ok, if_true, if_false, ite_true, ite_false, Bool.false_eq_true, Bool.true_eq_false, reduceIte, z10, z01, Nat.one_ne_zero, Nat.zero_ne_one, m_bad0 e00, b1, zin_i, zi_cl, hans]
        · rw [b8]; exact zset_00
      · refine bad _ ?_ _ ?_
        · unfold f8_run
          simp (disch := omega) only [x_needRule_ok hr, bnd_ok, x_needDays_ok hW hS d1 (show W 0 0 + dy ≤ 30 by omega), zlit, x_needW_no (show 3 < 1000 by decide) hz, bnd_ex (e := 0)]
        · unfold f9_run
          simp (disch := omega) only [zlet_e, zlit, m_inn_o, m_days_ok hW hS0 d1 (show W 0 0 + dy ≤ 30 by omega), m_inn_c (show 3 < 1000 by decide) hz, bnd0_ok, if_true, if_false, ite_true, ite_false, Bool.false_eq_true, Bool.true_eq_false, reduceIte, z10, z01, Nat.one_ne_zero, Nat.zero_ne_one, m_bad1 e00]
    · refine bad _ ?_ _ ?_
      · unfold f8_run
        simp (disch := omega) only [x_needRule_ok hr, bnd_ok, x_needDays_no hW hS hy, bnd_ex (e := 0)]
      · unfold f9_run
        simp (disch := omega) only [zlet_e, zlit, m_inn_o, m_days_no hW hS0 hy, bnd0_ok, if_true, if_false, ite_true, ite_false, Bool.false_eq_true, Bool.true_eq_false, reduceIte, z10, z01, Nat.one_ne_zero, Nat.zero_ne_one, m_bad1 e00]
  · refine bad _ ?_ _ ?_
    · unfold f8_run
      simp (disch := omega) only [x_needRule_no hx, bnd_ex (e := 0)]
    · unfold f9_run
      simp (disch := omega) only [zlet_e, zlit, m_inn_c (show 3 < 1000 by decide) hx, bnd0_ok, if_true, if_false, ite_true, ite_false, Bool.false_eq_true, Bool.true_eq_false, reduceIte, z10, z01, Nat.one_ne_zero, Nat.zero_ne_one, m_bad1 e00]
theorem P_lot {x y z u : Int32} {μX μM : zMem} (h : zInv μX μM) : zPm cI (f8_lot x y z u μX) (f9_lot x y z u μM) := by
  have h' := h
  obtain ⟨T, W, r, R, n, m, WI, rI, RI, ⟨hT, hW, hL, hX, hM, hS, hS', h30, hB, hR, hR'⟩, ht, hf, hi⟩ := h
  have hN := hW.1
  have hM0 := MT_0 (v := zi 0) hT hM
  have hS0 := MS_0 (v := zi 0) hT hW hS'
  have e00 : zset μM 0 0 (zi 0) 0 0 = zi 0 := zset_00
  have bad : ∀ (r' : zRes), r' = some (1, zi 0, μX) → ∀ (r'' : zRes), r'' = some (0, zi 0, zset (zset μM 0 0 (zi 0)) 0 0 (zi 1)) → zPm cI r' r'' := by
    intro r' e1 r'' e2
    exact zPm_q h' (μX' := μX) (μM' := zset (zset μM 0 0 (zi 0)) 0 0 (zi 1)) (e := 1) (v := zi 0) (w := zi 0) e1 e2 zset_00 (fun h => absurd h (by decide)) (Or.inr (by decide)) zfr.refl zmq_00
  rcases zcase x 4 (by omega) with ⟨r, hr, rfl⟩ | hx
  · rcases zcaseD y (30 - W 0 0) (by omega) with ⟨dy, d1, d2, rfl⟩ | hy
    · rcases zcase z 4 (by omega) with ⟨w, hw, rfl⟩ | hz
      · obtain ⟨μ1, μ', a1, a2, a3, a4, a5, a6⟩ := x_run (lot := 1) (sd := u) hT hW hL hX hS hr (by decide) (show W 0 0 + dy ≤ 30 by omega)
        have hM1 : MT T (zset (zset μM 0 0 (zi 0)) 0 45 u) := MT_q zmq_45.2.2 hT hM0
        have hS1 : MS T W (zset (zset μM 0 0 (zi 0)) 0 45 u) := MS_q zmq_45 hT hW hS0
        obtain ⟨m', b1, b2, b3, b4, b5, b6, b7, b8⟩ := m_runs (lot := 1) (sd := u) hT hW hL.2.2.1 hL.1 hM1 hS1 (by rw [zset_nj (by decide), zset_nj (by decide)]; exact h30) hr (by decide) (show W 0 0 + dy ≤ 30 by omega) (fun _ => zset_eq)
        have hans : m' 1128 w = gV T (zit (gS T r 1 (W 0 0)) dy 0 ((W, 0, 0, zN1), zN1, u)) w := by
          unfold gV
          have hw4 : w = 0 ∨ w = 1 ∨ w = 2 ∨ w = 3 := by omega
          rcases hw4 with rfl | rfl | rfl | rfl
          · exact b2
          · exact b3
          · exact b4
          · exact b5
        refine zPm_q h' (μX' := μ') (μM' := m') (e := 0) (v := gV T (zit (gS T r 1 (W 0 0)) dy 0 ((W, 0, 0, zN1), zN1, u)) w) (w := gV T (zit (gS T r 1 (W 0 0)) dy 0 ((W, 0, 0, zN1), zN1, u)) w) ?_ ?_ ?_ (fun _ => rfl) (Or.inl rfl) a5 ((zmq_0.trans zmq_45).trans b7)
        · unfold f8_lot
          simp (disch := omega) only [x_needRule_ok hr, bnd_ok, x_needDays_ok hW hS d1 (show W 0 0 + dy ≤ 30 by omega), zlit, x_needW_ok, a1, bnd0_ok, a2, x_answer hT a4 a3 hw]
        · unfold f9_lot
          simp (disch := omega) only [zlet_e, zlit, m_inn_o, m_days_ok hW hS0 d1 (show W 0 0 + dy ≤ 30 by omega), bnd0_ok, if_true, if_false, ite_true, ite_false, Bool.false_eq_true, Bool.true_eq_false, reduceIte, z10, z01, Nat.one_ne_zero, Nat.zero_ne_one, m_bad0 e00, b1, zin_i, zi_cl, hans]
        · rw [b8, zset_nj (by decide)]; exact zset_00
      · refine bad _ ?_ _ ?_
        · unfold f8_lot
          simp (disch := omega) only [x_needRule_ok hr, bnd_ok, x_needDays_ok hW hS d1 (show W 0 0 + dy ≤ 30 by omega), zlit, x_needW_no (show 3 < 1000 by decide) hz, bnd_ex (e := 0)]
        · unfold f9_lot
          simp (disch := omega) only [zlet_e, zlit, m_inn_o, m_days_ok hW hS0 d1 (show W 0 0 + dy ≤ 30 by omega), m_inn_c (show 3 < 1000 by decide) hz, bnd0_ok, if_true, if_false, ite_true, ite_false, Bool.false_eq_true, Bool.true_eq_false, reduceIte, z10, z01, Nat.one_ne_zero, Nat.zero_ne_one, m_bad1 e00]
    · refine bad _ ?_ _ ?_
      · unfold f8_lot
        simp (disch := omega) only [x_needRule_ok hr, bnd_ok, x_needDays_no hW hS hy, bnd_ex (e := 0)]
      · unfold f9_lot
        simp (disch := omega) only [zlet_e, zlit, m_inn_o, m_days_no hW hS0 hy, bnd0_ok, if_true, if_false, ite_true, ite_false, Bool.false_eq_true, Bool.true_eq_false, reduceIte, z10, z01, Nat.one_ne_zero, Nat.zero_ne_one, m_bad1 e00]
  · refine bad _ ?_ _ ?_
    · unfold f8_lot
      simp (disch := omega) only [x_needRule_no hx, bnd_ex (e := 0)]
    · unfold f9_lot
      simp (disch := omega) only [zlet_e, zlit, m_inn_c (show 3 < 1000 by decide) hx, bnd0_ok, if_true, if_false, ite_true, ite_false, Bool.false_eq_true, Bool.true_eq_false, reduceIte, z10, z01, Nat.one_ne_zero, Nat.zero_ne_one, m_bad1 e00]
theorem P_starved {x : Int32} {μX μM : zMem} (h : zInv μX μM) : zPm cI (f8_starved x μX) (f9_starved x μM) := by
  have h' := h
  obtain ⟨T, W, r, R, n, m, WI, rI, RI, ⟨hT, hW, hL, hX, hM, hS, hS', h30, hB, hR, hR'⟩, ht, hf, hi⟩ := h
  have hN := hW.1
  have hM0 := MT_0 (v := zi 0) hT hM
  have hS0 := MS_0 (v := zi 0) hT hW hS'
  have e00 : zset μM 0 0 (zi 0) 0 0 = zi 0 := zset_00
  rcases zcase x 4 (by omega) with ⟨r, hr, rfl⟩ | hx
  · obtain ⟨μ1, μ', a1, a2, a3, a4, a5, a6⟩ := x_run (lot := 0) (sd := zi 0) (days := 30 - W 0 0) hT hW hL hX hS hr (by decide) (by omega)
    obtain ⟨m', b1, b2, b3, b4, b5, b6, b7, b8⟩ := m_runs (lot := 0) (sd := zi 0) (days := 30 - W 0 0) hT hW hL.2.2.1 hL.1 hM0 hS0 (by rw [zset_nj (by decide)]; exact h30) hr (by decide) (by omega) (fun q => absurd q (by decide))
    have e231 : μ1 23 1 = zi (W 0 0) := by rw [a6]; exact hS.1.1
    refine zPm_q h' (μX' := μ') (μM' := m') (e := 0) (v := (zit (gS T r 0 (W 0 0)) (30 - W 0 0) 0 ((W, 0, 0, zN1), zN1, zi 0)).2.1) (w := (zit (gS T r 0 (W 0 0)) (30 - W 0 0) 0 ((W, 0, 0, zN1), zN1, zi 0)).2.1) ?_ ?_ ?_ (fun _ => rfl) (Or.inl rfl) a5 (zmq_0.trans b7)
    · unfold f8_starved
      simp (disch := omega) only [x_needRule_ok hr, bnd_ok, a1, bnd0_ok, e231, zlit, zi_sub, a2, a3.2.1]
    · unfold f9_starved
      simp (disch := omega) only [zlet_e, zlit, m_inn_o, bnd0_ok, if_true, if_false, ite_true, ite_false, Bool.false_eq_true, Bool.true_eq_false, reduceIte, z10, z01, Nat.one_ne_zero, Nat.zero_ne_one, m_bad0 e00, zset_nj, hS'.1.1, zi_sub, b1, b6]
    · rw [b8]; exact zset_00
  · refine zPm_q h' (μX' := μX) (μM' := zset (zset μM 0 0 (zi 0)) 0 0 (zi 1)) (e := 1) (v := zi 0) (w := zi 0) ?_ ?_ zset_00 (fun h => absurd h (by decide)) (Or.inr (by decide)) zfr.refl zmq_00
    · unfold f8_starved
      simp (disch := omega) only [x_needRule_no hx, bnd_ex (e := 0)]
    · unfold f9_starved
      simp (disch := omega) only [zlet_e, zlit, m_inn_c (show 3 < 1000 by decide) hx, bnd0_ok, if_true, if_false, ite_true, ite_false, Bool.false_eq_true, Bool.true_eq_false, reduceIte, z10, z01, Nat.one_ne_zero, Nat.zero_ne_one, m_bad1 e00]
