/-! THE PURE SIDE, 11: calls, on -/
theorem zInv_mk {T W' : zN2} {r' : Nat} {R' : Nat → Nat} {n m : Nat} {WI : Nat → zN2} {rI : Nat → Nat} {RI : Nat → Nat → Nat} {μX μM μX' μM' : zMem} (hL : zLv T W' r' R' μX' μM') (ht : zTp n μX μM) (hf : μX 0 2 = μM 0 3) (hi : zIm T m WI rI RI μX μM)
    (hx : ∀ k, (k ≤ 1 ∨ (34 ≤ k ∧ k < 49)) → μX' k = μX k) (hm0 : μM' 0 1 = μM 0 1 ∧ μM' 0 3 = μM 0 3 ∧ μM' 0 22 = μM 0 22) (hm1 : μM' 1 = μM 1) (hm94 : ∀ i, i < 3 → μM' (94 + i) = μM (94 + i)) : zInv μX' μM' := by
  obtain ⟨t1, t2, t3, t4⟩ := ht
  obtain ⟨i1, i2, i3, i4⟩ := hi
  refine ⟨T, W', r', R', n, m, WI, rI, RI, hL, ⟨t1, ?_, hm0.1.trans t3, ?_⟩, ?_, i1, ?_, hm0.2.2.trans i3, fun i hi => ?_⟩
  · rw [hx 0 (by omega)]; exact t2
  · rw [hx 1 (by omega), hm1]; exact t4
  · rw [hx 0 (by omega), hm0.2.1]; exact hf
  · rw [hx 0 (by omega)]; exact i2
  · obtain ⟨j1, j2, j3, j4, j5, j6⟩ := i4 i hi
    refine ⟨j1, j2, j3, XS_of (fun key h1 h2 => hx key (by omega)) j4, ?_, ?_⟩
    · unfold XR; rw [hx (34 + 5 * i) (by omega), hx (34 + 5 * i + 4) (by omega)]; exact j5
    · unfold KI; rw [hm94 i (by omega)]; exact j6
theorem znot {y : Int32} {N n : Nat} (h : y < zi 0 ∨ zi N ≤ y) (hn : n < N) (hN : N < 1000) : (y = zi n) = False := by
  apply eq_false
  intro e
  rw [e, zi_lt (by omega) (by omega), zi_le (by omega) (by omega)] at h
  omega
theorem XR_of {r : Nat} {R : Nat → Nat} {k : Nat} {μ μ' : zMem} (h9 : μ' k 9 = μ k 9) (h4 : μ' (k + 4) = μ (k + 4)) (hR : XR r R k μ) : XR r R k μ' := by
  unfold XR; rw [h9, h4]; exact hR
theorem MR_of {r : Nat} {R : Nat → Nat} {μ μ' : zMem} (h : μ' 0 21 = μ 0 21) (h61 : ∀ i, i < 30 → μ' (61 + i) = μ (61 + i)) (hr : r ≤ 30) (hR : MR r R μ) : MR r R μ' := by
  refine ⟨h.trans hR.1, fun i hi => ?_⟩
  rw [h61 i (by omega)]; exact hR.2 i hi
theorem P_door {x y : Int32} {μX μM : zMem} (h : zInv μX μM) : zPm cBI (f8_door x y μX) (f9_door x y μM) := by
  have h' := h
  obtain ⟨T, W, r, R, n, m, WI, rI, RI, ⟨hT, hW, hL, hX, hM, hS, hS', -⟩, -⟩ := h
  have hD := hT.2.2.1
  have hM0 := MT_0 (v := zi 0) hT hM
  have e00 : zset μM 0 0 (zi 0) 0 0 = zi 0 := zset_00
  rcases zcase x (T 2 2) (by omega) with ⟨d, hd, rfl⟩ | hx
  · obtain ⟨x1, x2, x3, x4⟩ := hX.2.2.2.2 d hd
    obtain ⟨m1, m2, m3, m4⟩ := hM.2.2.2.2 d hd
    rcases zcase y 5 (by omega) with ⟨q, hq, rfl⟩ | hy
    · have hq : q = 0 ∨ q = 1 ∨ q = 2 ∨ q = 3 ∨ q = 4 := by omega
      rcases hq with rfl | rfl | rfl | rfl | rfl
      · refine zPm_q h' (μX' := μX) (μM' := zset μM 0 0 (zi 0)) (e := 0) (v := zi (T 8 d)) (w := zi (T 8 d)) ?_ ?_ zset_00 (fun _ => rfl) (Or.inl rfl) zfr.refl zmq_0
        · unfold f8_door; simp (disch := omega) only [x_needD_ok hT hX hd, bnd_ok, zlit, if_true, zin_i, zi_cl, x1]
        · unfold f9_door; simp (disch := omega) only [zlet_e, zlit, m_isD_ok hT hM0 hd, m_inn_o, bnd0_ok, m_bad0 e00, if_true, if_false, ite_true, ite_false, Bool.false_eq_true, Bool.true_eq_false, reduceIte, z10, z01, Nat.one_ne_zero, Nat.zero_ne_one, zin_i, zi_cl, zset_nk, m1, zi_le, show ¬ 4 ≤ 0 by omega]
      · refine zPm_q h' (μX' := μX) (μM' := zset μM 0 0 (zi 0)) (e := 0) (v := zi (T 9 d)) (w := zi (T 9 d)) ?_ ?_ zset_00 (fun _ => rfl) (Or.inl rfl) zfr.refl zmq_0
        · unfold f8_door; simp (disch := omega) only [x_needD_ok hT hX hd, bnd_ok, zlit, if_true, if_false, ite_true, ite_false, Bool.false_eq_true, Bool.true_eq_false, reduceIte, z10, z01, Nat.one_ne_zero, Nat.zero_ne_one, zin_i, zi_cl, x2]
        · unfold f9_door; simp (disch := omega) only [zlet_e, zlit, m_isD_ok hT hM0 hd, m_inn_o, bnd0_ok, m_bad0 e00, if_true, if_false, ite_true, ite_false, Bool.false_eq_true, Bool.true_eq_false, reduceIte, z10, z01, Nat.one_ne_zero, Nat.zero_ne_one, zin_i, zi_cl, zset_nk, m2, zi_le, show ¬ 4 ≤ 1 by omega]
      · refine zPm_q h' (μX' := μX) (μM' := zset μM 0 0 (zi 0)) (e := 0) (v := zi (T 10 d)) (w := zi (T 10 d)) ?_ ?_ zset_00 (fun _ => rfl) (Or.inl rfl) zfr.refl zmq_0
        · unfold f8_door; simp (disch := omega) only [x_needD_ok hT hX hd, bnd_ok, zlit, zi_eq, show ¬ 2 = 0 by omega, show ¬ 2 = 1 by omega, if_true, if_false, ite_true, ite_false, Bool.false_eq_true, Bool.true_eq_false, reduceIte, z10, z01, Nat.one_ne_zero, Nat.zero_ne_one, zin_i, zi_cl, x3]
        · unfold f9_door; simp (disch := omega) only [zlet_e, zlit, m_isD_ok hT hM0 hd, m_inn_o, bnd0_ok, m_bad0 e00, if_true, if_false, ite_true, ite_false, Bool.false_eq_true, Bool.true_eq_false, reduceIte, z10, z01, Nat.one_ne_zero, Nat.zero_ne_one, zin_i, zi_cl, zset_nk, m3, zi_le, show ¬ 4 ≤ 2 by omega]
      · refine zPm_q h' (μX' := μX) (μM' := zset μM 0 0 (zi 0)) (e := 0) (v := if T 11 d = 0 then zN1 else zi (T 11 d - 1)) (w := if T 11 d = 0 then zN1 else zi (T 11 d - 1)) ?_ ?_ zset_00 (fun _ => rfl) (Or.inl rfl) zfr.refl zmq_0
        · unfold f8_door; simp (disch := omega) only [x_needD_ok hT hX hd, bnd_ok, zlit, zi_eq, show ¬ 3 = 0 by omega, show ¬ 3 = 1 by omega, show ¬ 3 = 2 by omega, if_true, if_false, ite_true, ite_false, Bool.false_eq_true, Bool.true_eq_false, reduceIte, z10, z01, Nat.one_ne_zero, Nat.zero_ne_one, zin_i, zi_cl, x4]
        · unfold f9_door; simp (disch := omega) only [zlet_e, zlit, m_isD_ok hT hM0 hd, m_inn_o, bnd0_ok, m_bad0 e00, if_true, if_false, ite_true, ite_false, Bool.false_eq_true, Bool.true_eq_false, reduceIte, z10, z01, Nat.one_ne_zero, Nat.zero_ne_one, zin_i, zi_cl, zset_nk, m4, zi_le, show ¬ 4 ≤ 3 by omega]
      · refine zPm_q h' (μX' := μX) (μM' := zset μM 0 0 (zi 0)) (e := 0) (v := zi (if (W 0 4).testBit d = true then 1 else 0)) (w := zi (if (W 0 4).testBit d = true then 1 else 0)) ?_ ?_ zset_00 (fun _ => rfl) (Or.inl rfl) zfr.refl zmq_0
        · unfold f8_door; simp (disch := omega) only [x_needD_ok hT hX hd, bnd_ok, zlit, zi_eq, show ¬ 4 = 0 by omega, show ¬ 4 = 1 by omega, show ¬ 4 = 2 by omega, show ¬ 4 = 3 by omega, if_true, if_false, ite_true, ite_false, Bool.false_eq_true, Bool.true_eq_false, reduceIte, z10, z01, Nat.one_ne_zero, Nat.zero_ne_one, x_isOpen hW hS, bnd0_ok, zlet_e]
          cases (W 0 4).testBit d
          · simp only [if_true, if_false, ite_true, ite_false, Bool.false_eq_true, Bool.true_eq_false, reduceIte, z10, z01, Nat.one_ne_zero, Nat.zero_ne_one]
          · simp only [if_true, if_false, ite_true, ite_false, Bool.false_eq_true, Bool.true_eq_false, reduceIte, z10, z01, Nat.one_ne_zero, Nat.zero_ne_one]
        · unfold f9_door; simp (disch := omega) only [zlet_e, zlit, m_isD_ok hT hM0 hd, m_inn_o, bnd0_ok, m_bad0 e00, if_true, if_false, ite_true, ite_false, Bool.false_eq_true, Bool.true_eq_false, reduceIte, z10, z01, Nat.one_ne_zero, Nat.zero_ne_one, zin_i, zi_cl, zset_nk, hS'.2.2.2 d (by omega), zi_le, Nat.le_refl]
    · refine zPm_q h' (μX' := μX) (μM' := zset (zset μM 0 0 (zi 0)) 0 0 (zi 2)) (e := 1) (v := zi 0) (w := zi 0) ?_ ?_ zset_00 (fun h => absurd h (by decide)) (Or.inr (by decide)) zfr.refl zmq_00
      · unfold f8_door; simp (disch := omega) only [x_needD_ok hT hX hd, bnd_ok, zlit, znot hy, if_false]
      · unfold f9_door; simp (disch := omega) only [zlet_e, zlit, m_isD_ok hT hM0 hd, m_inn_c (show 4 < 1000 by decide) hy, bnd0_ok, m_bad0 e00, m_bad1 e00, if_true, if_false, ite_true, ite_false, Bool.false_eq_true, Bool.true_eq_false, reduceIte, z10, z01, Nat.one_ne_zero, Nat.zero_ne_one]
  · refine zPm_q h' (μX' := μX) (μM' := zset (zset μM 0 0 (zi 0)) 0 0 (zi 1)) (e := 3) (v := zi 0) (w := zi 0) ?_ ?_ zset_00 (fun h => absurd h (by decide)) (Or.inr (by decide)) zfr.refl zmq_00
    · unfold f8_door
      simp only [x_needD_no hX hx, bnd_ex (e := 2)]
    · unfold f9_door
      simp (disch := omega) only [zlet_e, zlit, m_isD_no hT hM0 hx, bnd0_ok, m_bad1 e00, if_true, if_false, ite_true, ite_false, Bool.false_eq_true, Bool.true_eq_false, reduceIte, z10, z01, Nat.one_ne_zero, Nat.zero_ne_one]
theorem wl_work {T W : zN2} {d a b : Nat} (hL : WL T W) (hab : a ≠ b) : WL T (tK T W d a b) := by
  unfold WL at *
  rw [tK_0 hab (by decide), tK_0 hab (by decide), tK_0 hab (by decide), tK_0 hab (by decide)]
  refine ⟨hL.1, hL.2.1, hL.2.2.1, fun p hp => ?_⟩
  rw [tK_2 hab]; exact hL.2.2.2 p hp
/-- what a WORK that does not ERR has -/
theorem tE_0 {T W : zN2} {d a b : Nat} (h : tE T W d a b = 0) : (W 0 4).testBit d = false ∧ W 0 0 ≤ T 10 d ∧ a ≠ b ∧ (T 7 a).testBit b = false ∧ T 9 d ≤ W 1 a ∧ T 9 d ≤ W 1 b ∧ W 0 2 ≤ zd (W (4 + a) (tA T W d)) (W (4 + b) (tA T W d)) := by
  unfold tE at h
  by_cases h1 : (W 0 4).testBit d = true
  · rw [if_pos h1] at h; omega
  · rw [if_neg h1] at h
    by_cases h2 : T 10 d < W 0 0
    · rw [if_pos h2] at h; omega
    · rw [if_neg h2] at h
      by_cases h3 : a = b ∨ (T 7 a).testBit b = true
      · rw [if_pos h3] at h; omega
      · rw [if_neg h3] at h
        by_cases h4 : W 1 a < T 9 d ∨ W 1 b < T 9 d
        · rw [if_pos h4] at h; omega
        · rw [if_neg h4] at h
          by_cases h5 : zd (W (4 + a) (tA T W d)) (W (4 + b) (tA T W d)) < W 0 2
          · rw [if_pos h5] at h; omega
          · refine ⟨by simpa using h1, by omega, fun e => h3 (Or.inl e), ?_, by omega, by omega, by omega⟩
            cases hk : (T 7 a).testBit b
            · rfl
            · exact absurd (Or.inr hk) h3
theorem P_work {x y z : Int32} {μX μM : zMem} (h : zInv μX μM) : zPm cBN (f8_work x y z μX) (f9_work x y z μM) := by
  have h' := h
  obtain ⟨T, W, r, R, n, m, WI, rI, RI, ⟨hT, hW, hL, hX, hM, hS, hS', h30, hB, hR, hR'⟩, ht, hf, hi⟩ := h
  have hP := hT.2.1
  have hD := hT.2.2.1
  have hM0 := MT_0 (v := zi 0) hT hM
  have hS0 := MS_0 (v := zi 0) hT hW hS'
  have e00 : zset μM 0 0 (zi 0) 0 0 = zi 0 := zset_00
  rcases zcase x (T 2 2) (by omega) with ⟨d, hd, rfl⟩ | hx
  · rcases zcase y (T 2 1) (by omega) with ⟨a, ha, rfl⟩ | hy
    · rcases zcase z (T 2 1) (by omega) with ⟨b, hb, rfl⟩ | hz
      · have haW : a < W 0 3 := by rw [hL.2.2.1]; exact ha
        have hbW : b < W 0 3 := by rw [hL.2.2.1]; exact hb
        by_cases h0 : tE T W d a b = 0
        · obtain ⟨-, -, hab, -, l1, l2, -⟩ := tE_0 h0
          have hA := tA_lt hT hW hd
          have hA4 := hT.1
          obtain ⟨μX', a1, a2, a3, a4⟩ := x_doWork (k := 23) (by decide) hT hW hX hS hd haW hbW hab l1 l2
          obtain ⟨μM', b1, b2, b3⟩ := m_works hT hW hM0 hS0 hd haW hbW ha hb hab l1 l2
          have hW' := wb_work (a := a) (b := b) hT hW hd hab
          have hM' : MT T μM' := MT_fr b3 (by omega) (by omega) (by omega) (fun p hp => by omega) (fun d hd => by omega) hT hM0
          have hA' : tA T (tK T W d a b) d = tA T W d := by unfold tA; rw [tK_0 hab (by decide)]
          have t1 := wb_th hW' a (tA T W d)
          have t2 := wb_th hW' b (tA T W d)
          have e3 : tK T W d a b 0 3 = W 0 3 := tK_0 hab (by decide)
          refine ⟨0, _, μX', zi (zd (tK T W d a b (4 + a) (tA T W d)) (tK T W d a b (4 + b) (tA T W d))), μM', ?_, ?_, ?_, fun _ => rfl, Or.inl rfl, ?_⟩
          · unfold f8_work
            simp only [x_needD_ok hT hX hd, x_needP_ok hT hX ha, x_needP_ok hT hX hb, bnd_ok, x_errs hT hW hX hS hd haW hbW, bnd0_ok, h0, zlit, if_true, zlet_e, a1]
          · unfold f9_work
            have := m_asked hT hW' hM' b2 hd
            rw [hA'] at this
            simp (disch := omega) only [zlet_e, zlit, m_badWork_ok hT hM0 e00 hd ha hb, bnd0_ok, if_true, if_false, ite_true, ite_false, Bool.false_eq_true, Bool.true_eq_false, reduceIte, z10, z01, Nat.one_ne_zero, Nat.zero_ne_one, m_errs hT hW hM0 hS0 hd haW hbW, h0, zi_le, Nat.le_refl, b1, zin_i, this, zi_cl, (b2.2.1 a (by omega)).2 _ hA, (b2.2.1 b (by omega)).2 _ hA, m_amount]
          · rw [b3 0 (by omega)]; exact zset_00
          · refine zInv_mk (T := T) (W' := tK T W d a b) (r' := r) (R' := R) ⟨hT, hW', wl_work hL hab, XT_of (fun key hk => a3 key (by omega)) hX, hM', a2, b2, ?_, hB, XR_of a4 (a3 _ (by omega)) hR, MR_of (by rw [b3 0 (by omega), zset_nj (by decide)]) (fun i hi => by rw [b3 _ (by omega), zset_nk (by omega)]) hB.1 hR'⟩ ht hf hi (fun k hk => a3 k (by omega)) ?_ ?_ ?_
            · rw [b3 0 (by omega), zset_nj (by decide)]; exact h30
            · rw [b3 0 (by omega), zset_nj (by decide), zset_nj (by decide), zset_nj (by decide)]; exact ⟨rfl, rfl, rfl⟩
            · rw [b3 1 (by omega), zset_nk (by decide)]
            · intro i hi; rw [b3 (94 + i) (by omega), zset_nk (by omega)]
        · have hlt := tE_lt (T := T) (W := W) (d := d) (a := a) (b := b)
          refine zPm_q h' (μX' := μX) (μM' := zset μM 0 0 (zi 0)) (e := 0) (v := -zi (tE T W d a b)) (w := -zi (tE T W d a b)) ?_ ?_ zset_00 (fun _ => rfl) (Or.inl rfl) zfr.refl zmq_0
          · unfold f8_work
            simp (disch := omega) only [x_needD_ok hT hX hd, x_needP_ok hT hX ha, x_needP_ok hT hX hb, bnd_ok, x_errs hT hW hX hS hd haW hbW, bnd0_ok, zlit, zi_eq, h0, if_false, zlet_e]
          · unfold f9_work
            simp (disch := omega) only [zlet_e, zlit, m_badWork_ok hT hM0 e00 hd ha hb, bnd0_ok, if_true, if_false, ite_true, ite_false, Bool.false_eq_true, Bool.true_eq_false, reduceIte, z10, z01, Nat.one_ne_zero, Nat.zero_ne_one, m_errs hT hW hM0 hS0 hd haW hbW, zi_le, show ¬ tE T W d a b ≤ 0 by omega]
      · refine zPm_q h' (μX' := μX) (μM' := zset (zset μM 0 0 (zi 0)) 0 0 (zi 2)) (e := 2) (v := zi 0) (w := zi 0) ?_ ?_ zset_00 (fun h => absurd h (by decide)) (Or.inr (by decide)) zfr.refl zmq_00
        · unfold f8_work
          simp only [x_needD_ok hT hX hd, x_needP_ok hT hX ha, x_needP_no hX hz, bnd_ok, bnd_ex (e := 1)]
        · unfold f9_work
          simp (disch := omega) only [zlet_e, zlit, m_badWork_p hT hM0 e00 hd (Or.inr hz), bnd0_ok, if_true, if_false, ite_true, ite_false, Bool.false_eq_true, Bool.true_eq_false, reduceIte, z10, z01, Nat.one_ne_zero, Nat.zero_ne_one]
    · refine zPm_q h' (μX' := μX) (μM' := zset (zset μM 0 0 (zi 0)) 0 0 (zi 2)) (e := 2) (v := zi 0) (w := zi 0) ?_ ?_ zset_00 (fun h => absurd h (by decide)) (Or.inr (by decide)) zfr.refl zmq_00
      · unfold f8_work
        simp only [x_needD_ok hT hX hd, x_needP_no hX hy, bnd_ok, bnd_ex (e := 1)]
      · unfold f9_work
        simp (disch := omega) only [zlet_e, zlit, m_badWork_p hT hM0 e00 hd (Or.inl hy), bnd0_ok, if_true, if_false, ite_true, ite_false, Bool.false_eq_true, Bool.true_eq_false, reduceIte, z10, z01, Nat.one_ne_zero, Nat.zero_ne_one]
  · refine zPm_q h' (μX' := μX) (μM' := zset (zset μM 0 0 (zi 0)) 0 0 (zi 1)) (e := 3) (v := zi 0) (w := zi 0) ?_ ?_ zset_00 (fun h => absurd h (by decide)) (Or.inr (by decide)) zfr.refl zmq_00
    · unfold f8_work
      simp only [x_needD_no hX hx, bnd_ex (e := 2)]
    · unfold f9_work
      simp (disch := omega) only [zlet_e, zlit, m_badWork_d hT hM0 e00 hx, bnd0_ok, if_true, if_false, ite_true, ite_false, Bool.false_eq_true, Bool.true_eq_false, reduceIte, z10, z01, Nat.one_ne_zero, Nat.zero_ne_one]
