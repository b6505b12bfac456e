/-! THE PURE SIDE, 13: calls, on -/
theorem m_count_L9 {T W : zN2} {μ : zMem} (hT : TB T) (hM : MT T μ) (hS : MS T W μ) (K : Int32 → zRes) : f9_count_L9 μ K zF (zi 0) (zi 0) = K (zi (nsum (fun d => b01 ((W 0 4).testBit d)) (T 2 2))) := by
  have hD := hT.2.2.1
  obtain ⟨s, h1, h2⟩ := zloopE (L := fun n i (s : Int32) => f9_count_L9 μ K n s (zi i)) (N := T 2 2) (o := K) (fun i s => s = zi (nsum (fun d => b01 ((W 0 4).testBit d)) i))
    (fun n s hs => by simp (disch := omega) only [f9_count_L9, zlit, zin_i, zi_cl, hM.1.2.2.1, zi_le, Nat.le_refl, if_true])
    (fun n i s hi hs => ⟨zi (nsum (fun d => b01 ((W 0 4).testBit d)) (i + 1)), by
      subst hs
      simp (disch := omega) only [f9_count_L9, zlit, zin_i, zi_cl, hM.1.2.2.1, zi_le, show ¬ T 2 2 ≤ i by omega, if_false, zlet_e, hS.2.2.2 i (by omega), zi_add]
      rfl, rfl⟩)
    (T 2 2) 0 (zi 0) zF (by omega) (by unfold zF; omega) rfl
  subst h2
  exact h1
theorem P_count {x : Int32} {μX μM : zMem} (h : zInv μX μM) : zPm c0 (f8_count x μX) (f9_count x μM) := by
  have h' := h
  obtain ⟨T, W, r, R, n, m, WI, rI, RI, ⟨hT, hW, hL, hX, hM, hS, hS', h30, hB, hR, hR'⟩, ht, hf, hi⟩ := h
  have hD := hT.2.2.1
  have hM0 := MT_0 (v := zi 0) hT hM
  have hS0 := MS_0 (v := zi 0) hT hW hS'
  have hc := m_count_L9 hT hM0 hS0
  rcases zcase x 5 (by omega) with ⟨q, hq, rfl⟩ | hy
  · have hq : q = 0 ∨ q = 1 ∨ q = 2 ∨ q = 3 ∨ q = 4 := by omega
    rcases hq with rfl | rfl | rfl | rfl | rfl
    · refine zPm_q h' (μX' := μX) (μM' := zset μM 0 0 (zi 0)) (e := 0) (v := zi (W 0 0)) (w := zi (W 0 0)) ?_ ?_ zset_00 (fun _ => rfl) (Or.inl rfl) zfr.refl zmq_0
      · unfold f8_count; simp (disch := omega) only [zlit, if_true, hS.1.1]
      · unfold f9_count; simp (disch := omega) only [zlet_e', zlit', hc, if_true, zset_nj, hS'.1.1]
    · refine zPm_q h' (μX' := μX) (μM' := zset μM 0 0 (zi 0)) (e := 0) (v := zi (popc (W 0 4))) (w := zi (nsum (fun d => b01 ((W 0 4).testBit d)) (T 2 2))) ?_ ?_ zset_00 (fun _ => ?_) (Or.inl rfl) zfr.refl zmq_0
      · unfold f8_count; simp (disch := omega) only [zlit, if_true, if_false, ite_true, ite_false, Bool.false_eq_true, Bool.true_eq_false, reduceIte, z10, z01, Nat.one_ne_zero, Nat.zero_ne_one, hS.1.2.2.2.2, x_bitCount hW.2.2.2.2.1, bnd0_ok]
      · unfold f9_count; simp (disch := omega) only [zlet_e', zlit', hc, if_true, if_false, ite_true, ite_false, Bool.false_eq_true, Bool.true_eq_false, reduceIte, z10, z01, Nat.one_ne_zero, Nat.zero_ne_one]
      · rw [popc_lt hW.2.2.2.2.2.2.2.2 (by omega)]
    · refine zPm_q h' (μX' := μX) (μM' := zset μM 0 0 (zi 0)) (e := 0) (v := zi r) (w := zi r) ?_ ?_ zset_00 (fun _ => rfl) (Or.inl rfl) zfr.refl zmq_0
      · unfold f8_count; simp (disch := omega) only [zlit, zi_eq, show ¬ 2 = 0 by omega, show ¬ 2 = 1 by omega, if_true, if_false, ite_true, ite_false, Bool.false_eq_true, Bool.true_eq_false, reduceIte, z10, z01, Nat.one_ne_zero, Nat.zero_ne_one, hR.1]
      · unfold f9_count; simp (disch := omega) only [zlet_e', zlit', hc, zi_eq, show ¬ 2 = 0 by omega, show ¬ 2 = 1 by omega, if_true, if_false, ite_true, ite_false, Bool.false_eq_true, Bool.true_eq_false, reduceIte, z10, z01, Nat.one_ne_zero, Nat.zero_ne_one, zset_nj, hR'.1]
    · refine zPm_q h' (μX' := μX) (μM' := zset μM 0 0 (zi 0)) (e := 0) (v := zi m) (w := zi m) ?_ ?_ zset_00 (fun _ => rfl) (Or.inl rfl) zfr.refl zmq_0
      · unfold f8_count; simp (disch := omega) only [zlit, zi_eq, show ¬ 3 = 0 by omega, show ¬ 3 = 1 by omega, show ¬ 3 = 2 by omega, if_true, if_false, ite_true, ite_false, Bool.false_eq_true, Bool.true_eq_false, reduceIte, z10, z01, Nat.one_ne_zero, Nat.zero_ne_one, hi.2.1]
      · unfold f9_count; simp (disch := omega) only [zlet_e', zlit', hc, zi_eq, show ¬ 3 = 0 by omega, show ¬ 3 = 1 by omega, show ¬ 3 = 2 by omega, if_true, if_false, ite_true, ite_false, Bool.false_eq_true, Bool.true_eq_false, reduceIte, z10, z01, Nat.one_ne_zero, Nat.zero_ne_one, zset_nj, hi.2.2.1]
    · refine zPm_q h' (μX' := μX) (μM' := zset μM 0 0 (zi 0)) (e := 0) (v := zi n) (w := zi n) ?_ ?_ zset_00 (fun _ => rfl) (Or.inl rfl) zfr.refl zmq_0
      · unfold f8_count; simp (disch := omega) only [zlit, zi_eq, show ¬ 4 = 0 by omega, show ¬ 4 = 1 by omega, show ¬ 4 = 2 by omega, show ¬ 4 = 3 by omega, if_true, if_false, ite_true, ite_false, Bool.false_eq_true, Bool.true_eq_false, reduceIte, z10, z01, Nat.one_ne_zero, Nat.zero_ne_one, ht.2.1]
      · unfold f9_count; simp (disch := omega) only [zlet_e', zlit', hc, zi_eq, show ¬ 4 = 0 by omega, show ¬ 4 = 1 by omega, show ¬ 4 = 2 by omega, show ¬ 4 = 3 by omega, if_true, if_false, ite_true, ite_false, Bool.false_eq_true, Bool.true_eq_false, reduceIte, z10, z01, Nat.one_ne_zero, Nat.zero_ne_one, zset_nj, ht.2.2.1]
  · refine zPm_q h' (μX' := μX) (μM' := zset μM 0 0 (zi 0)) (e := 0) (v := zN1) (w := zN1) ?_ ?_ zset_00 (fun _ => rfl) (Or.inl rfl) zfr.refl zmq_0
    · unfold f8_count; simp (disch := omega) only [↓zneg1, zlit, znot hy, if_false]
    · unfold f9_count; simp (disch := omega) only [zlet_e', ↓zneg1', zlit', hc, znot hy, if_false]
/-- of what earned() counts -/
def eC (T W : zN2) (w d : Nat) : Nat := if (if w = 0 then (W 0 4).testBit d = true else (W 0 4).testBit d = false ∧ T 10 d < W 0 0) then T 8 d else 0
theorem x_earned {T W : zN2} {μ : zMem} (hT : TB T) (hW : WB T W) (hX : XT T μ) (hS : XS T W 23 μ) (K : Int32 → zMem → zRes) {w : Nat} (hw : w < 2) : f8_earned_L10 (zi w) K zF (zi 0) (zi 0) μ = K (zi (nsum (eC T W w) (T 2 2))) μ := by
  have hD := hT.2.2.1
  obtain ⟨s, h1, h2⟩ := zloopE (L := fun n i (s : Int32 × zMem) => f8_earned_L10 (zi w) K n s.1 (zi i) s.2) (N := T 2 2) (o := fun s => K s.1 s.2) (fun i s => s = (zi (nsum (eC T W w) i), μ))
    (fun n s hs => by subst hs; simp (disch := omega) only [f8_earned_L10, hX.1.2.2.1, zi_le, Nat.le_refl, if_true])
    (fun n i s hi hs => ⟨(zi (nsum (eC T W w) (i + 1)), μ), by
      subst hs
      have e8 := (hX.2.2.2.2 i hi).1
      show _ = f8_earned_L10 (zi w) K n (zi (nsum (eC T W w) i + eC T W w i)) (zi (i + 1)) μ
      simp (disch := omega) only [f8_earned_L10, hX.1.2.2.1, zi_le, show ¬ T 2 2 ≤ i by omega, if_false, zlet_e, zlit, zi_eq, x_isOpen hW hS, x_isTooLate hT hW hX hS hi, bnd0_ok, zin_i, zi_cl, e8, zi_add]
      unfold eC
      by_cases h0 : w = 0
      · cases hb : (W 0 4).testBit i
        · simp only [h0, if_true, if_false, ite_true, ite_false, Bool.false_eq_true, Bool.true_eq_false, reduceIte, z10, z01, Nat.one_ne_zero, Nat.zero_ne_one, Nat.add_zero]
        · simp only [h0, if_true, if_false, ite_true, ite_false, Bool.false_eq_true, Bool.true_eq_false, reduceIte, z10, z01, Nat.one_ne_zero, Nat.zero_ne_one]
      · cases hb : (W 0 4).testBit i
        · by_cases hl : T 10 i < W 0 0
          · simp only [h0, hl, if_true, if_false, ite_true, ite_false, Bool.false_eq_true, Bool.true_eq_false, reduceIte, z10, z01, Nat.one_ne_zero, Nat.zero_ne_one, and_self]
          · simp only [h0, hl, if_true, if_false, ite_true, ite_false, Bool.false_eq_true, Bool.true_eq_false, reduceIte, z10, z01, Nat.one_ne_zero, Nat.zero_ne_one, and_false, Nat.add_zero]
        · simp only [h0, if_true, if_false, ite_true, ite_false, Bool.false_eq_true, Bool.true_eq_false, reduceIte, z10, z01, Nat.one_ne_zero, Nat.zero_ne_one, false_and, Nat.add_zero], rfl⟩)
    (T 2 2) 0 (zi 0, μ) zF (by omega) (by unfold zF; omega) rfl
  subst h2
  exact h1
theorem m_earned {T W : zN2} {μ : zMem} (hT : TB T) (hW : WB T W) (hM : MT T μ) (hS : MS T W μ) (K : Int32 → zRes) {w : Nat} (hw : w < 2) : f9_earned_L33 (zi w) μ K zF (zi 0) (zi 0) = K (zi (nsum (eC T W w) (T 2 2))) := by
  have hD := hT.2.2.1
  have hN := hW.1
  obtain ⟨s, h1, h2⟩ := zloopE (L := fun n i (s : Int32) => f9_earned_L33 (zi w) μ K n s (zi i)) (N := T 2 2) (o := K) (fun i s => s = zi (nsum (eC T W w) i))
    (fun n s hs => by simp (disch := omega) only [f9_earned_L33, zlit, zin_i, zi_cl, hM.1.2.2.1, zi_le, Nat.le_refl, if_true])
    (fun n i s hi hs => ⟨zi (nsum (eC T W w) (i + 1)), by
      subst hs
      obtain ⟨e1, -, e3, -⟩ := hM.2.2.2.2 i hi
      have h10 := tb_10 hT i
      show _ = f9_earned_L33 (zi w) μ K n (zi (nsum (eC T W w) i + eC T W w i)) (zi (i + 1))
      simp (disch := omega) only [f9_earned_L33, zlit, zin_i, zi_cl, hM.1.2.2.1, zi_le, show ¬ T 2 2 ≤ i by omega, if_false, zlet_e, hS.2.2.2 i (by omega), zi_add, e1, e3, zi_eq, hS.1.1]
      unfold eC
      by_cases h0 : w = 0
      · cases hb : (W 0 4).testBit i
        · simp only [h0, if_true, if_false, ite_true, ite_false, Bool.false_eq_true, Bool.true_eq_false, reduceIte, z10, z01, Nat.one_ne_zero, Nat.zero_ne_one, Nat.add_zero]
        · simp only [h0, if_true, if_false, ite_true, ite_false, Bool.false_eq_true, Bool.true_eq_false, reduceIte, z10, z01, Nat.one_ne_zero, Nat.zero_ne_one]
      · have h1 : w = 1 := by omega
        cases hb : (W 0 4).testBit i
        · by_cases hl : T 10 i < W 0 0
          · simp only [h1, hl, if_true, if_false, ite_true, ite_false, Bool.false_eq_true, Bool.true_eq_false, reduceIte, z10, z01, Nat.one_ne_zero, Nat.zero_ne_one, and_self, show ¬ W 0 0 ≤ T 10 i by omega]
          · simp only [h1, hl, if_true, if_false, ite_true, ite_false, Bool.false_eq_true, Bool.true_eq_false, reduceIte, z10, z01, Nat.one_ne_zero, Nat.zero_ne_one, and_false, Nat.add_zero, show W 0 0 ≤ T 10 i by omega]
        · simp only [h1, if_true, if_false, ite_true, ite_false, Bool.false_eq_true, Bool.true_eq_false, reduceIte, z10, z01, Nat.one_ne_zero, Nat.zero_ne_one, false_and, Nat.add_zero], rfl⟩)
    (T 2 2) 0 (zi 0) zF (by omega) (by unfold zF; omega) rfl
  subst h2
  exact h1
theorem P_earned {x : Int32} {μX μM : zMem} (h : zInv μX μM) : zPm cI (f8_earned x μX) (f9_earned x μM) := by
  have h' := h
  obtain ⟨T, W, r, R, n, m, WI, rI, RI, ⟨hT, hW, hL, hX, hM, hS, hS', h30, hB, hR, hR'⟩, ht, hf, hi⟩ := h
  have hM0 := MT_0 (v := zi 0) hT hM
  have hS0 := MS_0 (v := zi 0) hT hW hS'
  have e00 : zset μM 0 0 (zi 0) 0 0 = zi 0 := zset_00
  rcases zcase x 2 (by omega) with ⟨w, hw, rfl⟩ | hx
  · refine zPm_q h' (μX' := μX) (μM' := zset μM 0 0 (zi 0)) (e := 0) (v := zi (nsum (eC T W w) (T 2 2))) (w := zi (nsum (eC T W w) (T 2 2))) ?_ ?_ zset_00 (fun _ => rfl) (Or.inl rfl) zfr.refl zmq_0
    · unfold f8_earned; simp (disch := omega) only [zlit', x_needW_ok, bnd_ok', x_earned hT hW hX hS _ hw]
    · unfold f9_earned; simp (disch := omega) only [zlet_e', zlit', m_inn_o, bnd0_ok', if_true, if_false, ite_true, ite_false, Bool.false_eq_true, Bool.true_eq_false, reduceIte, z10, z01, Nat.one_ne_zero, Nat.zero_ne_one, m_bad0 e00, m_earned hT hW hM0 hS0 _ hw]
  · refine zPm_q h' (μX' := μX) (μM' := zset (zset μM 0 0 (zi 0)) 0 0 (zi 1)) (e := 1) (v := zi 0) (w := zi 0) ?_ ?_ zset_00 (fun h => absurd h (by decide)) (Or.inr (by decide)) zfr.refl zmq_00
    · unfold f8_earned; simp (disch := omega) only [zlit', x_needW_no (show 1 < 1000 by decide) hx, bnd_ex' (e := 0)]
    · unfold f9_earned; simp (disch := omega) only [zlet_e', zlit', m_inn_c (show 1 < 1000 by decide) hx, bnd0_ok', if_true, if_false, ite_true, ite_false, Bool.false_eq_true, Bool.true_eq_false, reduceIte, z10, z01, Nat.one_ne_zero, Nat.zero_ne_one, m_bad1 e00]
theorem P_row {x y z u : Int32} {μX μM : zMem} (h : zInv μX μM) : zPm cBNI (f8_row x y z u μX) (f9_row x y z u μM) := by
  have h' := h
  obtain ⟨T, W, r, R, n, m, WI, rI, RI, ⟨hT, hW, hL, hX, hM, hS, hS', h30, hB, hR, hR'⟩, ht, hf, hi⟩ := h
  have hP := hT.2.1
  have hD := hT.2.2.1
  have hr := hB.1
  have hM0 := MT_0 (v := zi 0) hT hM
  have hS0 := MS_0 (v := zi 0) hT hW hS'
  have e00 : zset μM 0 0 (zi 0) 0 0 = zi 0 := zset_00
  rcases zcase y (T 2 2) (by omega) with ⟨d, hd, rfl⟩ | hy
  · rcases zcase z (T 2 1) (by omega) with ⟨a, ha, rfl⟩ | hz
    · rcases zcase u (T 2 1) (by omega) with ⟨b, hb, rfl⟩ | hu
      · rcases zcase x 30 (by omega) with ⟨dy, hdy, rfl⟩ | hx
        · by_cases h3 : r = 30
          · refine zPm_q h' (μX' := μX) (μM' := zset μM 0 0 (zi 0)) (e := 0) (v := zN1) (w := zN1) ?_ ?_ zset_00 (fun _ => rfl) (Or.inl rfl) zfr.refl zmq_0
            · unfold f8_row
              simp (disch := omega) only [x_needD_ok hT hX hd, x_needP_ok hT hX ha, x_needP_ok hT hX hb, x_needDay_ok hdy, bnd_ok, hR.1, h3, ↓zneg1, zlit, zi_lt, Nat.lt_irrefl, if_false]
            · unfold f9_row
              simp (disch := omega) only [zlet_e, ↓zneg1, zlit, m_badWork_ok hT hM0 e00 hd ha hb, bnd0_ok, if_true, if_false, ite_true, ite_false, Bool.false_eq_true, Bool.true_eq_false, reduceIte, z10, z01, Nat.one_ne_zero, Nat.zero_ne_one, m_inn_o, m_bad0 e00, zset_nj, hR'.1, h3]
          · have hc : ∀ i, i < r + 1 → (fun i => if i = r then 1000 * dy + 100 * d + 10 * a + b else R i) i / 1000 ≤ 29 ∧ (fun i => if i = r then 1000 * dy + 100 * d + 10 * a + b else R i) i / 100 % 10 < T 2 2 ∧ (fun i => if i = r then 1000 * dy + 100 * d + 10 * a + b else R i) i / 10 % 10 < T 2 1 ∧ (fun i => if i = r then 1000 * dy + 100 * d + 10 * a + b else R i) i % 10 < T 2 1 := by
              intro i hi
              by_cases e : i = r
              · simp only [e, if_true]; omega
              · simp only [e, if_false]; exact hB.2 i (by omega)
            have q1 : (1000 * dy + 100 * d + 10 * a + b) / 1000 = dy := by omega
            have q2 : (1000 * dy + 100 * d + 10 * a + b) / 100 % 10 = d := by omega
            have q3 : (1000 * dy + 100 * d + 10 * a + b) / 10 % 10 = a := by omega
            have q4 : (1000 * dy + 100 * d + 10 * a + b) % 10 = b := by omega
            refine ⟨0, zi (r + 1), zset (zset μX 27 r (zi (1000 * dy + 100 * d + 10 * a + b))) 23 9 (zi (r + 1)), zi (r + 1), zset (zset (zset (zset (zset (zset μM 0 0 (zi 0)) (61 + r) 0 (zi dy)) (61 + r) 1 (zi d)) (61 + r) 2 (zi a)) (61 + r) 3 (zi b)) 0 21 (zi (r + 1)), ?_, ?_, ?_, fun _ => rfl, Or.inl rfl, ?_⟩
            · unfold f8_row f8_workCode
              simp (disch := omega) only [x_needD_ok hT hX hd, x_needP_ok hT hX ha, x_needP_ok hT hX hb, x_needDay_ok hdy, bnd_ok, bnd0_ok, hR.1, zlit, zi_lt, show r < 30 by omega, if_true, zin_i, zi_cl, zlet_e, zi_mul, zi_add, zset_nk, zset_eq, Nat.add_assoc]
            · unfold f9_row
              simp (disch := omega) only [zlet_e, zlit, m_badWork_ok hT hM0 e00 hd ha hb, bnd0_ok, if_true, if_false, ite_true, ite_false, Bool.false_eq_true, Bool.true_eq_false, reduceIte, z10, z01, Nat.one_ne_zero, Nat.zero_ne_one, m_inn_o, m_bad0 e00, zset_nj, hR'.1, zi_eq, h3, zin_i, zi_cl, zset_nk, zi_add, zset_eq]
            · simp (disch := omega) only [zset_nk, zset_nj, zset_eq]; rfl
            · refine zInv_mk (T := T) (W' := W) (r' := r + 1) (R' := fun i => if i = r then 1000 * dy + 100 * d + 10 * a + b else R i) (μX := μX) (μM := μM) (n := n) (m := m) (WI := WI) (rI := rI) (RI := RI) ⟨hT, hW, hL, XT_of (fun key hk => by rw [zset_nk (by omega), zset_nk (by omega)]) hX, ?_, ?_, ?_, ?_, ⟨by omega, hc⟩, ⟨zset_eq, fun i hi => ?_⟩, ⟨zset_eq, fun i hi => ?_⟩⟩ ht hf hi (fun k hk => by rw [zset_nk (by omega), zset_nk (by omega)]) ?_ ?_ ?_
              · exact MT_at (fun j _ => by simp (disch := omega) only [zset_nk]) (by simp (disch := omega) only [zset_nk]) (by simp (disch := omega) only [zset_nk]) (fun p _ => by simp (disch := omega) only [zset_nk]) (fun d _ => by simp (disch := omega) only [zset_nk]) hT hM0
              · obtain ⟨⟨s1, s2, s3, s4, s5⟩, s6⟩ := hS
                refine ⟨⟨?_, ?_, ?_, ?_, ?_⟩, fun p hp => ?_⟩
                · simp (disch := omega) only [zset_nk, zset_nj]; exact s1
                · simp (disch := omega) only [zset_nk, zset_nj]; exact s2
                · simp (disch := omega) only [zset_nk, zset_nj]; exact s3
                · simp (disch := omega) only [zset_nk, zset_nj]; exact s4
                · simp (disch := omega) only [zset_nk, zset_nj]; exact s5
                · simp (disch := omega) only [zset_nk]; exact s6 p hp
              · exact MS_at (by simp (disch := omega) only [zset_nk, zset_nj]) (by simp (disch := omega) only [zset_nk, zset_nj]) (by simp (disch := omega) only [zset_nk]) (by simp (disch := omega) only [zset_nk]) (by simp (disch := omega) only [zset_nk]) (fun p hp => by simp (disch := omega) only [zset_nk]) (fun p hp => by simp (disch := omega) only [zset_nk]) hT hW hS0
              · simp (disch := omega) only [zset_nk, zset_nj, h30]
              · rw [zset_nk (by decide), zset_at]
                by_cases e : i = r
                · rw [if_pos ⟨rfl, e⟩]; simp only [e, if_true]
                · rw [if_neg (fun q => e q.2)]; simp only [e, if_false]; exact hR.2 i (by omega)
              · by_cases e : i = r
                · simp (disch := omega) only [e, if_true, zset_nk, zset_nj, zset_eq, q1, q2, q3, q4, and_self]
                · simp (disch := omega) only [e, if_false, zset_nk]; exact hR'.2 i (by omega)
              · simp (disch := omega) only [zset_nk, zset_nj]; exact ⟨trivial, trivial, trivial⟩
              · simp (disch := omega) only [zset_nk]
              · intro i hi; simp (disch := omega) only [zset_nk]
        · refine zPm_q h' (μX' := μX) (μM' := zset (zset μM 0 0 (zi 0)) 0 0 (zi 3)) (e := 1) (v := zi 0) (w := zi 0) ?_ ?_ zset_00 (fun h => absurd h (by decide)) (Or.inr (by decide)) zfr.refl zmq_00
          · unfold f8_row
            simp only [x_needD_ok hT hX hd, x_needP_ok hT hX ha, x_needP_ok hT hX hb, x_needDay_no hx, bnd_ok, bnd_ex (e := 0)]
          · unfold f9_row
            simp (disch := omega) only [zlet_e, zlit, m_badWork_ok hT hM0 e00 hd ha hb, bnd0_ok, if_true, if_false, ite_true, ite_false, Bool.false_eq_true, Bool.true_eq_false, reduceIte, z10, z01, Nat.one_ne_zero, Nat.zero_ne_one, m_inn_c (show 29 < 1000 by decide) hx, m_bad1 e00]
      · refine zPm_q h' (μX' := μX) (μM' := zset (zset μM 0 0 (zi 0)) 0 0 (zi 2)) (e := 2) (v := zi 0) (w := zi 0) ?_ ?_ zset_00 (fun h => absurd h (by decide)) (Or.inr (by decide)) zfr.refl zmq_00
        · unfold f8_row
          simp only [x_needD_ok hT hX hd, x_needP_ok hT hX ha, x_needP_no hX hu, bnd_ok, bnd_ex (e := 1)]
        · unfold f9_row
          simp (disch := omega) only [zlet_e, zlit, m_badWork_p hT hM0 e00 hd (Or.inr hu), bnd0_ok, if_true, if_false, ite_true, ite_false, Bool.false_eq_true, Bool.true_eq_false, reduceIte, z10, z01, Nat.one_ne_zero, Nat.zero_ne_one]
    · refine zPm_q h' (μX' := μX) (μM' := zset (zset μM 0 0 (zi 0)) 0 0 (zi 2)) (e := 2) (v := zi 0) (w := zi 0) ?_ ?_ zset_00 (fun h => absurd h (by decide)) (Or.inr (by decide)) zfr.refl zmq_00
      · unfold f8_row
        simp only [x_needD_ok hT hX hd, x_needP_no hX hz, bnd_ok, bnd_ex (e := 1)]
      · unfold f9_row
        simp (disch := omega) only [zlet_e, zlit, m_badWork_p hT hM0 e00 hd (Or.inl hz), bnd0_ok, if_true, if_false, ite_true, ite_false, Bool.false_eq_true, Bool.true_eq_false, reduceIte, z10, z01, Nat.one_ne_zero, Nat.zero_ne_one]
  · refine zPm_q h' (μX' := μX) (μM' := zset (zset μM 0 0 (zi 0)) 0 0 (zi 1)) (e := 3) (v := zi 0) (w := zi 0) ?_ ?_ zset_00 (fun h => absurd h (by decide)) (Or.inr (by decide)) zfr.refl zmq_00
    · unfold f8_row
      simp only [x_needD_no hX hy, bnd_ex (e := 2)]
    · unfold f9_row
      simp (disch := omega) only [zlet_e, zlit, m_badWork_d hT hM0 e00 hy, bnd0_ok, if_true, if_false, ite_true, ite_false, Bool.false_eq_true, Bool.true_eq_false, reduceIte, z10, z01, Nat.one_ne_zero, Nat.zero_ne_one]
