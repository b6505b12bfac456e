/-! THE PURE SIDE, 12: calls, on -/
theorem wl_dawn {T W : zN2} {day : Nat} (hL : WL T W) : WL T (tD T W day) := by
  refine ⟨rfl, hL.2.1, hL.2.2.1, fun p hp => ?_⟩
  rw [tD_at, if_neg (by omega), if_neg (by omega), if_neg (by omega)]; exact hL.2.2.2 p hp
theorem P_next {μX μM : zMem} (h : zInv μX μM) : zPm cS (f8_next μX) (f9_next μM) := by
  have h' := h
  obtain ⟨T, W, r, R, n, m, WI, rI, RI, ⟨hT, hW, hL, hX, hM, hS, hS', h30, hB, hR, hR'⟩, ht, hf, hi⟩ := h
  have hQ := hT.1
  have hN := hW.1
  have hM0 := MT_0 (v := zi 0) hT hM
  have hS0 := MS_0 (v := zi 0) hT hW hS'
  have e00 : zset μM 0 0 (zi 0) 0 0 = zi 0 := zset_00
  by_cases h0 : T 2 0 = 0
  · refine zPm_q h' (μX' := μX) (μM' := zset (zset μM 0 0 (zi 0)) 0 0 (zi 1)) (e := 4) (v := zi 0) (w := zi 0) ?_ ?_ zset_00 (fun h => absurd h (by decide)) (Or.inr (by decide)) zfr.refl zmq_00
    · unfold f8_next; simp only [hX.1.1, h0, zlit, if_true]
    · unfold f9_next; simp (disch := omega) only [zlet_e, zlit, zin_i, zi_cl, zset_nk, hM.1.1, h0, if_true, m_bad1 e00, bnd0_ok, if_true, if_false, ite_true, ite_false, Bool.false_eq_true, Bool.true_eq_false, reduceIte, z10, z01, Nat.one_ne_zero, Nat.zero_ne_one]
  · by_cases h29 : W 0 0 = 29
    · refine zPm_q h' (μX' := μX) (μM' := zset μM 0 0 (zi 0)) (e := 0) (v := zN1) (w := zN1) ?_ ?_ zset_00 (fun _ => rfl) (Or.inl rfl) zfr.refl zmq_0
      · unfold f8_next; simp (disch := omega) only [hX.1.1, ↓zneg1, zlit, zi_eq, h0, if_false, hS.1.1, h29, zi_lt, Nat.lt_irrefl]
      · unfold f9_next; simp (disch := omega) only [zlet_e, ↓zneg1, zlit, zin_i, zi_cl, zset_nk, zset_nj, hM.1.1, zi_eq, h0, if_false, m_bad0 e00, bnd0_ok, if_true, if_false, ite_true, ite_false, Bool.false_eq_true, Bool.true_eq_false, reduceIte, z10, z01, Nat.one_ne_zero, Nat.zero_ne_one, hS'.1.1, h29]
    · obtain ⟨μX', a1, a2, a3, a4⟩ := x_beginDay (k := 23) (day := W 0 0 + 1) (by decide) hT hW hX hS (by omega)
      have hM1 : MT T (zset (zset μM 0 0 (zi 0)) 0 20 (zi (W 0 0 + 1))) := MT_at (fun j _ => by rw [zset_nk (by decide), zset_nk (by decide)]) (by rw [zset_nk (by decide), zset_nk (by decide)]) (by rw [zset_nk (by decide), zset_nk (by decide)]) (fun p _ => by rw [zset_nk (by omega), zset_nk (by omega)]) (fun d _ => by rw [zset_nk (by omega), zset_nk (by omega)]) hT hM
      refine ⟨0, zi (W 0 0 + 1), μX', zi (W 0 0 + 1), zfil (zset (zset μM 0 0 (zi 0)) 0 20 (zi (W 0 0 + 1))) 91 9 (zi (T 2 4)), ?_, ?_, ?_, fun _ => rfl, Or.inl rfl, ?_⟩
      · unfold f8_next; simp (disch := omega) only [hX.1.1, zlit, zi_eq, h0, if_false, hS.1.1, zi_lt, show W 0 0 < 29 by omega, if_true, zi_add, a1, bnd0_ok, a2.1.1]; rfl
      · unfold f9_next; simp (disch := omega) only [zlet_e, zlit, zin_i, zi_cl, zset_nk, zset_nj, zset_eq, hM.1.1, zi_eq, h0, if_false, m_bad0 e00, bnd0_ok, if_true, if_false, ite_true, ite_false, Bool.false_eq_true, Bool.true_eq_false, reduceIte, z10, z01, Nat.one_ne_zero, Nat.zero_ne_one, hS'.1.1, h29, zi_add, m_dawns hT hM1, zfil_nk]
      · simp (disch := omega) only [zfil_nk, zset_nj, zset_eq]; rfl
      · refine zInv_mk (T := T) (W' := tD T W (W 0 0 + 1)) (r' := r) (R' := R) ⟨hT, wb_dawn hT hW (by omega), wl_dawn hL, XT_of (fun key hk => a3 key (by omega)) hX, ?_, a2, ?_, ?_, hB, XR_of a4 (a3 _ (by omega)) hR, ?_⟩ ht hf hi (fun k hk => a3 k (by omega)) ?_ ?_ ?_
        · exact MT_at (fun j _ => by simp (disch := omega) only [zfil_nk]) (by simp (disch := omega) only [zfil_nk]) (by simp (disch := omega) only [zfil_nk]) (fun p hp => by simp (disch := omega) only [zfil_nk]) (fun d _ => by simp (disch := omega) only [zfil_nk]) hT hM1
        · refine ms_dawn hT hW hS' h30 ?_ ?_ ?_ ?_ ?_ ?_ ?_
          · simp (disch := omega) only [zfil_nk, zset_eq]
          · simp (disch := omega) only [zfil_nk, zset_nj, h30]
          · simp (disch := omega) only [zfil_nk, zset_nk]
          · intro p hp; rw [zfil_at, if_pos ⟨rfl, hp⟩]
          · simp (disch := omega) only [zfil_nk, zset_nk]
          · intro p hp; simp (disch := omega) only [zfil_nk, zset_nk]
          · intro p hp; simp (disch := omega) only [zfil_nk, zset_nk]
        · simp (disch := omega) only [zfil_nk, zset_nj, h30]
        · exact MR_of (by simp (disch := omega) only [zfil_nk, zset_nj]) (fun i hi => by simp (disch := omega) only [zfil_nk, zset_nk]) hB.1 hR'
        · simp (disch := omega) only [zfil_nk, zset_nj]; exact ⟨trivial, trivial, trivial⟩
        · simp (disch := omega) only [zfil_nk, zset_nk]
        · intro i hi; simp (disch := omega) only [zfil_nk, zset_nk]
theorem wl_put {T W : zN2} {p q v : Nat} (hL : WL T W) : WL T (nup W (4 + p) q v) := by
  unfold WL at *
  rw [nup_nk (by omega), nup_nk (by omega), nup_nk (by omega), nup_nk (by omega)]
  refine ⟨hL.1, hL.2.1, hL.2.2.1, fun p hp => ?_⟩
  rw [nup_nk (by omega)]; exact hL.2.2.2 p hp
theorem P_talk {x y z : Int32} {μX μM : zMem} (h : zInv μX μM) : zPm cNI (f8_talk x y z μX) (f9_talk x y z μM) := by
  have h' := h
  obtain ⟨T, W, r, R, n, m, WI, rI, RI, ⟨hT, hW, hL, hX, hM, hS, hS', h30, hB, hR, hR'⟩, ht, hf, hi⟩ := h
  have hP := hT.2.1
  have hQ := hT.1
  have hM0 := MT_0 (v := zi 0) hT hM
  have hS0 := MS_0 (v := zi 0) hT hW hS'
  have e00 : zset μM 0 0 (zi 0) 0 0 = zi 0 := zset_00
  rcases zcase x (T 2 1) (by omega) with ⟨a, ha, rfl⟩ | hx
  · rcases zcase y (T 2 1) (by omega) with ⟨b, hb, rfl⟩ | hy
    · have haW : a < W 0 3 := by rw [hL.2.2.1]; exact ha
      have hbW : b < W 0 3 := by rw [hL.2.2.1]; exact hb
      rcases zcase z (T 2 0) (by omega) with ⟨q, hq, rfl⟩ | hz
      · by_cases hab : a = b
        · refine zPm_q h' (μX' := μX) (μM' := zset (zset μM 0 0 (zi 0)) 0 0 (zi 2)) (e := 1) (v := zi 0) (w := zi 0) ?_ ?_ zset_00 (fun h => absurd h (by decide)) (Or.inr (by decide)) zfr.refl zmq_00
          · unfold f8_talk
            simp (disch := omega) only [x_needP_ok hT hX ha, x_needP_ok hT hX hb, x_needQ_ok hT hX hq, bnd_ok, zi_eq, hab, if_true, zlit]
          · unfold f9_talk
            simp (disch := omega) only [zlet_e, zlit, m_isP_ok hT hM0 ha, m_isP_ok hT hM0 hb, m_isQ_ok hT hM0 hq, bnd0_ok, m_bad0 e00, m_bad1 e00, if_true, if_false, ite_true, ite_false, Bool.false_eq_true, Bool.true_eq_false, reduceIte, z10, z01, Nat.one_ne_zero, Nat.zero_ne_one, zi_eq, hab]
        · refine ⟨0, zi (tTv (W (4 + a) q) (W (4 + b) q)), zset μX (23 + 1) (a * 4 + q) (zi (tTv (W (4 + a) q) (W (4 + b) q))), zi (tTv (W (4 + a) q) (W (4 + b) q)), zset (zset μM 0 0 (zi 0)) (51 + a) q (zi (tTv (W (4 + a) q) (W (4 + b) q))), ?_, ?_, ?_, fun _ => rfl, Or.inl rfl, ?_⟩
          · have hS1 := xs_put (v := tTv (W (4 + a) q) (W (4 + b) q)) (p := a) hT hS hq
            have hW1 : WB T (nup W (4 + a) q (tTv (W (4 + a) q) (W (4 + b) q))) := wb_talk (b := b) hW
            have t := x_thought hT hW1 hS1 (show a < nup W (4 + a) q (tTv (W (4 + a) q) (W (4 + b) q)) 0 3 by rw [nup_nk (by omega)]; exact haW) hq
            rw [nup_eq] at t
            unfold f8_talk
            simp (disch := omega) only [x_needP_ok hT hX ha, x_needP_ok hT hX hb, x_needQ_ok hT hX hq, bnd_ok, zi_eq, hab, if_false, x_step hT hW hS haW hbW hq, bnd0_ok, t]
          · unfold f9_talk
            simp (disch := omega) only [zlet_e, zlit, m_isP_ok hT hM0 ha, m_isP_ok hT hM0 hb, m_isQ_ok hT hM0 hq, bnd0_ok, m_bad0 e00, if_true, if_false, ite_true, ite_false, Bool.false_eq_true, Bool.true_eq_false, reduceIte, z10, z01, Nat.one_ne_zero, Nat.zero_ne_one, zi_eq, hab, m_talks hT hW hS0 haW hbW hq, zin_i, zi_cl, zset_eq]
          · rw [zset_nk (by omega)]; exact zset_00
          · refine zInv_mk (T := T) (W' := nup W (4 + a) q (tTv (W (4 + a) q) (W (4 + b) q))) (r' := r) (R' := R) ⟨hT, wb_talk (b := b) hW, wl_put hL, XT_of (fun key hk => zset_nk (by omega)) hX, ?_, xs_put hT hS hq, ms_put hT hW hS0 (by omega) hq, ?_, hB, XR_of (by rw [zset_nk (by decide)]) (zset_nk (by omega)) hR, ?_⟩ ht hf hi (fun k hk => zset_nk (by omega)) ?_ ?_ ?_
            · exact MT_at (fun j _ => by rw [zset_nk (by omega)]) (by rw [zset_nk (by omega)]) (by rw [zset_nk (by omega)]) (fun p _ => by rw [zset_nk (by omega)]) (fun d _ => by rw [zset_nk (by omega)]) hT hM0
            · rw [zset_nk (by omega), zset_nj (by decide)]; exact h30
            · exact MR_of (by rw [zset_nk (by omega), zset_nj (by decide)]) (fun i hi => by rw [zset_nk (by omega), zset_nk (by omega)]) hB.1 hR'
            · rw [zset_nk (by omega), zset_nj (by decide), zset_nj (by decide), zset_nj (by decide)]; exact ⟨rfl, rfl, rfl⟩
            · rw [zset_nk (by omega), zset_nk (by decide)]
            · intro i hi; rw [zset_nk (by omega), zset_nk (by omega)]
      · refine zPm_q h' (μX' := μX) (μM' := zset (zset μM 0 0 (zi 0)) 0 0 (zi 2)) (e := 1) (v := zi 0) (w := zi 0) ?_ ?_ zset_00 (fun h => absurd h (by decide)) (Or.inr (by decide)) zfr.refl zmq_00
        · unfold f8_talk
          simp (disch := omega) only [x_needP_ok hT hX ha, x_needP_ok hT hX hb, x_needQ_no hX hz, bnd_ok, bnd_ex (e := 0)]
        · unfold f9_talk
          simp (disch := omega) only [zlet_e, zlit, m_isP_ok hT hM0 ha, m_isP_ok hT hM0 hb, m_isQ_no hT hM0 hz, bnd0_ok, m_bad0 e00, m_bad1 e00, if_true, if_false, ite_true, ite_false, Bool.false_eq_true, Bool.true_eq_false, reduceIte, z10, z01, Nat.one_ne_zero, Nat.zero_ne_one]
    · refine zPm_q h' (μX' := μX) (μM' := zset (zset μM 0 0 (zi 0)) 0 0 (zi 1)) (e := 2) (v := zi 0) (w := zi 0) ?_ ?_ zset_00 (fun h => absurd h (by decide)) (Or.inr (by decide)) zfr.refl zmq_00
      · unfold f8_talk
        simp only [x_needP_ok hT hX ha, x_needP_no hX hy, bnd_ok, bnd_ex (e := 1)]
      · unfold f9_talk
        simp (disch := omega) only [zlet_e, zlit, m_isP_ok hT hM0 ha, m_isP_no hT hM0 hy, bnd0_ok, m_bad1 e00, if_true, if_false, ite_true, ite_false, Bool.false_eq_true, Bool.true_eq_false, reduceIte, z10, z01, Nat.one_ne_zero, Nat.zero_ne_one]
  · refine zPm_q h' (μX' := μX) (μM' := zset (zset μM 0 0 (zi 0)) 0 0 (zi 1)) (e := 2) (v := zi 0) (w := zi 0) ?_ ?_ zset_00 (fun h => absurd h (by decide)) (Or.inr (by decide)) zfr.refl zmq_00
    · unfold f8_talk
      simp only [x_needP_no hX hx, bnd_ex (e := 1)]
    · unfold f9_talk
      simp (disch := omega) only [zlet_e, zlit, m_isP_no hT hM0 hx, bnd0_ok, m_bad1 e00, if_true, if_false, ite_true, ite_false, Bool.false_eq_true, Bool.true_eq_false, reduceIte, z10, z01, Nat.one_ne_zero, Nat.zero_ne_one]
theorem P_clear {μX μM : zMem} (h : zInv μX μM) : zPm c0 (f8_clear μX) (f9_clear μM) := by
  obtain ⟨T, W, r, R, n, m, WI, rI, RI, ⟨hT, hW, hL, hX, hM, hS, hS', h30, hB, hR, hR'⟩, ht, hf, hi⟩ := h
  refine ⟨0, zi r, zset μX 23 9 (zi 0), zi r, zset (zset μM 0 0 (zi 0)) 0 21 (zi 0), ?_, ?_, ?_, fun _ => rfl, Or.inl rfl, ?_⟩
  · unfold f8_clear; simp only [zlet_e, zlit, hR.1]
  · unfold f9_clear; simp (disch := omega) only [zlet_e, zlit, zset_nj, hR'.1]
  · rw [zset_nj (by decide)]; exact zset_00
  · have hM0 := MT_0 (v := zi 0) hT hM
    have hS0 := MS_0 (v := zi 0) hT hW hS'
    refine zInv_mk (T := T) (W' := W) (r' := 0) (R' := R) (μX := μX) (μM := μM) (n := n) (m := m) (WI := WI) (rI := rI) (RI := RI) ⟨hT, hW, hL, XT_of (fun key hk => zset_nk (by omega)) hX, ?_, ?_, ?_, ?_, ⟨Nat.zero_le _, fun i hi => absurd hi (by omega)⟩, ⟨zset_eq, fun i hi => absurd hi (by omega)⟩, ⟨zset_eq, fun i hi => absurd hi (by omega)⟩⟩ ht hf hi (fun k hk => zset_nk (by omega)) ?_ ?_ ?_
    · exact MT_at (fun j _ => by rw [zset_nk (by omega)]) (by rw [zset_nk (by omega)]) (by rw [zset_nk (by omega)]) (fun p _ => by rw [zset_nk (by omega)]) (fun d _ => by rw [zset_nk (by omega)]) hT hM0
    · obtain ⟨⟨s1, s2, s3, s4, s5⟩, s6⟩ := hS
      refine ⟨⟨?_, ?_, ?_, ?_, ?_⟩, fun p hp => ?_⟩
      · rw [zset_nj (by decide)]; exact s1
      · rw [zset_nj (by decide)]; exact s2
      · rw [zset_nj (by decide)]; exact s3
      · rw [zset_nj (by decide)]; exact s4
      · rw [zset_nj (by decide)]; exact s5
      · rw [zset_nk (by decide), zset_nk (by decide), zset_nk (by decide)]; exact s6 p hp
    · exact MS_at (zset_nj (by decide)) (zset_nj (by decide)) (by rw [zset_nk (by decide)]) (zset_nk (by decide)) (zset_nk (by decide)) (fun p hp => zset_nk (by omega)) (fun p hp => by rw [zset_nk (by omega)]) hT hW hS0
    · rw [zset_nj (by decide), zset_nj (by decide)]; exact h30
    · rw [zset_nj (by decide), zset_nj (by decide), zset_nj (by decide), zset_nj (by decide), zset_nj (by decide), zset_nj (by decide)]; exact ⟨rfl, rfl, rfl⟩
    · rw [zset_nk (by decide), zset_nk (by decide)]
    · intro i hi; rw [zset_nk (by omega), zset_nk (by omega)]
