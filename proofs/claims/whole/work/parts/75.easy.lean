/-! THE PURE SIDE, 15: images -/
theorem x_copyRows {k k2 : Nat} {μ : zMem} : f5_copyRows k k2 μ = some (0, zi 0, zcpy (zset μ k 9 (μ k2 9)) (k2 + 4) (k + 4) 30) := by
  unfold f5_copyRows; simp only [zlet_e, zlit]
theorem XT_of2 {T : zN2} {μ μ' : zMem} (h : ∀ key, 2 ≤ key → key < 12 → μ' key = μ key) (hX : XT T μ) : XT T μ' := by
  unfold XT at *
  rw [h 2 (by decide) (by decide), h 3 (by decide) (by decide), h 5 (by decide) (by decide), h 6 (by decide) (by decide), h 7 (by decide) (by decide), h 8 (by decide) (by decide), h 9 (by decide) (by decide), h 10 (by decide) (by decide), h 11 (by decide) (by decide)]
  exact hX
theorem XS_at {T W : zN2} {k : Nat} {μ μ' : zMem} (h : ∀ j, j ≠ 9 → μ' k j = μ k j) (h' : ∀ key, k < key → key < k + 4 → μ' key = μ key) (hS : XS T W k μ) : XS T W k μ' := by
  unfold XS at *
  rw [h 1 (by decide), h 2 (by decide), h 3 (by decide), h 4 (by decide), h 5 (by decide), h' (k + 1) (by omega) (by omega), h' (k + 2) (by omega) (by omega), h' (k + 3) (by omega) (by omega)]
  exact hS
/-- an image out of the live scene -/
theorem KI_of {T W : zN2} {r kt : Nat} {R : Nat → Nat} {μ μ' : zMem} (hT : TB T) (hW : WB T W) (hr : r ≤ 30) (hS : MS T W μ) (hR : MR r R μ) (hv : ∀ key j, kidx key j < 177 → μ' kt (kidx key j) = μ key j) : KI T W r R kt μ' := by
  obtain ⟨k1, k2, k3, k4, k5, k6⟩ := kidx_lt
  have hP := hW.2.2.2.1
  have hQ := hT.1
  refine ⟨?_, ?_, fun p hp => ⟨?_, fun q hq => ?_⟩, fun d hd => ?_, fun i hi => ⟨?_, ?_, ?_, ?_⟩⟩
  · have := hv 0 20 (by rw [k1]; decide); rw [k1] at this; rw [this]; exact hS.1.1
  · have := hv 0 21 (by rw [k2]; decide); rw [k2] at this; rw [this]; exact hR.1
  · have := hv 91 p (by rw [k4 p (by omega)]; omega); rw [k4 p (by omega)] at this; rw [this]; exact (hS.2.1 p hp).1
  · have := hv (51 + p) q (by rw [k3 p q (by omega) (by omega)]; omega); rw [k3 p q (by omega) (by omega)] at this; rw [this]; exact (hS.2.1 p hp).2 q hq
  · have := hv 92 d (by rw [k5 d (by omega)]; omega); rw [k5 d (by omega)] at this; rw [this]; exact hS.2.2.2 d hd
  · have := hv (61 + i) 0 (by rw [k6 i 0 (by omega) (by omega)]; omega); rw [k6 i 0 (by omega) (by omega)] at this; rw [this]; exact (hR.2 i hi).1
  · have := hv (61 + i) 1 (by rw [k6 i 1 (by omega) (by omega)]; omega); rw [k6 i 1 (by omega) (by omega)] at this; rw [this]; exact (hR.2 i hi).2.1
  · have := hv (61 + i) 2 (by rw [k6 i 2 (by omega) (by omega)]; omega); rw [k6 i 2 (by omega) (by omega)] at this; rw [this]; exact (hR.2 i hi).2.2.1
  · have := hv (61 + i) 3 (by rw [k6 i 3 (by omega) (by omega)]; omega); rw [k6 i 3 (by omega) (by omega)] at this; rw [this]; exact (hR.2 i hi).2.2.2
theorem P_image {μX μM : zMem} (h : zInv μX μM) : zPm c0 (f8_image μX) (f9_image μM) := by
  have h' := h
  obtain ⟨T, W, r, R, n, m, WI, rI, RI, ⟨hT, hW, hL, hX, hM, hS, hS', h30, hB, hR, hR'⟩, ht, hf, hi⟩ := h
  obtain ⟨k1, k2, k3, k4, k5, k6⟩ := kidx_lt
  obtain ⟨i1, i2, i3, i4⟩ := hi
  have hP := hW.2.2.2.1
  have hPP := hT.2.1
  have hQ := hT.1
  have hr := hB.1
  by_cases h3 : m = 3
  · refine zPm_q h' (μX' := μX) (μM' := zset μM 0 0 (zi 0)) (e := 0) (v := zN1) (w := zN1) ?_ ?_ zset_00 (fun _ => rfl) (Or.inl rfl) zfr.refl zmq_0
    · unfold f8_image; simp (disch := omega) only [↓zneg1, zlit, i2, h3, zi_lt, Nat.lt_irrefl, if_false]
    · unfold f9_image; simp (disch := omega) only [zlet_e, ↓zneg1, zlit, zset_nj, i3, h3, if_true]
  · obtain ⟨μ1, a1, a2, a3, a4⟩ := x_copyWorld (T := T) (W := W) (k := 34 + 5 * m) (k2 := 23) (μ := μX) (by omega) hT hW hS
    obtain ⟨μ2, b1, b2, b3, b4⟩ := m_save (kt := 94 + m) (μ := zset μM 0 0 (zi 0)) (by omega)
    have hv : ∀ key j, kidx key j < 177 → μ2 (94 + m) (kidx key j) = μM key j := by
      intro key j hk
      rw [b2 key j hk]
      rw [zset_at, if_neg]
      intro e
      rw [e.1, e.2] at hk
      exact absurd hk (by decide)
    have q1 : μ1 0 = μX 0 := a3 0 (by omega)
    have hx : ∀ k, ¬ (34 + 5 * m ≤ k ∧ k < 34 + 5 * m + 5) → k ≠ 0 → zset (zcpy (zset μ1 (34 + 5 * m) 9 (μ1 23 9)) (23 + 4) (34 + 5 * m + 4) 30) 0 9 (zi (m + 1)) k = μX k := by
      intro k hk hk0
      rw [zset_nk hk0, zcpy_nk (by omega), zset_nk (by omega)]
      exact a3 k (by omega)
    have hx0 : ∀ j, j ≠ 9 → zset (zcpy (zset μ1 (34 + 5 * m) 9 (μ1 23 9)) (23 + 4) (34 + 5 * m + 4) 30) 0 9 (zi (m + 1)) 0 j = μX 0 j := by
      intro j hj
      rw [zset_nj hj, zcpy_nk (by omega), zset_nk (by omega), q1]
    have hm : ∀ k, k ≠ 0 → k ≠ 94 + m → zset μ2 0 22 (zi (m + 1)) k = μM k := by
      intro k hk hk'
      rw [zset_nk hk, b3 k hk hk', zset_nk hk]
    have hm0 : ∀ j, j ≠ 29 → j ≠ 22 → j ≠ 0 → zset μ2 0 22 (zi (m + 1)) 0 j = μM 0 j := by
      intro j h1 h2 h3
      rw [zset_nj h2, b4 j h1, zset_nj h3]
    have e22 : μ2 0 22 = zi m := by rw [b4 22 (by decide), zset_nj (by decide)]; exact i3
    refine ⟨0, zi (m + 1), zset (zcpy (zset μ1 (34 + 5 * m) 9 (μ1 23 9)) (23 + 4) (34 + 5 * m + 4) 30) 0 9 (zi (m + 1)), zi (m + 1), zset μ2 0 22 (zi (m + 1)), ?_, ?_, ?_, fun _ => rfl, Or.inl rfl, ?_⟩
    · unfold f8_image
      simp (disch := omega) only [zlet_e, zlit, i2, zi_lt, show m < 3 by omega, if_true, zin_i, zi_cl, a1, bnd0_ok, q1, x_copyRows, zcpy_nk, zset_nk, zi_add, zset_eq]
    · unfold f9_image
      simp (disch := omega) only [zlet_e, zlit, zset_nj, i3, zi_eq, h3, if_false, zin_i, zi_cl, b1, bnd0_ok, e22, zi_add, zset_eq]
    · rw [zset_nj (by decide), b4 0 (by decide)]; exact zset_00
    · refine ⟨T, W, r, R, n, m + 1, fun i => if i = m then W else WI i, fun i => if i = m then r else rI i, fun i => if i = m then R else RI i, ⟨hT, hW, hL, XT_of2 (fun key h1 h2 => hx key (by omega) (by omega)) hX, ?_, XS_of (fun key h1 h2 => hx key (by omega) (by omega)) hS, ?_, ?_, hB, XR_of (by rw [hx 23 (by omega) (by omega)]) (hx _ (by omega) (by omega)) hR, MR_of (hm0 21 (by decide) (by decide) (by decide)) (fun i hi => hm _ (by omega) (by omega)) hB.1 hR'⟩, ⟨ht.1, ?_, ?_, ?_⟩, ?_, by omega, zset_eq, zset_eq, fun i hi => ?_⟩
      · exact MT_at (fun j _ => by rw [hm 4 (by omega) (by omega)]) (hm 47 (by omega) (by omega)) (hm 49 (by omega) (by omega)) (fun p hp => by rw [hm (15 + p) (by omega) (by omega)]) (fun d hd => hm (36 + d) (by omega) (by omega)) hT hM
      · exact MS_at (hm0 20 (by decide) (by decide) (by decide)) (hm0 30 (by decide) (by decide) (by decide)) (by rw [hm 4 (by omega) (by omega)]) (hm 91 (by omega) (by omega)) (hm 92 (by omega) (by omega)) (fun p hp => hm _ (by omega) (by omega)) (fun p hp => by rw [hm (15 + p) (by omega) (by omega)]) hT hW hS'
      · rw [hm0 30 (by decide) (by decide) (by decide)]; exact h30
      · rw [hx0 1 (by decide)]; exact ht.2.1
      · rw [hm0 1 (by decide) (by decide) (by decide)]; exact ht.2.2.1
      · rw [hx 1 (by omega) (by omega), hm 1 (by omega) (by omega)]; exact ht.2.2.2
      · rw [hx0 2 (by decide), hm0 3 (by decide) (by decide) (by decide)]; exact hf
      · by_cases e : i = m
        · simp only [e, if_true]
          refine ⟨hW, hL, hB, ?_, ?_, ?_⟩
          · exact XS_at (fun j hj => by rw [zset_nk (by omega), zcpy_nk (by omega), zset_nj hj]) (fun key h1 h2 => by rw [zset_nk (by omega), zcpy_nk (by omega), zset_nk (by omega)]) a2
          · refine ⟨?_, fun i hi => ?_⟩
            · rw [zset_nk (by omega), zcpy_nk (by omega), zset_eq, a3 23 (by omega)]; exact hR.1
            · rw [zset_nk (by omega), zcpy_at, if_pos ⟨rfl, by omega⟩, zset_nk (by omega), a3 _ (by omega)]; exact hR.2 i hi
          · exact KI_of hT hW hr hS' hR' (fun key j hk => by rw [zset_nk (by omega)]; exact hv key j hk)
        · simp only [e, if_false]
          obtain ⟨j1, j2, j3, j4, j5, j6⟩ := i4 i (by omega)
          refine ⟨j1, j2, j3, XS_of (fun key h1 h2 => hx key (by omega) (by omega)) j4, XR_of (by rw [hx (34 + 5 * i) (by omega) (by omega)]) (hx _ (by omega) (by omega)) j5, ?_⟩
          unfold KI; rw [hm (94 + i) (by omega) (by omega)]; exact j6
theorem P_restore {μX μM : zMem} (h : zInv μX μM) : zPm c0 (f8_restore μX) (f9_restore μM) := by
  have h' := h
  obtain ⟨T, W, r, R, n, m, WI, rI, RI, ⟨hT, hW, hL, hX, hM, hS, hS', h30, hB, hR, hR'⟩, ht, hf, hi⟩ := h
  obtain ⟨k1, k2, k3, k4, k5, k6⟩ := kidx_lt
  obtain ⟨i1, i2, i3, i4⟩ := hi
  have hPP := hT.2.1
  have hQ := hT.1
  by_cases h3 : m = 0
  · refine zPm_q h' (μX' := μX) (μM' := zset μM 0 0 (zi 0)) (e := 0) (v := zN1) (w := zN1) ?_ ?_ zset_00 (fun _ => rfl) (Or.inl rfl) zfr.refl zmq_0
    · unfold f8_restore; simp (disch := omega) only [↓zneg1, zlit, i2, h3, zi_lt, Nat.lt_irrefl, if_false]
    · unfold f9_restore; simp (disch := omega) only [zlet_e, ↓zneg1, zlit, zset_nj, i3, h3, if_true]
  · obtain ⟨i, rfl⟩ : ∃ i, m = i + 1 := ⟨m - 1, by omega⟩
    obtain ⟨j1, j2, j3, j4, j5, j6⟩ := i4 i (by omega)
    have hP := j1.2.2.2.1
    have hr := j3.1
    obtain ⟨μ1, a1, a2, a3, a4⟩ := x_copyWorld (T := T) (W := WI i) (k := 23) (k2 := 34 + 5 * i) (μ := zset μX 0 9 (zi i)) (by omega) hT j1 (XS_of (fun key h1 h2 => zset_nk (by omega)) j4)
    obtain ⟨μ2, b1, b2, b3⟩ := m_back (kt := 94 + i) (μ := zset (zset μM 0 0 (zi 0)) 0 22 (zi i)) (by omega)
    have q1 : μ1 0 = zset μX 0 9 (zi i) 0 := a3 0 (by omega)
    have hx : ∀ k, ¬ (23 ≤ k ∧ k < 28) → k ≠ 0 → zcpy (zset μ1 23 9 (μ1 (34 + 5 * i) 9)) (34 + 5 * i + 4) (23 + 4) 30 k = μX k := by
      intro k hk hk0
      rw [zcpy_nk (by omega), zset_nk (by omega), a3 k (by omega), zset_nk hk0]
    have hx0 : ∀ j, zcpy (zset μ1 23 9 (μ1 (34 + 5 * i) 9)) (34 + 5 * i + 4) (23 + 4) 30 0 j = zset μX 0 9 (zi i) 0 j := by
      intro j
      rw [zcpy_nk (by omega), zset_nk (by omega), q1]
    have hb : ∀ key j, kidx key j < 177 → μ2 key j = μM (94 + i) (kidx key j) := by
      intro key j hk
      rw [b2 key j hk, zset_nk (by omega), zset_nk (by omega)]
    have hbk : ∀ k, k ≠ 0 → (∀ j, 177 ≤ kidx k j) → μ2 k = μM k := by
      intro k hk hj
      funext j
      rw [b3 k j (hj j) (by omega), zset_nk hk, zset_nk hk]
    have hb0 : ∀ j, j ≠ 20 → j ≠ 21 → j ≠ 29 → μ2 0 j = zset (zset μM 0 0 (zi 0)) 0 22 (zi i) 0 j := by
      intro j h1 h2 h3
      rw [b3 0 j (by rw [kidx_0 h1 h2]; decide) (by omega)]
    have ko : ∀ k, (k = 1 ∨ k = 4 ∨ (15 ≤ k ∧ k < 24) ∨ (36 ≤ k ∧ k < 46) ∨ k = 47 ∨ k = 49 ∨ (94 ≤ k ∧ k < 97)) → ∀ j, 177 ≤ kidx k j := by
      intro k hk j
      unfold kidx; rw [if_neg (by omega), if_neg (by omega), if_neg (by omega), if_neg (by omega), if_neg (by omega), if_neg (by omega)]; decide
    refine ⟨0, zi i, zcpy (zset μ1 23 9 (μ1 (34 + 5 * i) 9)) (34 + 5 * i + 4) (23 + 4) 30, zi i, μ2, ?_, ?_, ?_, fun _ => rfl, Or.inl rfl, ?_⟩
    · unfold f8_restore
      simp (disch := omega) only [zlet_e, zlit, i2, zi_lt, show 0 < i + 1 by omega, if_true, zi_sub, Nat.add_sub_cancel, zset_eq, zin_i, zi_cl, a1, bnd0_ok, q1, x_copyRows, zcpy_nk, zset_nk]
    · unfold f9_restore
      simp (disch := omega) only [zlet_e, zlit, zset_nj, i3, zi_eq, h3, if_false, zi_sub, Nat.add_sub_cancel, zset_eq, zin_i, zi_cl, b1, bnd0_ok, hb0 22 (by decide) (by decide) (by decide)]
    · rw [hb0 0 (by decide) (by decide) (by decide), zset_nj (by decide)]; exact zset_00
    · have hm30 : μ2 0 30 = zN1 := by rw [hb0 30 (by decide) (by decide) (by decide), zset_nj (by decide), zset_nj (by decide)]; exact h30
      refine ⟨T, WI i, rI i, RI i, n, i, WI, rI, RI, ⟨hT, j1, j2, XT_of2 (fun key h1 h2 => hx key (by omega) (by omega)) hX, ?_, ?_, ?_, hm30, j3, ?_, ?_⟩, ⟨ht.1, ?_, ?_, ?_⟩, ?_, by omega, ?_, ?_, fun i' hi' => ?_⟩
      · exact MT_at (fun j _ => by rw [hbk 4 (by omega) (ko 4 (by omega))]) (hbk 47 (by omega) (ko 47 (by omega))) (hbk 49 (by omega) (ko 49 (by omega))) (fun p hp => by rw [hbk (15 + p) (by omega) (ko _ (by omega))]) (fun d hd => hbk (36 + d) (by omega) (ko _ (by omega))) hT hM
      · exact XS_at (fun j hj => by rw [zcpy_nk (by omega), zset_nj hj]) (fun key h1 h2 => by rw [zcpy_nk (by omega), zset_nk (by omega)]) a2
      · refine ⟨⟨?_, Or.inl ⟨hm30, j2.1⟩, ?_⟩, fun p hp => ⟨?_, fun q hq => ?_⟩, fun p hp => ?_, fun d hd => ?_⟩
        · rw [hb 0 20 (by rw [k1]; decide), k1]; exact j6.1
        · rw [hbk 4 (by omega) (ko 4 (by omega)), j2.2.1, ← hL.2.1]; exact hS'.1.2.2
        · rw [hb 91 p (by rw [k4 p (by omega)]; omega), k4 p (by omega)]; exact (j6.2.2.1 p hp).1
        · rw [hb (51 + p) q (by rw [k3 p q (by omega) (by omega)]; omega), k3 p q (by omega) (by omega)]; exact (j6.2.2.1 p hp).2 q hq
        · rw [hbk (15 + p) (by omega) (ko _ (by omega)), j2.2.2.2 p hp, ← hL.2.2.2 p hp]; exact hS'.2.2.1 p hp
        · rw [hb 92 d (by rw [k5 d (by omega)]; omega), k5 d (by omega)]; exact j6.2.2.2.1 d hd
      · refine ⟨?_, fun i' hi' => ?_⟩
        · rw [zcpy_nk (by omega), zset_eq, a3 (34 + 5 * i) (by omega), zset_nk (by omega)]; exact j5.1
        · rw [zcpy_at, if_pos ⟨rfl, by omega⟩, zset_nk (by omega), a3 _ (by omega), zset_nk (by omega)]; exact j5.2 i' hi'
      · refine ⟨?_, fun i' hi' => ?_⟩
        · rw [hb 0 21 (by rw [k2]; decide), k2]; exact j6.2.1
        · rw [hb (61 + i') 0 (by rw [k6 i' 0 (by omega) (by omega)]; omega), hb (61 + i') 1 (by rw [k6 i' 1 (by omega) (by omega)]; omega), hb (61 + i') 2 (by rw [k6 i' 2 (by omega) (by omega)]; omega), hb (61 + i') 3 (by rw [k6 i' 3 (by omega) (by omega)]; omega), k6 i' 0 (by omega) (by omega), k6 i' 1 (by omega) (by omega), k6 i' 2 (by omega) (by omega), k6 i' 3 (by omega) (by omega)]
          exact j6.2.2.2.2 i' hi'
      · rw [hx0, zset_nj (by decide)]; exact ht.2.1
      · rw [hb0 1 (by decide) (by decide) (by decide), zset_nj (by decide), zset_nj (by decide)]; exact ht.2.2.1
      · rw [hx 1 (by omega) (by omega), hbk 1 (by omega) (ko 1 (by omega))]; exact ht.2.2.2
      · rw [hx0, zset_nj (by decide), hb0 3 (by decide) (by decide) (by decide), zset_nj (by decide), zset_nj (by decide)]; exact hf
      · rw [hx0, zset_eq]
      · rw [hb0 22 (by decide) (by decide) (by decide), zset_eq]
      · obtain ⟨l1, l2, l3, l4, l5, l6⟩ := i4 i' (by omega)
        refine ⟨l1, l2, l3, XS_of (fun key h1 h2 => hx key (by omega) (by omega)) l4, XR_of (by rw [hx (34 + 5 * i') (by omega) (by omega)]) (hx _ (by omega) (by omega)) l5, ?_⟩
        unfold KI; rw [hbk (94 + i') (by omega) (ko _ (by omega))]; exact l6
