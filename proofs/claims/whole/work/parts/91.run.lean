/-! THE PURE SIDE, 31: a RUN in the reference -/
theorem ms_dawn2 {T W : zN2} {μ : zMem} (hT : TB T) (hW : WB T W) (hS : MS T W μ) {day : Nat} {μ' : zMem} (h20 : μ' 0 20 = zi day) (h0 : μ' 0 30 = zN1) (h4 : μ' 4 3 = μ 4 3) (h91 : ∀ p, p < 9 → μ' 91 p = zi (T 2 4)) (h92 : μ' 92 = μ 92) (h51 : ∀ p, p < 9 → μ' (51 + p) = μ (51 + p)) (h15 : ∀ p, p < 9 → μ' (15 + p) 4 = μ (15 + p) 4) : MS T (tD T W day) μ' := by
  have hP := hT.2.1
  have hP' := hW.2.2.2.1
  refine ⟨⟨h20, Or.inl ⟨h0, rfl⟩, ?_⟩, fun p hp => ⟨?_, fun q hq => ?_⟩, fun p hp => ?_, fun d hd => ?_⟩
  · rw [h4]; exact hS.1.2.2
  · have hp : p < W 0 3 := hp
    rw [h91 p (by omega), tD_at, if_neg (by omega), if_neg (by omega), if_pos rfl]
  · have hp : p < W 0 3 := hp
    rw [h51 p (by omega), tD_at, if_neg (by omega), if_neg (by omega), if_neg (by omega)]; exact (hS.2.1 p hp).2 q hq
  · rw [h15 p (by omega), tD_at, if_neg (by omega), if_neg (by omega), if_neg (by omega)]; exact hS.2.2.1 p hp
  · rw [h92]; exact hS.2.2.2 d hd
theorem ms_ask {T W : zN2} {μ : zMem} {q : Nat} (hT : TB T) (hW : WB T W) (hS : MS T W μ) {μ' : zMem} (h20 : μ' 0 20 = μ 0 20) (h30 : μ' 0 30 = zi q) (hk : ∀ k, k ≠ 0 → μ' k = μ k) : MS T (nup W 0 1 q) μ' := by
  have hP := hT.2.1
  have hP' := hW.2.2.2.1
  refine ⟨⟨?_, Or.inr ?_, ?_⟩, fun p hp => ⟨?_, fun q hq => ?_⟩, fun p hp => ?_, fun d hd => ?_⟩
  · rw [h20, nup_nj (by decide)]; exact hS.1.1
  · rw [h30, nup_eq]
  · rw [hk 4 (by decide), nup_nj (by decide)]; exact hS.1.2.2
  · rw [nup_nj (by decide)] at hp
    rw [hk 91 (by decide), nup_nk (by decide)]; exact (hS.2.1 p hp).1
  · rw [nup_nj (by decide)] at hp
    rw [hk (51 + p) (by omega), nup_nk (by omega)]; exact (hS.2.1 p hp).2 q hq
  · rw [hk (15 + p) (by omega), nup_nk (by decide)]; exact hS.2.2.1 p hp
  · rw [hk 92 (by decide), nup_nj (by decide)]; exact hS.2.2.2 d hd
def gJ (j : Nat) : Prop := j = 20 ∨ j = 30 ∨ j = 31 ∨ j = 45
/-- the reference's DAY begins, with its SLATE -/
theorem m_begin {T W : zN2} {m : zMem} (hT : TB T) (hW : WB T W) (hM : MT T m) (hS : MS T W m) {first i lot : Nat} {sd : Int32} (hl : lot < 2) (hfi : first + i ≤ 29) (hi0 : i = 0 → W 0 0 = first ∧ W 0 1 = tS T first) (hi1 : 0 < i → W 0 0 + 1 = first + i) (hsd : lot = 1 → T 2 0 ≠ 0 → m 0 45 = sd) (J : zMem → zRes) :
    ∃ m', (if zi i ≤ (0 : Int32) then zlet (zset m 0 30 (-1 : Int32)) (fun (μ16 : zMem) => zlet J (fun j72 => if zi lot = (0 : Int32) then j72 μ16 else zin (0 : Int32) 6 (if (μ16 4 (0 : Int32).toNatClampNeg) ≤ 0 then j72 μ16 else zlet (zset μ16 0 45 (((μ16 0 45) * (1103515245 : Int32)) + (12345 : Int32))) (fun (μ78 : zMem) => zin (0 : Int32) 6 (znz (μ78 4 (0 : Int32).toNatClampNeg) (zlet (zset μ78 0 30 (zrem ((zshr (μ78 0 45) (16 : Int32)) &&& (32767 : Int32)) (μ78 4 (0 : Int32).toNatClampNeg))) (fun (μ81 : zMem) => j72 μ81)))))))
      else zlet (zset m 0 20 ((m 0 20) + (1 : Int32))) (fun (μ85 : zMem) => bnd0 (f9_dawns μ85) (fun (v86 : Int32) (μ87 : zMem) => zlet (zset μ87 0 30 (-1 : Int32)) (fun (μ16 : zMem) => zlet J (fun j72 => if zi lot = (0 : Int32) then j72 μ16 else zin (0 : Int32) 6 (if (μ16 4 (0 : Int32).toNatClampNeg) ≤ 0 then j72 μ16 else zlet (zset μ16 0 45 (((μ16 0 45) * (1103515245 : Int32)) + (12345 : Int32))) (fun (μ78 : zMem) => zin (0 : Int32) 6 (znz (μ78 4 (0 : Int32).toNatClampNeg) (zlet (zset μ78 0 30 (zrem ((zshr (μ78 0 45) (16 : Int32)) &&& (32767 : Int32)) (μ78 4 (0 : Int32).toNatClampNeg))) (fun (μ81 : zMem) => j72 μ81)))))))))) = J m' ∧
      MT T m' ∧ MS T (gA T lot (gD lot sd) (gB T first i W)) m' ∧ (lot = 1 → T 2 0 ≠ 0 → m' 0 45 = gD lot sd) ∧ mfr (fun j => j = 20 ∨ j = 30 ∨ j = 45) zsk m m' := by
  have hQ := hT.1
  have hN := hW.1
  -- the SLATE
  have ask : ∀ m1, MT T m1 → MS T (gB T first i W) m1 → WB T (gB T first i W) → gB T first i W 0 1 = tS T (gB T first i W 0 0) → m1 0 30 = zN1 → (lot = 1 → T 2 0 ≠ 0 → m1 0 45 = sd) →
      ∃ m', (if zi lot = (0 : Int32) then J m1 else zin (0 : Int32) 6 (if (m1 4 (0 : Int32).toNatClampNeg) ≤ 0 then J m1 else zlet (zset m1 0 45 (((m1 0 45) * (1103515245 : Int32)) + (12345 : Int32))) (fun (μ78 : zMem) => zin (0 : Int32) 6 (znz (μ78 4 (0 : Int32).toNatClampNeg) (zlet (zset μ78 0 30 (zrem ((zshr (μ78 0 45) (16 : Int32)) &&& (32767 : Int32)) (μ78 4 (0 : Int32).toNatClampNeg))) (fun (μ81 : zMem) => J μ81)))))) = J m' ∧ MT T m' ∧ MS T (gA T lot (gD lot sd) (gB T first i W)) m' ∧ (lot = 1 → T 2 0 ≠ 0 → m' 0 45 = gD lot sd) ∧ mfr (fun j => j = 20 ∨ j = 30 ∨ j = 45) zsk m1 m' := by
    intro m1 hM1 hS1 hW1 hask h30 h45
    by_cases hl0 : lot = 0
    · subst hl0
      refine ⟨m1, if_pos rfl, hM1, ?_, fun q => absurd q (by decide), mfr.refl⟩
      unfold gA; rw [if_pos rfl]; exact hS1
    · have hl1 : lot = 1 := by omega
      subst hl1
      by_cases hq : T 2 0 = 0
      · refine ⟨m1, ?_, hM1, ?_, fun _ q => absurd hq q, mfr.refl⟩
        · rw [if_neg (show ¬ zi 1 = 0 by decide)]
          simp (disch := omega) only [zlit', zin_i, zi_cl, hM1.1.1, hq, zi_le, Nat.le_refl, if_true]
        · have e : gA T 1 (gD 1 sd) (gB T first i W) = gB T first i W := by
            have h5 := (hT.2.2.2.2.2.2.1 hq).2.2
            have h01 : gB T first i W 0 1 = 0 := by rw [hask]; unfold tS; rw [if_pos h5]
            unfold gA
            rw [if_neg (by decide), if_pos hq]
            funext k j
            rw [nup_at]
            by_cases hk : k = 0 ∧ j = 1
            · rw [if_pos hk, hk.1, hk.2, h01]
            · rw [if_neg hk]
          rw [e]; exact hS1
      · have hd := dv_lt (gD 1 sd)
        have h45' := h45 rfl hq
        have e : sd * zi 1103515245 + zi 12345 = gD 1 sd := rfl
        refine ⟨zset (zset m1 0 45 (gD 1 sd)) 0 30 (zi (dv (gD 1 sd) % T 2 0)), ?_, ?_, ?_, fun _ _ => by rw [zset_nj (by decide), zset_eq], (mfr.refl.set0 (Or.inr (Or.inr rfl))).set0 (Or.inr (Or.inl rfl))⟩
        · rw [if_neg (show ¬ zi 1 = 0 by decide)]
          simp (disch := omega) only [zlit', zin_i, zi_cl, hM1.1.1, zi_le, show ¬ T 2 0 ≤ 0 by omega, if_false, h45', e, zlet_e', zset_nk, zset_eq, zshr_dv, hd.2, znz_i, zrem_i]
        · exact MT_q (fun key hk => by rw [zset_nk (by unfold zmk at hk; omega), zset_nk (by unfold zmk at hk; omega)]) hT hM1
        · have e2 : gA T 1 (gD 1 sd) (gB T first i W) = nup (gB T first i W) 0 1 (dv (gD 1 sd) % T 2 0) := by unfold gA; rw [if_neg (by decide), if_neg hq]
          rw [e2]
          exact ms_ask hT hW1 hS1 (by rw [zset_nj (by decide), zset_nj (by decide)]) zset_eq (fun k hk => by rw [zset_nk hk, zset_nk hk])
  by_cases h0 : 0 < i
  · have e20 : m 0 20 + (1 : Int32) = zi (first + i) := by rw [hS.1.1]; have := hi1 h0; rw [← this]; exact zi_add _ 1
    have hM1 : MT T (zset m 0 20 (zi (first + i))) := MT_q (fun key hk => zset_nk (by unfold zmk at hk; omega)) hT hM
    have hdw := m_dawns hT hM1
    have eB : gB T first i W = tD T W (first + i) := if_pos h0
    have hM2 : MT T (zset (zfil (zset m 0 20 (zi (first + i))) 91 9 (zi (T 2 4))) 0 30 zN1) := MT_q (fun key hk => by
      unfold zmk at hk
      rw [zset_nk (by omega), zfil_nk (by omega), zset_nk (by omega)]) hT hM
    have hS2 : MS T (tD T W (first + i)) (zset (zfil (zset m 0 20 (zi (first + i))) 91 9 (zi (T 2 4))) 0 30 zN1) := by
      refine ms_dawn2 hT hW hS ?_ zset_eq ?_ ?_ ?_ ?_ ?_
      · rw [zset_nj (by decide), zfil_nk (by decide), zset_eq]
      · rw [zset_nk (by decide), zfil_nk (by decide), zset_nk (by decide)]
      · intro p hp; rw [zset_nk (by decide), zfil_at, if_pos ⟨rfl, hp⟩]
      · rw [zset_nk (by decide), zfil_nk (by decide), zset_nk (by decide)]
      · intro p hp; rw [zset_nk (by omega), zfil_nk (by omega), zset_nk (by omega)]
      · intro p hp; rw [zset_nk (by omega), zfil_nk (by omega), zset_nk (by omega)]
    obtain ⟨m', a1, a2, a3, a4, a5⟩ := ask _ hM2 (by rw [eB]; exact hS2) (by rw [eB]; exact wb_dawn hT hW hfi) (by rw [eB]; rfl) zset_eq (fun q1 q2 => by rw [zset_nj (by decide), zfil_nk (by decide), zset_nj (by decide)]; exact hsd q1 q2)
    refine ⟨m', ?_, a2, a3, a4, mfr.trans ?_ a5⟩
    · rw [if_neg (show ¬ zi i ≤ 0 from by rw [show (0 : Int32) = zi 0 from rfl, zi_le (by omega) (by omega)]; omega), e20, zlet_e, hdw, bnd0_ok, zlet_e, zlet_e]
      exact a1
    · exact mfr.set0 (j := 30) (mfr.fil (k := 91) (mfr.set0 (j := 20) mfr.refl (Or.inl rfl)) (by decide) (Or.inl rfl)) (Or.inr (Or.inl rfl))
  · have hi : i = 0 := by omega
    obtain ⟨z1, z2⟩ := hi0 hi
    have eB : gB T first i W = W := if_neg h0
    have hM2 : MT T (zset m 0 30 zN1) := MT_q (fun key hk => zset_nk (by unfold zmk at hk; omega)) hT hM
    have hS2 : MS T W (zset m 0 30 zN1) := by
      have hP := hT.2.1
      have hP' := hW.2.2.2.1
      refine ⟨⟨?_, Or.inl ⟨zset_eq, by rw [z2, z1]⟩, ?_⟩, fun p hp => ?_, fun p hp => ?_, fun d hd => ?_⟩
      · rw [zset_nj (by decide)]; exact hS.1.1
      · rw [zset_nk (by decide)]; exact hS.1.2.2
      · rw [zset_nk (by decide), zset_nk (by omega)]; exact hS.2.1 p hp
      · rw [zset_nk (by omega)]; exact hS.2.2.1 p hp
      · rw [zset_nk (by decide)]; exact hS.2.2.2 d hd
    obtain ⟨m', a1, a2, a3, a4, a5⟩ := ask _ hM2 (by rw [eB]; exact hS2) (by rw [eB]; exact hW) (by rw [eB, z2, z1]) zset_eq (fun q1 q2 => by rw [zset_nj (by decide)]; exact hsd q1 q2)
    refine ⟨m', ?_, a2, a3, a4, mfr.trans (mfr.refl.set0 (Or.inr (Or.inl rfl))) a5⟩
    rw [if_pos (show zi i ≤ 0 from by rw [show (0 : Int32) = zi 0 from rfl, zi_le (by omega) (by omega)]; omega), zlet_e, zlet_e]
    exact a1
