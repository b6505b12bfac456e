/-! THE PURE SIDE, 6: the reference's scene, on -/
theorem MT_at {T : zN2} {μ μ' : zMem} (h4 : ∀ j, j ≠ 3 → μ' 4 j = μ 4 j) (h47 : μ' 47 = μ 47) (h49 : μ' 49 = μ 49) (h15 : ∀ p, p < 9 → μ' (15 + p) 5 = μ (15 + p) 5) (h36 : ∀ d, d < 10 → μ' (36 + d) = μ (36 + d)) (hT : TB T) (hM : MT T μ) : MT T μ' := by
  have hP := hT.2.1
  have hD := hT.2.2.1
  obtain ⟨m1, m2, m3, m4, m5⟩ := hM
  unfold MT
  rw [h4 0 (by decide), h4 1 (by decide), h4 2 (by decide), h4 4 (by decide), h4 5 (by decide), h47, h49]
  refine ⟨m1, m2, m3, fun p hp => ?_, fun d hd => ?_⟩
  · rw [h15 p (by omega)]; exact m4 p hp
  · rw [h36 d (by omega)]; exact m5 d hd
theorem MS_at {T W : zN2} {μ μ' : zMem} (h20 : μ' 0 20 = μ 0 20) (h30 : μ' 0 30 = μ 0 30) (h4 : μ' 4 3 = μ 4 3) (h91 : μ' 91 = μ 91) (h92 : μ' 92 = μ 92) (h51 : ∀ p, p < 9 → μ' (51 + p) = μ (51 + p)) (h15 : ∀ p, p < 9 → μ' (15 + p) 4 = μ (15 + p) 4) (hT : TB T) (hW : WB T W) (hS : MS T W μ) : MS T W μ' := by
  have hP := hT.2.1
  have hP' := hW.2.2.2.1
  obtain ⟨m1, m2, m3, m4⟩ := hS
  unfold MS
  rw [h20, h30, h4, h91, h92]
  refine ⟨m1, fun p hp => ?_, fun p hp => ?_, m4⟩
  · rw [h51 p (by omega)]; exact m2 p hp
  · rw [h15 p (by omega)]; exact m3 p hp
theorem m_dawns {T : zN2} {μ : zMem} (hT : TB T) (hM : MT T μ) : f9_dawns μ = some (0, zi 0, zfil μ 91 9 (zi (T 2 4))) := by
  have h4 := hM.1.2.2.2.1
  obtain ⟨s, h1, h2⟩ := zloopE (L := fun n i s => f9_dawns_L2 (fun m => some (0, zi 0, m)) n (zi i) s) (N := 9) (o := fun s => some (0, zi 0, s)) (fun i s => s = zfil μ 91 i (zi (T 2 4)))
    (fun n s _ => by simp (disch := omega) only [f9_dawns_L2, zlit, zi_le, Nat.le_refl, if_true])
    (fun n i s hi hs => ⟨zfil μ 91 (i + 1) (zi (T 2 4)), by
      subst hs
      simp (disch := omega) only [f9_dawns_L2, zlit, zi_le, show ¬ 9 ≤ i by omega, if_false, zin_i, zi_cl, zlet_e, zfil_nk, h4, zfil_set, zi_add], rfl⟩)
    9 0 μ zF (by omega) (by unfold zF; omega) zfil_0.symm
  subst h2
  simp only [f9_dawns, zlit]
  exact h1
/-- a new DAY of the reference -/
theorem ms_dawn {T W : zN2} {μ : zMem} (hT : TB T) (hW : WB T W) (hS : MS T W μ) {day : Nat} {μ' : zMem} (h30 : μ 0 30 = zN1) (h20 : μ' 0 20 = zi day) (h0 : μ' 0 30 = zN1) (h4 : μ' 4 3 = μ 4 3) (h91 : ∀ p, p < 9 → μ' 91 p = zi (T 2 4)) (h92 : μ' 92 = μ 92) (h51 : ∀ p, p < 9 → μ' (51 + p) = μ (51 + p)) (h15 : ∀ p, p < 9 → μ' (15 + p) 4 = μ (15 + p) 4) : MS T (tD T W day) μ' := by
  have hP := hT.2.1
  have hP' := hW.2.2.2.1
  refine ⟨⟨h20, Or.inl ⟨h0, rfl⟩, ?_⟩, fun p hp => ⟨?_, fun q hq => ?_⟩, fun p hp => ?_, fun d hd => ?_⟩
  · rw [h4]; exact hS.1.2.2
  · have hp : p < W 0 3 := hp
    rw [h91 p (by omega), tD_at, if_neg (by omega), if_neg (by omega), if_pos rfl]
  · have hp : p < W 0 3 := hp
    rw [h51 p (by omega), tD_at, if_neg (by omega), if_neg (by omega), if_neg (by omega)]; exact (hS.2.1 p hp).2 q hq
  · rw [h15 p (by omega), tD_at, if_neg (by omega), if_neg (by omega), if_neg (by omega)]; exact hS.2.2.1 p hp
  · rw [h92]; exact hS.2.2.2 d hd
theorem m_talks {T W : zN2} {μ : zMem} (hT : TB T) (hW : WB T W) (hS : MS T W μ) {a b q : Nat} (ha : a < W 0 3) (hb : b < W 0 3) (hq : q < T 2 0) :
    f9_talks (zi a) (zi b) (zi q) μ = some (0, zi 0, zset μ (51 + a) q (zi (tTv (W (4 + a) q) (W (4 + b) q)))) := by
  have h1 := wb_th hW a q
  have h2 := wb_th hW b q
  have hP := hW.2.2.2.1
  have hQ := hT.1
  unfold f9_talks tTv
  simp (disch := omega) only [zin_i, zi_cl, zlet_e, zi_le, ↓zneg1, zlit, (hS.2.1 a ha).2 q hq, (hS.2.1 b hb).2 q hq]
  by_cases h : W (4 + a) q < W (4 + b) q
  · simp (disch := omega) only [if_pos h, if_neg (show ¬ W (4 + b) q ≤ W (4 + a) q by omega), zi_add]
  · by_cases h' : W (4 + b) q < W (4 + a) q
    · simp (disch := omega) only [if_neg h, if_pos h', if_pos (show W (4 + b) q ≤ W (4 + a) q by omega), if_neg (show ¬ W (4 + a) q ≤ W (4 + b) q by omega), zi_pred]
    · simp (disch := omega) only [if_neg h, if_neg h', if_pos (show W (4 + a) q ≤ W (4 + b) q by omega), if_pos (show W (4 + b) q ≤ W (4 + a) q by omega), zi_add, Nat.add_zero]
theorem ms_put {T W : zN2} {μ : zMem} (hT : TB T) (hW : WB T W) (hS : MS T W μ) {p q v : Nat} (hp : p < 9) (hq : q < T 2 0) : MS T (nup W (4 + p) q v) (zset μ (51 + p) q (zi v)) := by
  have hP := hT.2.1
  have hP' := hW.2.2.2.1
  have hQ := hT.1
  refine ⟨⟨?_, ?_, ?_⟩, fun p' hp' => ⟨?_, fun q' hq' => ?_⟩, fun p' hp' => ?_, fun d hd => ?_⟩
  · rw [zset_nk (by omega), nup_nk (by omega)]; exact hS.1.1
  · rw [zset_nk (by omega), nup_nk (by omega), nup_nk (by omega)]; exact hS.1.2.1
  · rw [zset_nk (by omega), nup_nk (by omega)]; exact hS.1.2.2
  · rw [nup_nk (by omega)] at hp'
    rw [zset_nk (by omega), nup_nk (by omega)]; exact (hS.2.1 p' hp').1
  · rw [nup_nk (by omega)] at hp'
    rw [zset_at, nup_at]
    by_cases h : p' = p ∧ q' = q
    · rw [if_pos (by omega), if_pos (by omega)]
    · rw [if_neg (by omega), if_neg (by omega)]; exact (hS.2.1 p' hp').2 q' hq'
  · rw [zset_nk (by omega), nup_nk (by omega)]; exact hS.2.2.1 p' hp'
  · rw [zset_nk (by omega), nup_nk (by omega)]; exact hS.2.2.2 d hd
