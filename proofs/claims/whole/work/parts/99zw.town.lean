/-! THE PURE SIDE, 88: a TOWN's text, the reference reads FEIGNS, KIN and a DOOR -/
theorem m_feigns {c : Nat → Nat} {N a : Nat} {D : zN2} {μ : zMem} (hc : tx c N μ) (hA : mA N a μ) (h5 : μ 0 5 = zi 0) (hB : DB D) (hD : MD D μ) : ∃ μ', f9_readsOf (1 : Int32) μ = some (0, zi 0, μ') ∧ mO (aFei c N D a) μ μ' := by
  have hP := hB.1.2.1
  unfold f9_readsOf aFei
  rw [z61, tkn1, hD.1.2.1]
  rcases m_numD (lo := 0) (H := D 2 1) (nt := 1000000) (x2 := zi (D 2 1) - (1 : Int32)) (x3 := (-1 : Int32)) mfr.refl hc hA.1 hA.2.2 hA.2.1 h5 (by decide) (hle rfl (by omega)) nt1 with ⟨k, p, x, M, i1, i2, i3⟩ | ⟨p, e, i1, i2, i3, i4, i5, i6⟩
  · rw [show f9_number (0 : Int32) (zi (D 2 1) - (1 : Int32)) (-1 : Int32) μ = _ from i2, bnd0_ok, zlet_e, if_pos (show (1 : Int32) = 1 from rfl), mF_number i3, bnd0_ok]
    show ∃ μ', (if M 0 5 = 0 then _ else _) = some (0, zi 0, μ') ∧ _
    rw [if_neg (mF_5 i3)]
    simp only [i1]
    exact ⟨M, rfl, i3⟩
  · rw [show f9_number (0 : Int32) (zi (D 2 1) - (1 : Int32)) (-1 : Int32) μ = _ from i2, bnd0_ok, zlet_e, if_pos (show (1 : Int32) = 1 from rfl)]
    simp only [i1]
    have f1 : rfM μ (zset μ 0 4 (zi e)) := mfr.refl.set0 (Or.inl rfl)
    rcases m_numD (lo := 0) (H := 10) (nt := 1000000) (x2 := (9 : Int32)) (x3 := (-1 : Int32)) f1 hc hA.1 i6 zset_eq (by rw [zset_nj (by decide)]; exact h5) (by decide) (hle rfl (by decide)) nt1 with ⟨k, p', x, M, j1, j2, j3⟩ | ⟨v, e2, j1, j2, j3, j4, j5, j6⟩
    · rw [show f9_number (0 : Int32) (9 : Int32) (-1 : Int32) (zset μ 0 4 (zi e)) = _ from j2, bnd0_ok, if_neg (mF_5 j3)]
      simp only [j1]
      exact ⟨M, rfl, j3⟩
    · have e5 : zset (zset μ 0 4 (zi e)) 0 4 (zi e2) 0 5 = (0 : Int32) := by rw [zset_nj (by decide), zset_nj (by decide)]; exact h5
      rw [show f9_number (0 : Int32) (9 : Int32) (-1 : Int32) (zset μ 0 4 (zi e)) = _ from j2, bnd0_ok, if_pos e5]
      simp only [j1]
      rw [zlet_e, if_pos (show True from trivial), zin_i (by omega) (by omega), z65, zlet_e, zi_cl (n := p) (by omega), tkn5]
      show ∃ μ', zlet _ _ = some (0, zi 0, μ') ∧ _
      rw [zlet_e, if_neg (show ¬ (1 : Int32) = 2 from by decide)]
      show ∃ μ', zlet _ _ = some (0, zi 0, μ') ∧ _
      rw [zlet_e, if_neg (show ¬ (1 : Int32) = 2 from by decide)]
      have f2 : rfM μ (zset (zset (zset μ 0 4 (zi e)) 0 4 (zi e2)) (6 + p) 5 (zi v)) := f1.s4.sd (by unfold dk9; omega)
      refine ⟨_, rfl, f2, ?_, by rw [zset_nk (by omega), zset_eq], by rw [zset_nk (by omega)]; exact e5, by rw [zset_nk (by omega), zset_nj (by decide), zset_nj (by decide)]⟩
      obtain ⟨D1, E2, E3, E4, E5⟩ := hD
      have g : ∀ key, key ≠ 0 → key ≠ 6 + p → zset (zset (zset μ 0 4 (zi e)) 0 4 (zi e2)) (6 + p) 5 (zi v) key = μ key := fun key h1 h2 => by rw [zset_nk h2, zset_nk h1, zset_nk h1]
      have r : ∀ k j, k ≠ 6 → nup D 6 p v k j = D k j := fun k j hk => by rw [nup_nk hk]
      have hd := hB.1.2.2.1
      have hQ := hB.1.1
      unfold MD
      simp only [r 2 _ (by decide), r 3 _ (by decide), r 5 _ (by decide), r 7 _ (by decide), r 8 _ (by decide), r 9 _ (by decide), r 10 _ (by decide), r 11 _ (by decide)]
      refine ⟨?_, fun i hi => ?_, fun p' hp' => ?_, fun p' hp' => ?_, fun d hd' => ?_⟩
      · rw [g 3 (by decide) (by omega)]; exact D1
      · rw [g 46 (by decide) (by omega)]; exact E2 i hi
      · have e3 := E3 p' hp'
        by_cases ep : p' = p
        · subst ep
          refine ⟨?_, by rw [zset_eq, nup_eq], fun q hq => ?_⟩
          · rw [zset_nj (by decide), zset_nk (by omega), zset_nk (by omega)]; exact e3.1
          · rw [zset_nj (by omega), zset_nk (by omega), zset_nk (by omega), r (20 + p') q (by omega)]; exact e3.2.2 q hq
        · rw [g (6 + p') (by omega) (by omega), nup_nj ep]
          exact ⟨e3.1, e3.2.1, fun q hq => by rw [r (20 + p') q (by omega)]; exact e3.2.2 q hq⟩
      · rw [g 48 (by decide) (by omega)]; exact E4 p' hp'
      · rw [g (25 + d) (by omega) (by omega)]; exact E5 d hd'
theorem m_kin {c : Nat → Nat} {N a : Nat} {D : zN2} {μ : zMem} (hc : tx c N μ) (hA : mA N a μ) (h5 : μ 0 5 = zi 0) (hB : DB D) (hD : MD D μ) : ∃ μ', f9_readsOf (2 : Int32) μ = some (0, zi 0, μ') ∧ mO (aKin c N D a) μ μ' := by
  have hP := hB.1.2.1
  unfold f9_readsOf aKin
  rw [z61, tkn1, hD.1.2.1]
  rcases m_numD (lo := 0) (H := D 2 1) (nt := 1000000) (x2 := zi (D 2 1) - (1 : Int32)) (x3 := (-1 : Int32)) mfr.refl hc hA.1 hA.2.2 hA.2.1 h5 (by decide) (hle rfl (by omega)) nt1 with ⟨k, p, x, M, i1, i2, i3⟩ | ⟨p, e, i1, i2, i3, i4, i5, i6⟩
  · rw [show f9_number (0 : Int32) (zi (D 2 1) - (1 : Int32)) (-1 : Int32) μ = _ from i2, bnd0_ok, zlet_e, if_neg (show ¬ (2 : Int32) = 1 from by decide), z61, mF_number i3, bnd0_ok]
    show ∃ μ', (if M 0 5 = 0 then _ else _) = some (0, zi 0, μ') ∧ _
    rw [if_neg (mF_5 i3)]
    simp only [i1]
    exact ⟨M, rfl, i3⟩
  · rw [show f9_number (0 : Int32) (zi (D 2 1) - (1 : Int32)) (-1 : Int32) μ = _ from i2, bnd0_ok, zlet_e, if_neg (show ¬ (2 : Int32) = 1 from by decide), z61, zset_nk (show (3 : Nat) ≠ 0 from by decide), hD.1.2.1]
    simp only [i1]
    have f1 : rfM μ (zset μ 0 4 (zi e)) := mfr.refl.set0 (Or.inl rfl)
    rcases m_numD (lo := 0) (H := D 2 1) (nt := p) (x2 := zi (D 2 1) - (1 : Int32)) (x3 := zi p) f1 hc hA.1 i6 zset_eq (by rw [zset_nj (by decide)]; exact h5) (by decide) (hle rfl (by omega)) (fun v hv => zi_eq (by omega) (by omega)) with ⟨k, p', x, M, j1, j2, j3⟩ | ⟨o, e2, j1, j2, j3, j4, j5, j6⟩
    · rw [show f9_number (0 : Int32) (zi (D 2 1) - (1 : Int32)) (zi p) (zset μ 0 4 (zi e)) = _ from j2, bnd0_ok, if_neg (mF_5 j3)]
      simp only [j1]
      exact ⟨M, rfl, j3⟩
    · have e5 : zset (zset μ 0 4 (zi e)) 0 4 (zi e2) 0 5 = (0 : Int32) := by rw [zset_nj (by decide), zset_nj (by decide)]; exact h5
      have ne := (aNum_r i6 j1).2.2.1
      rw [show f9_number (0 : Int32) (zi (D 2 1) - (1 : Int32)) (zi p) (zset μ 0 4 (zi e)) = _ from j2, bnd0_ok, if_pos e5]
      simp only [j1]
      rw [zlet_e, if_neg (show ¬ (2 : Int32) = 1 from by decide)]
      show ∃ μ', zlet _ _ = some (0, zi 0, μ') ∧ _
      rw [zlet_e, if_pos (show True from trivial), zin_i (by omega) (by omega), zin_i (by omega) (by omega), zlet_e, zi_cl (n := p) (by omega)]
      show ∃ μ', zlet _ _ = some (0, zi 0, μ') ∧ _
      rw [zlet_e, if_pos (show True from trivial), zin_i (by omega) (by omega), zin_i (by omega) (by omega), zlet_e, zi_cl (n := o) (by omega)]
      rw [zset_nj ne, zset_nk (show (48 : Nat) ≠ 0 from by decide), zset_nk (show (48 : Nat) ≠ 0 from by decide), hD.2.2.2.1 p (by omega), hD.2.2.2.1 o (by omega), show zshl (1 : Int32) (zi p) = zi (2 ^ p) from zshl1 (by omega), show zshl (1 : Int32) (zi o) = zi (2 ^ o) from zshl1 (by omega), zi_or, zi_or]
      refine ⟨_, rfl, (f1.s4.sd (by unfold dk9; omega)).sd (by unfold dk9; omega), ?_, by rw [zset_nk (by decide), zset_nk (by decide), zset_eq], by rw [zset_nk (by decide), zset_nk (by decide)]; exact e5, by rw [zset_nk (by decide), zset_nk (by decide), zset_nj (by decide), zset_nj (by decide)]⟩
      have g : ∀ key, key ≠ 0 → key ≠ 48 → zset (zset (zset (zset μ 0 4 (zi e)) 0 4 (zi e2)) 48 p (zi (D 7 p ||| 2 ^ o))) 48 o (zi (D 7 o ||| 2 ^ p)) key = μ key := fun key h1 h2 => by rw [zset_nk h2, zset_nk h2, zset_nk h1, zset_nk h1]
      have r : ∀ k j, k ≠ 7 → dKin D p o k j = D k j := fun k j hk => by unfold dKin; rw [nup_nk hk, nup_nk hk]
      have hd := hB.1.2.2.1
      obtain ⟨D1, E2, E3, E4, E5⟩ := hD
      unfold MD
      simp only [r 2 _ (by decide), r 3 _ (by decide), r 5 _ (by decide), r 6 _ (by decide), r 8 _ (by decide), r 9 _ (by decide), r 10 _ (by decide), r 11 _ (by decide)]
      refine ⟨?_, fun i hi => ?_, fun p' hp' => ?_, fun p' hp' => ?_, fun d hd' => ?_⟩
      · rw [g 3 (by decide) (by decide)]; exact D1
      · rw [g 46 (by decide) (by decide)]; exact E2 i hi
      · have e3 := E3 p' hp'
        rw [g (6 + p') (by omega) (by omega)]
        exact ⟨e3.1, e3.2.1, fun q hq => by rw [r (20 + p') q (by omega)]; exact e3.2.2 q hq⟩
      · unfold dKin
        by_cases e1 : p' = o
        · rw [e1, zset_eq, nup_eq]
        · rw [zset_nj e1, nup_nj e1]
          by_cases e2' : p' = p
          · rw [e2', zset_eq, nup_eq]
          · rw [zset_nj e2', nup_nj e2', zset_nk (by decide), zset_nk (by decide)]; exact E4 p' hp'
      · rw [g (25 + d) (by omega) (by omega)]; exact E5 d hd'
