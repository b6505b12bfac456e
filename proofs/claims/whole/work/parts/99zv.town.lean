/-! THE PURE SIDE, 87: a TOWN's text, the reference reads a PERSON, a SLATE, FEIGNS and KIN -/
theorem z60 {A : zRes} : zin (0 : Int32) 6 A = A := zl6 (k := 0) (by decide) (by decide)
theorem z61 {A : zRes} : zin (1 : Int32) 6 A = A := zl6 (k := 1) (by decide) (by decide)
theorem z62 {A : zRes} : zin (2 : Int32) 6 A = A := zl6 (k := 2) (by decide) (by decide)
theorem z63 {A : zRes} : zin (3 : Int32) 6 A = A := zl6 (k := 3) (by decide) (by decide)
theorem z64 {A : zRes} : zin (4 : Int32) 6 A = A := zl6 (k := 4) (by decide) (by decide)
theorem z65 {A : zRes} : zin (5 : Int32) 6 A = A := zl6 (k := 5) (by decide) (by decide)
theorem z40 {A : zRes} : zin (0 : Int32) 4 A = A := zl6 (k := 0) (by decide) (by decide)
theorem z41 {A : zRes} : zin (1 : Int32) 4 A = A := zl6 (k := 1) (by decide) (by decide)
theorem z42 {A : zRes} : zin (2 : Int32) 4 A = A := zl6 (k := 2) (by decide) (by decide)
theorem z43 {A : zRes} : zin (3 : Int32) 4 A = A := zl6 (k := 3) (by decide) (by decide)
theorem tkn0 : (0 : Int32).toNatClampNeg = 0 := zi_cl (n := 0) (by decide)
theorem tkn1 : (1 : Int32).toNatClampNeg = 1 := zi_cl (n := 1) (by decide)
theorem tkn2 : (2 : Int32).toNatClampNeg = 2 := zi_cl (n := 2) (by decide)
theorem tkn3 : (3 : Int32).toNatClampNeg = 3 := zi_cl (n := 3) (by decide)
theorem tkn4 : (4 : Int32).toNatClampNeg = 4 := zi_cl (n := 4) (by decide)
theorem tkn5 : (5 : Int32).toNatClampNeg = 5 := zi_cl (n := 5) (by decide)
theorem mF_d {c : Nat → Nat} {k p : Nat} {x : Int32} {μ M : zMem} (h : dfr μ M) (hd : mD1 c (.inl (k, p)) x M) (hk : 0 < k ∧ k < 10) : mF k p μ M :=
  ⟨h.mono (fun _ hj => hj) (fun _ hk => Or.inl hk), hd.1, hd.2.1, hd.2.2, hk.1, hk.2⟩
theorem m_person {c : Nat → Nat} {N a : Nat} {D : zN2} {μ : zMem} (hc : tx c N μ) (hA : mA N a μ) (h5 : μ 0 5 = zi 0) (hB : DB D) (hD : MD D μ) (hP : D 2 1 < 8) : ∃ μ', f9_readsPerson μ = some (0, zi 0, μ') ∧ mO (aPer c N D a) μ μ' := by
  have hQ := hB.1.1
  have hQ0 := hB.2.1
  unfold f9_readsPerson aPer
  simp only [z60, z61, z64, z65, tkn0, tkn1, tkn4, tkn5, hD.1.1, hD.1.2.1]
  rw [zin_i (by omega) (by omega), zi_cl (by omega)]
  obtain ⟨x, μ1, d1, d2, d3, d6⟩ := m_digits (c := c) (N := N) (a := a) (G := 9) (few := D 2 0) (most := D 2 0) (x1 := (8 : Int32)) hc hA h5 (by omega) (by omega) (fun v hv => zi_lt (a := 8) (by decide) (by omega))
  rw [d1, bnd0_ok, zlet_e]
  have h30 : μ1 3 0 = zi (D 2 0) := by rw [d3.1 3 (by decide) (by decide)]; exact hD.1.1
  rcases hd : aDig c N 9 (D 2 0) (D 2 0) a with ⟨k, p⟩ | ⟨b, e⟩
  · rw [hd] at d2
    have hk := (aDig_l hA.2.2 hd).1
    have hF := mF_d d3 d2 (by omega)
    rw [m_perF hQ0 hQ h30 hF]
    show ∃ μ', bnd0 (f9_number _ _ _ μ1) _ = some (0, zi 0, μ') ∧ _
    rw [mF_number hF, bnd0_ok, zlet_e, zlet_e, zlet_e]
    exact ⟨_, rfl, ((hF.sd (by unfold dk9; omega)).sd (by unfold dk9; omega)).sd (by unfold dk9; omega)⟩
  · rw [hd] at d2
    obtain ⟨g1, g2, g3, g4⟩ := d2
    obtain ⟨k1, k2, k3, k4, k5⟩ := aDig_r hA.2.2 hd
    obtain ⟨μ2, l1, l2, l3⟩ := m_perL (Q := D 2 0) (r := 6 + D 2 1) hQ (by omega) h30 g3 (fun (μ7 : zMem) => bnd0 (f9_number (0 : Int32) (4 : Int32) (-1 : Int32) μ7) (fun (v8 : Int32) (μ9 : zMem) => zlet (zset μ9 (6 + D 2 1) 4 v8) (fun (μ11 : zMem) => zlet (zset μ11 (6 + D 2 1) 5 (0 : Int32)) (fun (μ13 : zMem) => zlet (zset μ13 3 1 ((μ13 3 1) + (1 : Int32))) (fun (μ16 : zMem) => some (0, (0 : Int32), μ16))))))
    show ∃ μ', f9_readsPerson_L33 _ _ zF (zi 0) _ = some (0, zi 0, μ') ∧ _
    have f0 : rfM μ μ1 := d3.mono (fun _ hj => hj) (fun _ hk => Or.inl hk)
    have f2 : rfM μ μ2 := ⟨fun k h1 h2 => by rw [l3 k (by unfold dk9 at h2; omega)]; exact f0.1 k h1 h2, fun j hj => by rw [l3 0 (by omega)]; exact f0.2 j hj⟩
    have e4 : μ2 0 4 = zi e := by rw [l3 0 (by omega)]; exact g2
    have e5 : μ2 0 5 = zi 0 := by rw [l3 0 (by omega)]; exact g3
    rcases m_numD (lo := 0) (H := 5) (nt := 1000000) (x2 := (4 : Int32)) (x3 := (-1 : Int32)) f2 hc hA.1 k2 e4 e5 (by decide) (hle rfl (by decide)) nt1 with ⟨k, p, x', M, i1, i2, i3⟩ | ⟨v, e2, i1, i2, i3, i4, i5, i6⟩
    · simp only [i1]
      refine ⟨_, l1.trans ?_, ((i3.sd (k' := 6 + D 2 1) (j := 4) (v := x') (by unfold dk9; omega)).sd (k' := 6 + D 2 1) (j := 5) (v := 0) (by unfold dk9; omega)).sd (k' := 3) (j := 1) (v := zset (zset M (6 + D 2 1) 4 x') (6 + D 2 1) 5 0 3 1 + (1 : Int32)) (by unfold dk9; omega)⟩
      rw [show f9_number (0 : Int32) (4 : Int32) (-1 : Int32) μ2 = _ from i2, bnd0_ok, zlet_e, zlet_e, zlet_e]
      rfl
    · simp only [i1]
      have e31 : zset (zset (zset μ2 0 4 (zi e2)) (6 + D 2 1) 4 (zi v)) (6 + D 2 1) 5 (0 : Int32) 3 1 = zi (D 2 1) := by
        rw [zset_nk (by omega), zset_nk (by omega), zset_nk (by omega), l3 3 (by omega), d3.1 3 (by decide) (by decide)]; exact hD.1.2.1
      refine ⟨zset (zset (zset (zset μ2 0 4 (zi e2)) (6 + D 2 1) 4 (zi v)) (6 + D 2 1) 5 (0 : Int32)) 3 1 (zi (D 2 1 + 1)), l1.trans ?_, ((f2.s4.sd (by unfold dk9; omega)).sd (by unfold dk9; omega)).sd (by unfold dk9; omega), ?_, by rw [zset_nk (by decide), zset_nk (by omega), zset_nk (by omega), zset_eq], by rw [zset_nk (by decide), zset_nk (by omega), zset_nk (by omega), zset_nj (by decide)]; exact e5, by rw [zset_nk (by decide), zset_nk (by omega), zset_nk (by omega), zset_nj (by decide), l3 0 (by omega)]; exact d6 g3⟩
      · rw [show f9_number (0 : Int32) (4 : Int32) (-1 : Int32) μ2 = _ from i2, bnd0_ok, zlet_e, zlet_e, zlet_e, e31, show zi (D 2 1) + (1 : Int32) = zi (D 2 1 + 1) from zi_add _ 1]
        rfl
      · have g : ∀ key, key ≠ 0 → key ≠ 3 → key ≠ 2 → key ≠ 6 + D 2 1 → zset (zset (zset (zset μ2 0 4 (zi e2)) (6 + D 2 1) 4 (zi v)) (6 + D 2 1) 5 (0 : Int32)) 3 1 (zi (D 2 1 + 1)) key = μ key := fun key h1 h2 h3 h4 => by
          rw [zset_nk h2, zset_nk h4, zset_nk h4, zset_nk h1, l3 key h4, d3.1 key h1 h3]
        have g3' : ∀ j, j ≠ 1 → zset (zset (zset (zset μ2 0 4 (zi e2)) (6 + D 2 1) 4 (zi v)) (6 + D 2 1) 5 (0 : Int32)) 3 1 (zi (D 2 1 + 1)) 3 j = μ 3 j := fun j hj => by
          rw [zset_nj hj, zset_nk (by omega), zset_nk (by omega), zset_nk (by omega), l3 3 (by omega), d3.1 3 (by decide) (by decide)]
        have r2 : ∀ j, j ≠ 1 → dPer D (dF c b (D 2 0)) v 2 j = D 2 j := fun j hj => by unfold dPer; rw [if_neg (by omega), if_neg (by omega), if_neg (by omega)]
        have r : ∀ k j, k ≠ 2 → k ≠ 5 → k < 20 → dPer D (dF c b (D 2 0)) v k j = D k j := fun k j h1 h2 h3 => by unfold dPer; rw [if_neg (by omega), if_neg (by omega), if_neg (by omega)]
        obtain ⟨⟨D1, D2, D3, D4, D5, D6⟩, E2, E3, E4, E5⟩ := hD
        refine ⟨⟨?_, ?_, ?_, ?_, ?_, ?_⟩, fun i hi => ?_, fun p hp => ?_, fun p hp => ?_, fun d hd => ?_⟩
        · rw [r2 0 (by decide), g3' 0 (by decide)]; exact D1
        · rw [zset_eq]; rfl
        · rw [r2 2 (by decide), g3' 2 (by decide)]; exact D3
        · rw [r2 3 (by decide), g3' 3 (by decide)]; exact D4
        · rw [r2 4 (by decide), g3' 4 (by decide)]; exact D5
        · rw [r2 5 (by decide), g3' 5 (by decide)]; exact D6
        · rw [r2 5 (by decide)] at hi
          rw [r 3 i (by decide) (by decide) (by decide), g 46 (by decide) (by decide) (by decide) (by omega)]; exact E2 i hi
        · have hp' : p < D 2 1 + 1 := hp
          rw [r2 0 (by decide), r 6 p (by decide) (by decide) (by decide)]
          by_cases ep : p = D 2 1
          · subst ep
            refine ⟨?_, ?_, fun q hq => ?_⟩
            · rw [zset_nk (by omega), zset_nj (by decide), zset_eq]
              simp [dPer]
            · rw [zset_nk (by omega), zset_eq, hB.2.2.2 _ (Nat.le_refl _)]; rfl
            · rw [zset_nk (by omega), zset_nj (by omega), zset_nj (by omega), zset_nk (by omega), l2 q hq, g4 q (by omega)]
              have : dPer D (dF c b (D 2 0)) v (20 + D 2 1) q = dF c b (D 2 0) q := by unfold dPer; rw [if_neg (by omega), if_neg (by omega), if_pos rfl]
              rw [this, show dF c b (D 2 0) q = c (b + q) - 48 from if_pos hq]
          · rw [g (6 + p) (by omega) (by omega) (by omega) (by omega)]
            have e3 := E3 p (by omega)
            refine ⟨?_, e3.2.1, fun q hq => ?_⟩
            · have : dPer D (dF c b (D 2 0)) v 5 p = D 5 p := by unfold dPer; rw [if_neg (by omega), if_neg (by omega), if_neg (by omega)]
              rw [this]; exact e3.1
            · have : dPer D (dF c b (D 2 0)) v (20 + p) q = D (20 + p) q := by unfold dPer; rw [if_neg (by omega), if_neg (by omega), if_neg (by omega)]
              rw [this]; exact e3.2.2 q hq
        · rw [r 7 p (by decide) (by decide) (by decide), g 48 (by decide) (by decide) (by decide) (by omega)]; exact E4 p hp
        · rw [r2 2 (by decide)] at hd
          rw [r 8 d (by decide) (by decide) (by decide), r 9 d (by decide) (by decide) (by decide), r 10 d (by decide) (by decide) (by decide), r 11 d (by decide) (by decide) (by decide), g (25 + d) (by omega) (by omega) (by omega) (by omega)]; exact E5 d hd
theorem m_slaL {n : Nat} {μ : zMem} (hn : n ≤ 7) (h5 : μ 0 5 = zi 0) (K : zMem → zRes) :
    ∃ μ', f9_readsSlate_L25 (zi n) K zF (zi 0) μ = K μ' ∧ (∀ q, q < n → μ' 46 q = μ 2 q) ∧ zfr (fun k => k = 46) μ μ' := by
  obtain ⟨μ', e1, e2, e3⟩ := zloopE (L := fun F i (x : zMem) => f9_readsSlate_L25 (zi n) K F (zi i) x) (N := n) (o := fun x => K x)
    (fun i x => (∀ q, q < i → x 46 q = μ 2 q) ∧ zfr (fun k => k = 46) μ x)
    (fun F x hx => by
      show f9_readsSlate_L25 (zi n) K (F + 1) (zi n) x = _
      rw [f9_readsSlate_L25, if_pos (Int32.le_refl _)])
    (fun F i x hi hx => by
      obtain ⟨x1, x2⟩ := hx
      refine ⟨zset x 46 i (μ 2 i), ?_, fun q hq => ?_, x2.set rfl⟩
      · show f9_readsSlate_L25 (zi n) K (F + 1) (zi i) x = _
        rw [f9_readsSlate_L25, if_neg (show ¬ zi n ≤ zi i from by rw [zi_le (by omega) (by omega)]; omega), x2 0 (by decide), h5, if_pos (show zi 0 = (0 : Int32) from rfl), zin_i (by omega) (by omega), zin_i (by omega) (by omega), zlet_e, zi_cl (by omega), x2 2 (by decide), show zi i + (1 : Int32) = zi (i + 1) from zi_add i 1]
      · by_cases e : q = i
        · rw [e, zset_eq]
        · rw [zset_nj e]; exact x1 q (by omega))
    n 0 μ zF (by omega) (by unfold zF; omega) ⟨fun q hq => absurd hq (by omega), fun _ _ => rfl⟩
  exact ⟨μ', e1, e2, e3⟩
theorem m_slaF {k p : Nat} {x : Int32} {μ0 μ : zMem} (h5 : mF k p μ0 μ) (K : zMem → zRes) : f9_readsSlate_L25 x K zF (0 : Int32) μ = K μ := by
  obtain ⟨n, hn⟩ : ∃ n, zF = n + 1 := ⟨999999, rfl⟩
  rw [hn, f9_readsSlate_L25]
  by_cases e : x ≤ 0
  · rw [if_pos e]
  · rw [if_neg e, if_neg (mF_5 h5)]
theorem m_slate {c : Nat → Nat} {N a : Nat} {D : zN2} {μ : zMem} (hc : tx c N μ) (hA : mA N a μ) (h5 : μ 0 5 = zi 0) (hB : DB D) (hD : MD D μ) : ∃ μ', f9_readsSlate μ = some (0, zi 0, μ') ∧ mO (aSla c N D a) μ μ' := by
  have hQ := hB.1.1
  have hQ0 := hB.2.1
  unfold f9_readsSlate aSla
  simp only [z60, z65, tkn0, tkn5, hD.1.1]
  obtain ⟨x, μ1, d1, d2, d3, d6⟩ := m_digits (c := c) (N := N) (a := a) (G := D 2 0) (few := 1) (most := 7) (x1 := zi (D 2 0) - (1 : Int32)) hc hA h5 (by omega) (by omega) (fun v hv => by
    rw [show zi (D 2 0) - (1 : Int32) = zi (D 2 0 - 1) from zi_sub hQ0, zi_lt (by omega) (by omega)]
    apply propext; omega)
  rw [show f9_digits (zi (D 2 0) - (1 : Int32)) (1 : Int32) (7 : Int32) μ = _ from d1, bnd0_ok, zlet_e, zlet_e]
  rcases hd : aDig c N (D 2 0) 1 7 a with ⟨k, p⟩ | ⟨b, e⟩
  · rw [hd] at d2
    have hk := (aDig_l hA.2.2 hd).1
    have hF := (mF_d d3 d2 (by omega)).sd (k' := 3) (j := 5) (v := x) (by unfold dk9; omega)
    rw [m_slaF hF]
    exact ⟨_, rfl, hF⟩
  · rw [hd] at d2
    obtain ⟨g1, g2, g3, g4⟩ := d2
    obtain ⟨k1, k2, k3, k4, k5⟩ := aDig_r hA.2.2 hd
    subst g1
    obtain ⟨μ2, l1, l2, l3⟩ := m_slaL (n := e - b) (μ := zset μ1 3 5 (zi (e - b))) k4 (by rw [zset_nk (by decide)]; exact g3) (fun (μ6 : zMem) => some (0, (0 : Int32), μ6))
    have f0 : rfM μ μ1 := d3.mono (fun _ hj => hj) (fun _ hk => Or.inl hk)
    have g : ∀ key, key ≠ 0 → key ≠ 3 → key ≠ 2 → key ≠ 46 → μ2 key = μ key := fun key h1 h2 h3 h4 => by rw [l3 key h4, zset_nk h2, d3.1 key h1 h3]
    have g3' : ∀ j, j ≠ 5 → μ2 3 j = μ 3 j := fun j hj => by rw [l3 3 (by decide), zset_nj hj, d3.1 3 (by decide) (by decide)]
    have r : ∀ k j, ¬ (k = 2 ∧ j = 5) → k ≠ 3 → dSl D (e - b) (dF c b (e - b)) k j = D k j := fun k j h1 h2 => by unfold dSl; rw [if_neg h1, if_neg h2]
    refine ⟨μ2, l1, ⟨fun k h1 h2 => ?_, fun j hj => ?_⟩, ?_, by rw [l3 0 (by decide), zset_nk (by decide)]; exact g2, by rw [l3 0 (by decide), zset_nk (by decide)]; exact g3, by rw [l3 0 (by decide), zset_nk (by decide)]; exact d6 g3⟩
    · unfold dk9 at h2
      exact g k h1 (by omega) (by omega) (by omega)
    · rw [l3 0 (by decide), zset_nk (by decide)]; exact f0.2 j hj
    obtain ⟨⟨D1, D2, D3, D4, D5, D6⟩, E2, E3, E4, E5⟩ := hD
    have hPb := hB.1.2.1
    have hDb := hB.1.2.2.1
    refine ⟨⟨?_, ?_, ?_, ?_, ?_, ?_⟩, fun i hi => ?_, fun p hp => ?_, fun p hp => ?_, fun d hd => ?_⟩
    · rw [r 2 0 (by decide) (by decide), g3' 0 (by decide)]; exact D1
    · rw [r 2 1 (by decide) (by decide), g3' 1 (by decide)]; exact D2
    · rw [r 2 2 (by decide) (by decide), g3' 2 (by decide)]; exact D3
    · rw [r 2 3 (by decide) (by decide), g3' 3 (by decide)]; exact D4
    · rw [r 2 4 (by decide) (by decide), g3' 4 (by decide)]; exact D5
    · rw [l3 3 (by decide), zset_eq]; rfl
    · have hi' : i < e - b := hi
      rw [l2 i hi', zset_nk (by decide), g4 i hi']
      show _ = zi (dF c b (e - b) i)
      rw [show dF c b (e - b) i = c (b + i) - 48 from if_pos hi']
    · rw [r 2 1 (by decide) (by decide)] at hp
      rw [r 2 0 (by decide) (by decide), r 5 p (by omega) (by decide), r 6 p (by omega) (by decide), g (6 + p) (by omega) (by omega) (by omega) (by omega)]
      have e3 := E3 p hp
      exact ⟨e3.1, e3.2.1, fun q hq => by rw [r (20 + p) q (by omega) (by omega)]; exact e3.2.2 q hq⟩
    · rw [r 7 p (by omega) (by decide), g 48 (by decide) (by decide) (by decide) (by decide)]; exact E4 p hp
    · rw [r 2 2 (by decide) (by decide)] at hd
      rw [r 8 d (by omega) (by decide), r 9 d (by omega) (by decide), r 10 d (by omega) (by decide), r 11 d (by omega) (by decide), g (25 + d) (by omega) (by omega) (by omega) (by omega)]; exact E5 d hd
