/-! THE PURE SIDE, 93: a TOWN is taken over, the class -/
theorem x_copyFrom {D : zN2} {μ : zMem} (hB : DB D) (hD : XD D μ) : ∃ μ', f7_copyFrom μ = some (0, zi 0, μ') ∧ XT D μ' ∧ (∀ p, p < D 2 1 → ∀ q, q < D 2 0 → μ' 4 (p * 4 + q) = zi (D (20 + p) q)) ∧ zfr (fun k => 2 ≤ k ∧ k < 12) μ μ' := by
  have hQ := hB.1.1
  have hP := hB.1.2.1
  have hd := hB.1.2.2.1
  have hs := hB.1.2.2.2.2.2.1
  unfold f7_copyFrom
  rw [zlet_e, zlet_e, zlet_e, zlet_e, zlet_e, zlet_e, zlet_e, zlet_e, zlet_e, zlet_e, zlet_e, zlet_e, zlet_e, zlet_e, zlet_e]
  obtain ⟨⟨D1, D2, D3, D4, D5, D6⟩, E2, E3, E4, E5⟩ := hD
  refine ⟨_, rfl, ⟨⟨?_, ?_, ?_, ?_, ?_, ?_⟩, fun i hi => ?_, fun p hp => ?_, fun p hp => ⟨?_, ?_⟩, fun d hd => ⟨?_, ?_, ?_, ?_⟩⟩, fun p hp q hq => ?_, ?_⟩
  · simp (disch := decide) only [zcpy_nk, zset_nk, zset_nj, zset_eq]; exact D1
  · simp (disch := decide) only [zcpy_nk, zset_nk, zset_nj, zset_eq]; exact D2
  · simp (disch := decide) only [zcpy_nk, zset_nk, zset_nj, zset_eq]; exact D3
  · simp (disch := decide) only [zcpy_nk, zset_nk, zset_nj, zset_eq]; exact D4
  · simp (disch := decide) only [zcpy_nk, zset_nk, zset_nj, zset_eq]; exact D5
  · simp (disch := decide) only [zcpy_nk, zset_nk, zset_nj, zset_eq]; exact D6
  · simp (disch := decide) only [zcpy_nk]; rw [zcpy_at, if_pos ⟨rfl, by omega⟩]; simp (disch := decide) only [zcpy_nk, zset_nk]; exact E2 i hi
  · simp (disch := decide) only [zcpy_nk]; rw [zcpy_at, if_pos ⟨rfl, by omega⟩]; simp (disch := decide) only [zcpy_nk, zset_nk]; exact (E4 p hp).2
  · simp (disch := decide) only [zcpy_nk]; rw [zcpy_at, if_pos ⟨rfl, by omega⟩]; simp (disch := decide) only [zcpy_nk, zset_nk]; exact (E3 p hp).1
  · simp (disch := decide) only [zcpy_nk]; rw [zcpy_at, if_pos ⟨rfl, by omega⟩]; simp (disch := decide) only [zcpy_nk, zset_nk]; exact (E4 p (by omega)).1
  · simp (disch := decide) only [zcpy_nk]; rw [zcpy_at, if_pos ⟨rfl, by omega⟩]; simp (disch := decide) only [zcpy_nk, zset_nk]; exact (E5 d hd).1
  · simp (disch := decide) only [zcpy_nk]; rw [zcpy_at, if_pos ⟨rfl, by omega⟩]; simp (disch := decide) only [zcpy_nk, zset_nk]; exact (E5 d hd).2.1
  · simp (disch := decide) only [zcpy_nk]; rw [zcpy_at, if_pos ⟨rfl, by omega⟩]; simp (disch := decide) only [zcpy_nk, zset_nk]; exact (E5 d hd).2.2.1
  · rw [zcpy_at, if_pos ⟨rfl, by omega⟩]; simp (disch := decide) only [zcpy_nk, zset_nk]; exact (E5 d hd).2.2.2
  · simp (disch := decide) only [zcpy_nk]; rw [zcpy_at, if_pos ⟨rfl, by omega⟩]; simp (disch := decide) only [zcpy_nk, zset_nk]; exact (E3 p hp).2 q hq
  · intro k hk
    simp (disch := omega) only [zcpy_nk, zset_nk]
theorem x_beginAnew {D : zN2} {μ : zMem} (hB : DB D) (hX : XT D μ) (h4 : ∀ p, p < D 2 1 → ∀ q, q < D 2 0 → μ 4 (p * 4 + q) = zi (D (20 + p) q)) : ∃ μ', f5_beginAnew 23 μ = some (0, zi 0, μ') ∧ XS D (tW D) 23 μ' ∧ μ' 23 9 = zi 0 ∧ zfr (fun k => 23 ≤ k ∧ k < 27) μ μ' := by
  have hQ := hB.1.1
  have hP := hB.1.2.1
  unfold f5_beginAnew
  rw [zlet_e, zlet_e, zlet_e, zlet_e, zlet_e, zlet_e]
  unfold f5_beginDay
  rw [zlet_e]
  have hx : ∀ μ2 : zMem, (∀ key, key < 12 → μ2 key = μ key) → f7_slateOf (0 : Int32) μ2 = some (0, zi (tS D 0), μ2) := fun μ2 h => x_slateOf (day := 0) hB.1 (XT_of h hX) (by decide)
  rw [hx _ (fun key hk => by simp (disch := omega) only [zcpy_nk, zset_nk]), bnd0_ok, zlet_e, x_fill (by decide), bnd0_ok, bnd0_ok]
  obtain ⟨⟨D1, D2, D3, D4, D5, D6⟩, E2, E3, E4, E5⟩ := hX
  refine ⟨_, rfl, ⟨⟨?_, ?_, ?_, ?_, ?_⟩, fun p hp => ⟨?_, ?_, fun q hq => ?_⟩⟩, ?_, ?_⟩
  · simp (disch := decide) only [zfil_nk, zcpy_nk, zset_nk, zset_nj, zset_eq]; rfl
  · simp (disch := decide) only [zfil_nk, zcpy_nk, zset_nk, zset_nj, zset_eq]; rfl
  · simp (disch := decide) only [zfil_nk, zcpy_nk, zset_nk, zset_nj, zset_eq]; exact D4
  · simp (disch := decide) only [zfil_nk, zcpy_nk, zset_nk, zset_nj, zset_eq]; exact D2
  · simp (disch := decide) only [zfil_nk, zcpy_nk, zset_nk, zset_nj, zset_eq]; rfl
  · have hp' : p < D 2 1 := hp
    rw [zfil_at, if_pos ⟨rfl, by omega⟩]
    simp (disch := decide) only [zcpy_nk, zset_nk]; exact D5
  · have hp' : p < D 2 1 := hp
    simp (disch := decide) only [zfil_nk, zset_nk]
    rw [zcpy_at, if_pos ⟨rfl, by omega⟩]
    simp (disch := decide) only [zcpy_nk, zset_nk]; exact (E4 p hp').1
  · have hp' : p < D 2 1 := hp
    simp (disch := decide) only [zfil_nk, zset_nk, zcpy_nk]
    rw [zcpy_at, if_pos ⟨rfl, by omega⟩, tW_4]
    simp (disch := decide) only [zset_nk]; exact h4 p hp' q hq
  · simp (disch := decide) only [zfil_nk, zset_nk, zset_nj, zset_eq]; rfl
  · intro k hk
    simp (disch := omega) only [zfil_nk, zcpy_nk, zset_nk]
/-! the reference -/
theorem m_taken {D : zN2} {μ : zMem} (hB : DB D) (hD : MD D μ) (h49 : μ 49 8 = zi 0) (h30 : μ 0 30 = zN1) :
    ∃ μ', f9_town_L119 (fun (μ27 : zMem) => f9_town_L145 (fun (μ38 : zMem) => f9_town_L189 (fun (μ44 : zMem) => f9_town_L215 (fun (μ55 : zMem) => f9_town_L258 (fun (μ61 : zMem) => zlet (zset μ61 0 20 (0 : Int32)) (fun (μ62 : zMem) => zlet (zset μ62 0 21 (0 : Int32)) (fun (μ63 : zMem) => zlet (zset μ63 0 22 (0 : Int32)) (fun (μ64 : zMem) => f9_town_L299 (fun (μ75 : zMem) => f9_town_L342 (fun (μ80 : zMem) => bnd0 (f9_dawns μ80) (fun (v81 : Int32) (μ82 : zMem) => zin (1 : Int32) 6 (some (0, μ82 4 (1 : Int32).toNatClampNeg, μ82)))) zF (0 : Int32) μ75) zF (0 : Int32) μ64)))) zF (0 : Int32) μ55) zF (0 : Int32) μ44) zF (0 : Int32) μ38) zF (0 : Int32) μ27) zF (0 : Int32) μ = some (0, zi (D 2 1), μ')
      ∧ MT D μ' ∧ MS D (tW D) μ' ∧ μ' 0 21 = zi 0 ∧ μ' 0 22 = zi 0 ∧ (∀ j, j ≠ 20 → j ≠ 21 → j ≠ 22 → μ' 0 j = μ 0 j) := by
  have hQ := hB.1.1
  have hP := hB.1.2.1
  have hd := hB.1.2.2.1
  have hs := hB.1.2.2.2.2.2.1
  obtain ⟨⟨D1, D2, D3, D4, D5, D6⟩, E2, E3, E4, E5⟩ := hD
  obtain ⟨a1, r1, a2, a3⟩ := c_119 μ (fun (μ27 : zMem) => f9_town_L145 (fun (μ38 : zMem) => f9_town_L189 (fun (μ44 : zMem) => f9_town_L215 (fun (μ55 : zMem) => f9_town_L258 (fun (μ61 : zMem) => zlet (zset μ61 0 20 (0 : Int32)) (fun (μ62 : zMem) => zlet (zset μ62 0 21 (0 : Int32)) (fun (μ63 : zMem) => zlet (zset μ63 0 22 (0 : Int32)) (fun (μ64 : zMem) => f9_town_L299 (fun (μ75 : zMem) => f9_town_L342 (fun (μ80 : zMem) => bnd0 (f9_dawns μ80) (fun (v81 : Int32) (μ82 : zMem) => zin (1 : Int32) 6 (some (0, μ82 4 (1 : Int32).toNatClampNeg, μ82)))) zF (0 : Int32) μ75) zF (0 : Int32) μ64)))) zF (0 : Int32) μ55) zF (0 : Int32) μ44) zF (0 : Int32) μ38) zF (0 : Int32) μ27)
  obtain ⟨b1, r2, b2, b3⟩ := c_145 a1 (fun (μ38 : zMem) => f9_town_L189 (fun (μ44 : zMem) => f9_town_L215 (fun (μ55 : zMem) => f9_town_L258 (fun (μ61 : zMem) => zlet (zset μ61 0 20 (0 : Int32)) (fun (μ62 : zMem) => zlet (zset μ62 0 21 (0 : Int32)) (fun (μ63 : zMem) => zlet (zset μ63 0 22 (0 : Int32)) (fun (μ64 : zMem) => f9_town_L299 (fun (μ75 : zMem) => f9_town_L342 (fun (μ80 : zMem) => bnd0 (f9_dawns μ80) (fun (v81 : Int32) (μ82 : zMem) => zin (1 : Int32) 6 (some (0, μ82 4 (1 : Int32).toNatClampNeg, μ82)))) zF (0 : Int32) μ75) zF (0 : Int32) μ64)))) zF (0 : Int32) μ55) zF (0 : Int32) μ44) zF (0 : Int32) μ38)
  obtain ⟨d1, r3, d2, d4, d3⟩ := c_189 b1 (fun (μ44 : zMem) => f9_town_L215 (fun (μ55 : zMem) => f9_town_L258 (fun (μ61 : zMem) => zlet (zset μ61 0 20 (0 : Int32)) (fun (μ62 : zMem) => zlet (zset μ62 0 21 (0 : Int32)) (fun (μ63 : zMem) => zlet (zset μ63 0 22 (0 : Int32)) (fun (μ64 : zMem) => f9_town_L299 (fun (μ75 : zMem) => f9_town_L342 (fun (μ80 : zMem) => bnd0 (f9_dawns μ80) (fun (v81 : Int32) (μ82 : zMem) => zin (1 : Int32) 6 (some (0, μ82 4 (1 : Int32).toNatClampNeg, μ82)))) zF (0 : Int32) μ75) zF (0 : Int32) μ64)))) zF (0 : Int32) μ55) zF (0 : Int32) μ44)
  obtain ⟨e1, r4, e2, e3⟩ := c_215 d1 (fun (μ55 : zMem) => f9_town_L258 (fun (μ61 : zMem) => zlet (zset μ61 0 20 (0 : Int32)) (fun (μ62 : zMem) => zlet (zset μ62 0 21 (0 : Int32)) (fun (μ63 : zMem) => zlet (zset μ63 0 22 (0 : Int32)) (fun (μ64 : zMem) => f9_town_L299 (fun (μ75 : zMem) => f9_town_L342 (fun (μ80 : zMem) => bnd0 (f9_dawns μ80) (fun (v81 : Int32) (μ82 : zMem) => zin (1 : Int32) 6 (some (0, μ82 4 (1 : Int32).toNatClampNeg, μ82)))) zF (0 : Int32) μ75) zF (0 : Int32) μ64)))) zF (0 : Int32) μ55)
  obtain ⟨g1, r5, g2, g3⟩ := c_258 e1 (fun (μ61 : zMem) => zlet (zset μ61 0 20 (0 : Int32)) (fun (μ62 : zMem) => zlet (zset μ62 0 21 (0 : Int32)) (fun (μ63 : zMem) => zlet (zset μ63 0 22 (0 : Int32)) (fun (μ64 : zMem) => f9_town_L299 (fun (μ75 : zMem) => f9_town_L342 (fun (μ80 : zMem) => bnd0 (f9_dawns μ80) (fun (v81 : Int32) (μ82 : zMem) => zin (1 : Int32) 6 (some (0, μ82 4 (1 : Int32).toNatClampNeg, μ82)))) zF (0 : Int32) μ75) zF (0 : Int32) μ64))))
  obtain ⟨h1, r6, h2, h3⟩ := c_299 (zset (zset (zset g1 0 20 (0 : Int32)) 0 21 (0 : Int32)) 0 22 (0 : Int32)) (fun (μ75 : zMem) => f9_town_L342 (fun (μ80 : zMem) => bnd0 (f9_dawns μ80) (fun (v81 : Int32) (μ82 : zMem) => zin (1 : Int32) 6 (some (0, μ82 4 (1 : Int32).toNatClampNeg, μ82)))) zF (0 : Int32) μ75)
  obtain ⟨i1, r7, i2, i3⟩ := c_342 h1 (fun (μ80 : zMem) => bnd0 (f9_dawns μ80) (fun (v81 : Int32) (μ82 : zMem) => zin (1 : Int32) 6 (some (0, μ82 4 (1 : Int32).toNatClampNeg, μ82))))
  obtain ⟨j1, r8, j2, j3⟩ := c_dawns i1
  -- what stands where
  have k4 : ∀ j, j < 6 → j1 4 j = μ 3 j := fun j hj => by
    rw [j3 4 (by decide), i3 4 (by decide), h3 4 (by decide), zset_nk (by decide), zset_nk (by decide), zset_nk (by decide), g3 4 (by decide), e3 4 (by decide), d3 4 (by decide), b3 4 (by decide)]; exact a2 j hj
  have k15 : ∀ p, p < 8 → ∀ j, j < 6 → j1 (15 + p) j = μ (6 + p) j := fun p hp j hj => by
    rw [j3 (15 + p) (by omega), i3 (15 + p) (by omega), h3 (15 + p) (by omega), zset_nk (by omega), zset_nk (by omega), zset_nk (by omega), g3 (15 + p) (by omega), e3 (15 + p) (by omega), d3 (15 + p) (by omega), b2 p hp j hj, a3 (6 + p) (by omega)]
  have k49 : ∀ p, p < 8 → j1 49 p = μ 48 p := fun p hp => by
    rw [j3 49 (by decide), i3 49 (by decide), h3 49 (by decide), zset_nk (by decide), zset_nk (by decide), zset_nk (by decide), g3 49 (by decide), e3 49 (by decide), d2 p hp, b3 48 (by decide), a3 48 (by decide)]
  have k498 : j1 49 8 = zi 0 := by
    rw [j3 49 (by decide), i3 49 (by decide), h3 49 (by decide), zset_nk (by decide), zset_nk (by decide), zset_nk (by decide), g3 49 (by decide), e3 49 (by decide), d4 8 (by decide), b3 49 (by decide), a3 49 (by decide)]; exact h49
  have k36 : ∀ d, d < 10 → ∀ j, j < 4 → j1 (36 + d) j = μ (25 + d) j := fun d hd j hj => by
    rw [j3 (36 + d) (by omega), i3 (36 + d) (by omega), h3 (36 + d) (by omega), zset_nk (by omega), zset_nk (by omega), zset_nk (by omega), g3 (36 + d) (by omega), e2 d hd j hj, d3 (25 + d) (by omega), b3 (25 + d) (by omega), a3 (25 + d) (by omega)]
  have k47 : ∀ i, i < 7 → j1 47 i = μ 46 i := fun i hi => by
    rw [j3 47 (by decide), i3 47 (by decide), h3 47 (by decide), zset_nk (by decide), zset_nk (by decide), zset_nk (by decide), g2 i hi, e3 46 (by decide), d3 46 (by decide), b3 46 (by decide), a3 46 (by decide)]
  have k51 : ∀ p, p < 8 → ∀ j, j < 4 → j1 (51 + p) j = μ (6 + p) j := fun p hp j hj => by
    rw [j3 (51 + p) (by omega), i3 (51 + p) (by omega), h2 p hp j hj, zset_nk (by omega), zset_nk (by omega), zset_nk (by omega), g3 (15 + p) (by omega), e3 (15 + p) (by omega), d3 (15 + p) (by omega), b2 p hp j (by omega), a3 (6 + p) (by omega)]
  have k92 : ∀ d, d < 10 → j1 92 d = zi 0 := fun d hd => by rw [j3 92 (by decide)]; exact i2 d hd
  have k91 : ∀ p, p < 9 → j1 91 p = μ 3 4 := fun p hp => by
    rw [j2 p hp, i3 4 (by decide), h3 4 (by decide), zset_nk (by decide), zset_nk (by decide), zset_nk (by decide), g3 4 (by decide), e3 4 (by decide), d3 4 (by decide), b3 4 (by decide)]; exact a2 4 (by decide)
  have k0 : j1 0 = zset (zset (zset μ 0 20 (0 : Int32)) 0 21 (0 : Int32)) 0 22 (0 : Int32) 0 := by
    rw [j3 0 (by decide), i3 0 (by decide), h3 0 (by decide)]
    funext j
    by_cases c22 : j = 22
    · rw [c22, zset_eq, zset_eq]
    · rw [zset_nj c22, zset_nj c22]
      by_cases c21 : j = 21
      · rw [c21, zset_eq, zset_eq]
      · rw [zset_nj c21, zset_nj c21]
        by_cases c20 : j = 20
        · rw [c20, zset_eq, zset_eq]
        · rw [zset_nj c20, zset_nj c20, g3 0 (by decide), e3 0 (by decide), d3 0 (by decide), b3 0 (by decide), a3 0 (by decide)]
  have c7 : D 7 8 = 0 := hB.1.2.2.2.2.2.2.2.2.2.2.2.1 8 hP
  refine ⟨j1, ?_, ⟨⟨?_, ?_, ?_, ?_, ?_⟩, fun i hi => ?_, fun p hp => ?_, fun p hp => ?_, fun d hd' => ?_⟩, ⟨⟨?_, ?_, ?_⟩, fun p hp => ⟨?_, fun q hq => ?_⟩, fun p hp => ?_, fun d hd' => ?_⟩, ?_, ?_, fun j w1 w2 w3 => ?_⟩
  · refine r1.trans (r2.trans (r3.trans (r4.trans (r5.trans ?_))))
    rw [zlet_e, zlet_e, zlet_e]
    refine r6.trans (r7.trans ?_)
    rw [r8, bnd0_ok, z61, tkn1, k4 1 (by decide), D2]
  · rw [k4 0 (by decide)]; exact D1
  · rw [k4 1 (by decide)]; exact D2
  · rw [k4 2 (by decide)]; exact D3
  · rw [k4 4 (by decide)]; exact D5
  · rw [k4 5 (by decide)]; exact D6
  · rw [k47 i (by omega)]; exact E2 i hi
  · by_cases p8 : p = 8
    · rw [p8, k498, c7]
    · rw [k49 p (by omega)]; exact E4 p (by omega)
  · rw [k15 p (by omega) 5 (by decide)]; exact (E3 p hp).2.1
  · rw [k36 d (by omega) 0 (by decide), k36 d (by omega) 1 (by decide), k36 d (by omega) 2 (by decide), k36 d (by omega) 3 (by decide)]; exact E5 d hd'
  · rw [k0, zset_nj (by decide), zset_nj (by decide), zset_eq]; rfl
  · refine Or.inl ⟨?_, rfl⟩
    rw [k0, zset_nj (by decide), zset_nj (by decide), zset_nj (by decide)]; exact h30
  · rw [k4 3 (by decide)]; exact D4
  · have hp' : p < D 2 1 := hp
    rw [k91 p (by omega)]; exact D5
  · have hp' : p < D 2 1 := hp
    rw [k51 p (by omega) q (by omega), tW_4]; exact (E3 p hp').2.2 q hq
  · rw [k15 p (by omega) 4 (by decide)]; exact (E3 p hp).1
  · rw [k92 d hd', if_neg (by rw [show tW D 0 4 = 0 from rfl, Nat.zero_testBit]; decide)]
  · rw [k0, zset_nj (by decide), zset_eq]; rfl
  · rw [k0, zset_eq]; rfl
  · rw [k0, zset_nj w3, zset_nj w2, zset_nj w1]
