/-! THE PURE SIDE, 94: TOWN -/
theorem zInv_tape {μX μM : zMem} {v : Int32} (h : zInv μX μM) : zInv (zset (zset μX 0 1 (zi 0)) 0 2 v) (zset (zset μM 0 1 (zi 0)) 0 3 v) := by
  obtain ⟨T, W, r, R, n, m, WI, rI, RI, ⟨hT, hW, hL, hX, hM, hS, hS', h30, hB, hR, hR'⟩, ⟨t1, t2, t3, t4⟩, hf, i1, i2, i3, i4⟩ := h
  have ex : ∀ k, k ≠ 0 → zset (zset μX 0 1 (zi 0)) 0 2 v k = μX k := fun k hk => by rw [zset_nk hk, zset_nk hk]
  have em : ∀ k, k ≠ 0 → zset (zset μM 0 1 (zi 0)) 0 3 v k = μM k := fun k hk => by rw [zset_nk hk, zset_nk hk]
  have em0 : ∀ j, j ≠ 1 → j ≠ 3 → zset (zset μM 0 1 (zi 0)) 0 3 v 0 j = μM 0 j := fun j h1 h3 => by rw [zset_nj h3, zset_nj h1]
  refine ⟨T, W, r, R, 0, m, WI, rI, RI, ⟨hT, hW, hL, XT_of2 (fun key h1 h2 => ex key (by omega)) hX, ?_, XS_of (fun key h1 h2 => ex key (by omega)) hS, ?_, by rw [em0 30 (by decide) (by decide)]; exact h30, hB, XR_of (by rw [ex 23 (by decide)]) (ex _ (by decide)) hR, MR_of (em0 21 (by decide) (by decide)) (fun i hi => em _ (by omega)) hB.1 hR'⟩, ⟨by decide, by rw [zset_nj (by decide), zset_eq], by rw [zset_nj (by decide), zset_eq], fun j hj => absurd hj (by omega)⟩, by rw [zset_eq, zset_eq], i1, by rw [zset_nj (by decide), zset_nj (by decide)]; exact i2, by rw [em0 22 (by decide) (by decide)]; exact i3, fun i hi => ?_⟩
  · exact MT_at (fun j _ => by rw [em 4 (by decide)]) (em 47 (by decide)) (em 49 (by decide)) (fun p hp => by rw [em (15 + p) (by omega)]) (fun d hd => em (36 + d) (by omega)) hT hM
  · exact MS_at (em0 20 (by decide) (by decide)) (em0 30 (by decide) (by decide)) (by rw [em 4 (by decide)]) (em 91 (by decide)) (em 92 (by decide)) (fun p hp => em (51 + p) (by omega)) (fun p hp => by rw [em (15 + p) (by omega)]) hT hW hS'
  · obtain ⟨j1, j2, j3, j4, j5, j6⟩ := i4 i hi
    refine ⟨j1, j2, j3, XS_of (fun key h1 h2 => ex key (by omega)) j4, ?_, ?_⟩
    · unfold XR; rw [ex (34 + 5 * i) (by omega), ex (34 + 5 * i + 4) (by omega)]; exact j5
    · unfold KI; rw [em (94 + i) (by omega)]; exact j6
theorem P_town {x : Int32} {μX μM : zMem} (h : zInv μX μM) : zPm cI (f8_town x μX) (f9_town x μM) := by
  have h' := h
  obtain ⟨T, W, r, R, n, m, WI, rI, RI, ⟨hT, hW, hL, hX, hM, hS, hS', h30, hB, hR, hR'⟩, ⟨t1, t2, t3, t4⟩, hf, i1, i2, i3, i4⟩ := h
  have z0 : zi 0 = (0 : Int32) := rfl
  have e01 : zset μM 0 0 (0 : Int32) 0 1 = zi n := by rw [zset_nj (by decide)]; exact t3
  rcases zcase x (n + 1) (by omega) with ⟨N, hN, rfl⟩ | hx
  · -- a text is read
    have hc0 : ∀ j, j < n → (μX 1 j).toNatClampNeg < 256 ∧ μX 1 j = zi (μX 1 j).toNatClampNeg ∧ μM 1 j = zi (μX 1 j).toNatClampNeg := fun j hj => by
      obtain ⟨c, c1, c2, c3⟩ := t4 j hj
      rw [c2, zi_cl (by omega)]
      exact ⟨c1, rfl, c3⟩
    generalize hcc : (fun j => (μX 1 j).toNatClampNeg) = c at *
    have hc : ∀ j, j < n → c j < 256 ∧ μX 1 j = zi (c j) ∧ μM 1 j = zi (c j) := fun j hj => by rw [← hcc]; exact hc0 j hj
    have tX : tx c N (zset μX 0 1 (0 : Int32)) := ⟨by omega, fun j hj => by rw [zset_nk (by decide)]; exact ⟨(hc j (by omega)).1, (hc j (by omega)).2.1⟩⟩
    obtain ⟨μ8, a1, a2, a3⟩ := x_town tX
    have run8 : f8_town (zi N) μX = if μ8 22 4 = 0 then zlet (zset μ8 0 2 (-1 : Int32)) (fun (μ11 : zMem) => bnd0 (f7_copyFrom μ11) (fun (v12 : Int32) (μ13 : zMem) => bnd0 (f5_beginAnew 23 μ13) (fun (v14 : Int32) (μ15 : zMem) => zlet (zset μ15 0 9 (0 : Int32)) (fun (μ16 : zMem) => some (0, μ16 2 1, μ16))))) else zlet (zset μ8 0 2 (μ8 22 5)) (fun (μ17 : zMem) => some (0, μ8 22 4 - (10 : Int32), μ17)) := by
      unfold f8_town
      rw [zlet_e, if_neg (show ¬ zi N < (0 : Int32) from by rw [show (0 : Int32) = zi 0 from rfl, zi_lt (by omega) (by omega)]; omega), t2, if_pos (show zi N ≤ zi n from by rw [zi_le (by omega) (by omega)]; omega), zlet_e, a1, bnd0_ok]
    -- the reference
    have f0 : mfr (fun j => j = 0 ∨ j = 1 ∨ j = 2 ∨ j = 4 ∨ j = 5 ∨ j = 6) (fun _ => False) μM (zset (zset (zset (zset (zset (zset μM 0 0 (0 : Int32)) 0 1 (0 : Int32)) 0 2 (zi N)) 0 4 (0 : Int32)) 0 5 (0 : Int32)) 0 6 (-1 : Int32)) := (((((mfr.refl.set0 (by decide)).set0 (by decide)).set0 (by decide)).set0 (by decide)).set0 (by decide)).set0 (by decide)
    have tM : tx c N (zset (zset (zset (zset (zset (zset μM 0 0 (0 : Int32)) 0 1 (0 : Int32)) 0 2 (zi N)) 0 4 (0 : Int32)) 0 5 (0 : Int32)) 0 6 (-1 : Int32)) := ⟨by omega, fun j hj => by rw [f0.1 1 (by decide) (fun q => q)]; exact ⟨(hc j (by omega)).1, (hc j (by omega)).2.2⟩⟩
    have aM : mA N 0 (zset (zset (zset (zset (zset (zset μM 0 0 (0 : Int32)) 0 1 (0 : Int32)) 0 2 (zi N)) 0 4 (0 : Int32)) 0 5 (0 : Int32)) 0 6 (-1 : Int32)) := ⟨rfl, rfl, by omega⟩
    have g5 : zset (zset (zset (zset (zset (zset μM 0 0 (0 : Int32)) 0 1 (0 : Int32)) 0 2 (zi N)) 0 4 (0 : Int32)) 0 5 (0 : Int32)) 0 6 (-1 : Int32) 0 5 = zi 0 := rfl
    have g0 : zset (zset (zset (zset (zset (zset μM 0 0 (0 : Int32)) 0 1 (0 : Int32)) 0 2 (zi N)) 0 4 (0 : Int32)) 0 5 (0 : Int32)) 0 6 (-1 : Int32) 0 0 = zi 0 := rfl
    have g1 : zset (zset (zset (zset (zset (zset μM 0 0 (0 : Int32)) 0 1 (0 : Int32)) 0 2 (zi N)) 0 4 (0 : Int32)) 0 5 (0 : Int32)) 0 6 (-1 : Int32) 0 1 = zi 0 := rfl
    have g6 : zset (zset (zset (zset (zset (zset μM 0 0 (0 : Int32)) 0 1 (0 : Int32)) 0 2 (zi N)) 0 4 (0 : Int32)) 0 5 (0 : Int32)) 0 6 (-1 : Int32) 0 6 = (-1 : Int32) := rfl
    have run9 : ∀ μM1, zset (zset (zset (zset (zset (zset μM 0 0 (0 : Int32)) 0 1 (0 : Int32)) 0 2 (zi N)) 0 4 (0 : Int32)) 0 5 (0 : Int32)) 0 6 (-1 : Int32) = μM1 → tx c N μM1 → mA N 0 μM1 → μM1 0 5 = zi 0 → ∃ μ18, mL9 (aTown c N) μM1 μ18 ∧ f9_town (zi N) μM = zlet (zset μ18 0 3 (μ18 0 6)) (fun (μ19 : zMem) => if (μ19 0 5) = 0 then f9_town_L119 (fun (μ27 : zMem) => f9_town_L145 (fun (μ38 : zMem) => f9_town_L189 (fun (μ44 : zMem) => f9_town_L215 (fun (μ55 : zMem) => f9_town_L258 (fun (μ61 : zMem) => zlet (zset μ61 0 20 (0 : Int32)) (fun (μ62 : zMem) => zlet (zset μ62 0 21 (0 : Int32)) (fun (μ63 : zMem) => zlet (zset μ63 0 22 (0 : Int32)) (fun (μ64 : zMem) => f9_town_L299 (fun (μ75 : zMem) => f9_town_L342 (fun (μ80 : zMem) => bnd0 (f9_dawns μ80) (fun (v81 : Int32) (μ82 : zMem) => zin (1 : Int32) 6 (some (0, μ82 4 (1 : Int32).toNatClampNeg, μ82)))) zF (0 : Int32) μ75) zF (0 : Int32) μ64)))) zF (0 : Int32) μ55) zF (0 : Int32) μ44) zF (0 : Int32) μ38) zF (0 : Int32) μ27) zF (0 : Int32) μ19 else some (0, (μ19 0 5) - (10 : Int32), μ19)) := fun μM1 hm tM aM g5 => by
      obtain ⟨μ18, p1, p2⟩ := m_parse tM aM g5 (fun (μ18 : zMem) => zlet (zset μ18 0 3 (μ18 0 6)) (fun (μ19 : zMem) => if (μ19 0 5) = 0 then f9_town_L119 (fun (μ27 : zMem) => f9_town_L145 (fun (μ38 : zMem) => f9_town_L189 (fun (μ44 : zMem) => f9_town_L215 (fun (μ55 : zMem) => f9_town_L258 (fun (μ61 : zMem) => zlet (zset μ61 0 20 (0 : Int32)) (fun (μ62 : zMem) => zlet (zset μ62 0 21 (0 : Int32)) (fun (μ63 : zMem) => zlet (zset μ63 0 22 (0 : Int32)) (fun (μ64 : zMem) => f9_town_L299 (fun (μ75 : zMem) => f9_town_L342 (fun (μ80 : zMem) => bnd0 (f9_dawns μ80) (fun (v81 : Int32) (μ82 : zMem) => zin (1 : Int32) 6 (some (0, μ82 4 (1 : Int32).toNatClampNeg, μ82)))) zF (0 : Int32) μ75) zF (0 : Int32) μ64)))) zF (0 : Int32) μ55) zF (0 : Int32) μ44) zF (0 : Int32) μ38) zF (0 : Int32) μ27) zF (0 : Int32) μ19 else some (0, (μ19 0 5) - (10 : Int32), μ19)))
      refine ⟨μ18, p2, ?_⟩
      unfold f9_town
      rw [zlet_e, e01, m_in_ok (show ¬ zi N < (0 : Int32) from by rw [show (0 : Int32) = zi 0 from rfl, zi_lt (by omega) (by omega)]; omega) (by rw [zi_lt (by omega) (by omega)]; omega), bnd0_ok, zlet_e, if_neg (show ¬ zi 1 = (0 : Int32) from by decide)]
      show bnd0 (f9_bad (zi 0) (1 : Int32) _) _ = _
      rw [m_bad0 (μ := zset μM 0 0 (0 : Int32)) zset_eq, bnd0_ok, if_pos z0, zlet_e, zlet_e, zlet_e, zlet_e, zlet_e, hm]
      exact p1
    obtain ⟨μ18, p2, p3⟩ := run9 _ rfl tM aM g5
    have cI0 : cI 0 = 0 := rfl
    generalize zset (zset (zset (zset (zset (zset μM 0 0 (0 : Int32)) 0 1 (0 : Int32)) 0 2 (zi N)) 0 4 (0 : Int32)) 0 5 (0 : Int32)) 0 6 (-1 : Int32) = μM1 at f0 g0 g1 g6 p2
    rw [run8, p3]
    obtain ⟨fc, p2⟩ := p2
    have eM : ∀ k, k ≠ 0 → k ≠ 2 → ¬ dk9 k → μ18 k = μM k := fun k h1 h2 h3 => by rw [fc.1 k h1 (fun q => q.elim h2 h3), f0.1 k h1 (fun q => q)]
    have eM0 : ∀ j, 7 < j → μ18 0 j = μM 0 j := fun j hj => by rw [fc.2 j (by omega), f0.2 j (by omega)]
    have e181 : μ18 0 1 = zi 0 := by rw [fc.2 1 (by decide)]; exact g1
    have e180 : μ18 0 0 = zi 0 := by rw [fc.2 0 (by decide)]; exact g0
    rcases hT' : aTown c N with ⟨k, p⟩ | ⟨e', D⟩
    · rw [hT'] at a3 p2
      obtain ⟨q1, q2, q3, q4⟩ := p2
      have e5 : zset μ18 0 3 (μ18 0 6) 0 5 = zi k := by rw [zset_nj (by decide)]; exact q1
      rw [a3.1, if_neg (zne q3 q4), zlet_e, zlet_e, e5, if_neg (zne q3 q4), a3.2, q2]
      refine ⟨0, _, _, _, _, rfl, rfl, by rw [zset_nj (by decide)]; exact e180, fun _ => rfl, Or.inl rfl, ?_⟩
      refine zInv_q (zInv_tape (v := zi p) h') (fun k hk => ?_) ⟨⟨?_, ?_, ?_, ?_⟩, fun key j hk => ?_, fun key hk => ?_⟩
      · unfold zsx at hk
        by_cases k0 : k = 0
        · rw [k0]
          funext j
          by_cases j2 : j = 2
          · rw [j2, zset_eq, zset_eq]
          · rw [zset_nj j2, zset_nj j2, a2 0 (by decide)]; rfl
        · rw [zset_nk k0, zset_nk k0, zset_nk k0, a2 k (by omega), zset_nk k0]
      · rw [zset_nj (by decide), zset_nj (by decide), zset_eq]; exact e181
      · rw [zset_eq, zset_eq]
      · rw [zset_nj (by decide), zset_nj (by decide), zset_nj (by decide)]; exact eM0 22 (by decide)
      · rw [zset_nj (by decide), zset_nj (by decide), zset_nj (by decide)]; exact eM0 30 (by decide)
      · by_cases k0 : key = 0
        · have hj : j = 20 ∨ j = 21 := by
            by_cases j20 : j = 20
            · exact Or.inl j20
            · by_cases j21 : j = 21
              · exact Or.inr j21
              · rw [k0, kidx_0 j20 j21] at hk; omega
          rw [k0, zset_nj (by omega), zset_nj (by omega), zset_nj (by omega)]
          exact eM0 j (by omega)
        · rw [zset_nk k0, zset_nk k0, zset_nk k0, eM key k0 ?_ ?_]
          · intro q; rw [q] at hk; revert hk; unfold kidx; rw [if_neg (by omega), if_neg (by omega), if_neg (by omega), if_neg (by omega), if_neg (by omega), if_neg (by omega)]; omega
          · intro q
            unfold dk9 at q
            revert hk; unfold kidx; rw [if_neg (by omega), if_neg (by omega), if_neg (by omega), if_neg (by omega), if_neg (by omega), if_neg (by omega)]; omega
      · unfold zmk at hk
        rw [zset_nk (by omega), zset_nk (by omega), zset_nk (by omega), eM key (by omega) (by omega) (by unfold dk9; omega)]
    · rw [hT'] at a3 p2
      obtain ⟨hXD, a4, hDB⟩ := a3
      obtain ⟨hMD, -, q5, q6⟩ := p2
      have e5 : zset μ18 0 3 (μ18 0 6) 0 5 = (0 : Int32) := by rw [zset_nj (by decide)]; exact q5
      rw [if_pos (show μ8 22 4 = (0 : Int32) from a4), zlet_e, zlet_e, if_pos e5]
      have hPP := hT.2.1
      -- the class
      obtain ⟨μ13, b1, b2, b3, b4⟩ := x_copyFrom (μ := zset μ8 0 2 (-1 : Int32)) hDB (XD_of (fun k h1 h2 => zset_nk (by omega)) hXD)
      obtain ⟨μ15, c1, c2, c3, c4⟩ := x_beginAnew hDB b2 b3
      rw [b1, bnd0_ok, c1, bnd0_ok, zlet_e]
      -- the reference
      obtain ⟨μ9, d1, d2, d3, d4, d5, d6⟩ := m_taken (μ := zset μ18 0 3 (μ18 0 6)) hDB (MD_of hDB (fun k hk => zset_nk (by unfold dk9 at hk; omega)) hMD) (by rw [zset_nk (by decide), eM 49 (by decide) (by decide) (by unfold dk9; omega), hM.2.2.1 8 (by decide), hT.2.2.2.2.2.2.2.2.2.2.2.1 8 hPP]) (by rw [zset_nj (by decide), eM0 30 (by decide)]; exact h30)
      have x15 : XT D (zset μ15 0 9 (0 : Int32)) := XT_of2 (fun key h1 h2 => by rw [zset_nk (by omega), c4 key (by omega)]) b2
      have x0 : ∀ j, j ≠ 9 → j ≠ 2 → zset μ15 0 9 (0 : Int32) 0 j = zset μX 0 1 (0 : Int32) 0 j := fun j h1 h2 => by rw [zset_nj h1, c4 0 (by decide), b4 0 (by decide), zset_nj h2, a2 0 (by decide)]
      obtain ⟨w1, w2⟩ := tW_WB hDB
      refine ⟨0, zi (D 2 1), zset μ15 0 9 (0 : Int32), zi (D 2 1), μ9, by rw [x15.1.2.1], d1, ?_, fun _ => rfl, Or.inl rfl, D, tW D, 0, R, 0, 0, WI, rI, RI, ⟨hDB.1, w1, w2, x15, d2, XS_of (fun key h1 h2 => zset_nk (by omega)) c2, d3, ?_, ⟨by omega, fun i hi => absurd hi (by omega)⟩, ⟨by rw [zset_nk (by decide)]; exact c3, fun i hi => absurd hi (by omega)⟩, ⟨d4, fun i hi => absurd hi (by omega)⟩⟩, ⟨by decide, ?_, ?_, fun j hj => absurd hj (by omega)⟩, ?_, ⟨by decide, by rw [zset_eq]; rfl, d5, fun i hi => absurd hi (by omega)⟩⟩
      · rw [d6 0 (by decide) (by decide) (by decide), zset_nj (by decide), e180]; rfl
      · rw [d6 30 (by decide) (by decide) (by decide), zset_nj (by decide), eM0 30 (by decide)]; exact h30
      · rw [x0 1 (by decide) (by decide), zset_eq]; rfl
      · rw [d6 1 (by decide) (by decide) (by decide), zset_nj (by decide)]; exact e181
      · rw [d6 3 (by decide) (by decide) (by decide), zset_eq, q6, g6, zset_nj (by decide), c4 0 (by decide), b4 0 (by decide), zset_eq]
  · -- too long, or below 0
    have hx2 : x < (0 : Int32) ∨ zi n < x := by
      rcases hx with q | q
      · exact Or.inl q
      · refine Or.inr (Int32.lt_of_lt_of_le ?_ q)
        rw [zi_lt (by omega) (by omega)]; omega
    refine zPm_q h' (μX' := μX) (μM' := zset (zset μM 0 0 (0 : Int32)) 0 0 (zi 1)) (e := 1) (v := 0) (w := 0) ?_ ?_ zset_00 (fun e => absurd e (by decide)) (Or.inr (by decide)) zfr.refl zmq_00
    · unfold f8_town
      rw [zlet_e]
      by_cases q : x < 0
      · rw [if_pos q]
      · rw [if_neg q, t2, if_neg (Int32.not_le.mpr (hx2.resolve_left q))]
    · unfold f9_town
      rw [zlet_e, e01, m_in_no hx2, bnd0_ok, zlet_e, if_pos z0]
      show bnd0 (f9_bad (zi 1) (zi 1) _) _ = _
      rw [m_bad1 (c := 1) (μ := zset μM 0 0 (0 : Int32)) zset_eq (by decide) (by decide), bnd0_ok, if_neg (show ¬ zi 1 = (0 : Int32) from by decide)]
