/-! THE PURE SIDE, 32: a RUN in the reference, on -/
def mGn (T : zN2) (g : gT) (m : zMem) : Prop := mRn T g.1 m ∧ m 0 31 = g.2.1
theorem m_runs47 {T W : zN2} {μ : zMem} (hT : TB T) (hW : WB T W) (hP : W 0 3 = T 2 1) (hask : W 0 1 = tS T (W 0 0)) {r days lot : Nat} {sd : Int32} (hr : r < 4) (hl : lot < 2) (hd : W 0 0 + days ≤ 30) (hs : mGn T ((W, 0, 0, zN1), zN1, sd) μ) (hsd : lot = 1 → T 2 0 ≠ 0 → μ 0 45 = sd) (K : zMem → zRes) :
    ∃ μ', f9_runs_L47 (zi r) (zi days) (zi lot) K zF (zi 0) μ = K μ' ∧ mGn T (zit (gS T r lot (W 0 0)) days 0 ((W, 0, 0, zN1), zN1, sd)) μ' ∧ rOK T (zit (gS T r lot (W 0 0)) days 0 ((W, 0, 0, zN1), zN1, sd)).1 ∧ μ' 1128 2 = μ 1128 2 ∧ mfr gJ zrk μ μ' := by
  have hD := hT.2.2.1
  have hP9 := hT.2.1
  obtain ⟨μ', p1, p2, p3, p4, p5, p6, p7, p8, p9⟩ := zloopS (L := fun n i m => f9_runs_L47 (zi r) (zi days) (zi lot) K n (zi i) m) (N := days) (o := K) (F := gS T r lot (W 0 0))
    (fun i (g : gT) m => (i = 0 → g.1.1 0 0 = W 0 0 ∧ g.1.1 0 1 = tS T (W 0 0)) ∧ (0 < i → g.1.1 0 0 + 1 = W 0 0 + i) ∧ mGn T g m ∧ rOK T g.1 ∧ g.1.2.2.1 ≤ 10 * i ∧ (lot = 1 → T 2 0 ≠ 0 → m 0 45 = g.2.2) ∧ m 1128 2 = μ 1128 2 ∧ mfr gJ zrk μ m)
    (fun n m g h => by
      simp (disch := omega) only [f9_runs_L47, zi_le, Nat.le_refl, if_true])
    (fun n i m g hi h => by
      obtain ⟨h0, h1, ⟨⟨hM, hS, c0, c1, c3⟩, c31⟩, hok, hwk, h45, h2, hf⟩ := h
      obtain ⟨gb1, gb2, gb3⟩ := gB_b (T := T) (W := g.1.1) (first := W 0 0) (i := i) hT hok.1 (by omega) (fun q => (h0 q).1)
      obtain ⟨ga1, ga2, ga3⟩ := gA_b (T := T) (lot := lot) (sd := gD lot g.2.2) gb1
      have hok2 : rOK T (gA T lot (gD lot g.2.2) (gB T (W 0 0) i g.1.1), g.1.2) := ⟨ga1, by show gA T lot _ _ 0 3 = _; rw [ga2, gb2]; exact hok.2⟩
      have hwk2 := rD_works (T := T) (r := r) (T 2 2) (gA T lot (gD lot g.2.2) (gB T (W 0 0) i g.1.1), g.1.2)
      have hwk2 : (rD T r (T 2 2) (gA T lot (gD lot g.2.2) (gB T (W 0 0) i g.1.1), g.1.2)).2.2.1 ≤ g.1.2.2.1 + T 2 2 := hwk2
      have hnow : (rD T r (T 2 2) (gA T lot (gD lot g.2.2) (gB T (W 0 0) i g.1.1), g.1.2)).1 0 0 = W 0 0 + i := by rw [rD_now hT]; show gA T lot _ _ 0 0 = _; rw [ga3, gb3]
      obtain ⟨m1, b1, b2, b3, b4, b5⟩ := m_begin (T := T) (W := g.1.1) (m := m) (first := W 0 0) (i := i) (lot := lot) (sd := g.2.2) hT hok.1 hM hS hl (by omega) h0 h1 h45 (fun (μ17 : zMem) => zin (1 : Int32) 4 (zlet (μ17 1128 (1 : Int32).toNatClampNeg) (fun (v19 : Int32) => f9_runs_L142 μ17 (fun (x5_36 : Int32) => bnd0 (f9_chosen (zi r) μ17) (fun (v37 : Int32) (μ38 : zMem) => f9_runs_L204 (zi r) (fun (μ61 : zMem) => zlet (fun (μ62 : zMem) => f9_runs_L47 (zi r) (zi days) (zi lot) K n (zi i + (1 : Int32)) μ62) (fun j63 => if (μ61 0 31) = (-1 : Int32) then if x5_36 = 0 then j63 μ61 else zin (1 : Int32) 4 (if (μ61 1128 (1 : Int32).toNatClampNeg) = v19 then zlet (zset μ61 0 31 (μ61 0 20)) (fun (μ71 : zMem) => j63 μ71) else j63 μ61) else j63 μ61)) zF v37 μ38)) zF (0 : Int32) (0 : Int32))))
      have k1128 : m1 1128 = m 1128 := b5.1 1128 (by decide) (by unfold zsk; omega)
      have hrn : mRn T (gA T lot (gD lot g.2.2) (gB T (W 0 0) i g.1.1), g.1.2) m1 := ⟨b2, b3, by rw [k1128]; exact c0, by rw [k1128]; exact c1, by rw [k1128]; exact c3⟩
      have e31 : m1 0 31 = g.2.1 := by rw [b5.2 31 (by decide)]; exact c31
      have hwt := fun K => m_waits hT ga1 b2 b3 K
      have hch := (m_chosen hT ga1 hok2.2 b2 b3 hr).1
      obtain ⟨m2, w1, ⟨w2, w3, w4, w5, w6⟩, w7, w8⟩ := m_day hT hr (fun (μ61 : zMem) => zlet (fun (μ62 : zMem) => f9_runs_L47 (zi r) (zi days) (zi lot) K n (zi i + (1 : Int32)) μ62) (fun j63 => if (μ61 0 31) = (-1 : Int32) then if zi (b01 (wt T (gA T lot (gD lot g.2.2) (gB T (W 0 0) i g.1.1)))) = 0 then j63 μ61 else zin (1 : Int32) 4 (if (μ61 1128 (1 : Int32).toNatClampNeg) = zi g.1.2.2.1 then zlet (zset μ61 0 31 (μ61 0 20)) (fun (μ71 : zMem) => j63 μ71) else j63 μ61) else j63 μ61)) (T 2 2) zF (gA T lot (gD lot g.2.2) (gB T (W 0 0) i g.1.1), g.1.2) m1 (by omega) (by unfold zF; omega) hok2 hrn
      have e31' : m2 0 31 = g.2.1 := by rw [w7.2 31 (fun q => q)]; exact e31
      have e20' : m2 0 20 = zi (W 0 0 + i) := by have := w3.1.1; rw [hnow] at this; exact this
      have fr2 : mfr gJ zrk m m2 := (b5.mono (fun j hj => by unfold gJ; omega) (fun k hk => Or.inl hk)).trans (w7.mono (fun j hj => hj.elim) (fun k hk => hk))
      have h452 : lot = 1 → T 2 0 ≠ 0 → m2 0 45 = gD lot g.2.2 := fun q1 q2 => by rw [w7.2 45 (fun q => q)]; exact b4 q1 q2
      have e2' : m2 1128 2 = μ 1128 2 := by rw [w8, k1128]; exact h2
      have z1 : zi i + (1 : Int32) = zi (i + 1) := zi_add i 1
      have fin : ∃ m3, (if (m2 0 31) = (-1 : Int32) then if zi (b01 (wt T (gA T lot (gD lot g.2.2) (gB T (W 0 0) i g.1.1)))) = 0 then f9_runs_L47 (zi r) (zi days) (zi lot) K n (zi i + (1 : Int32)) m2 else zin (1 : Int32) 4 (if (m2 1128 (1 : Int32).toNatClampNeg) = zi g.1.2.2.1 then zlet (zset m2 0 31 (m2 0 20)) (fun (μ71 : zMem) => f9_runs_L47 (zi r) (zi days) (zi lot) K n (zi i + (1 : Int32)) μ71) else f9_runs_L47 (zi r) (zi days) (zi lot) K n (zi i + (1 : Int32)) m2) else f9_runs_L47 (zi r) (zi days) (zi lot) K n (zi i + (1 : Int32)) m2) = f9_runs_L47 (zi r) (zi days) (zi lot) K n (zi (i + 1)) m3 ∧ mGn T (gS T r lot (W 0 0) i g) m3 ∧ (lot = 1 → T 2 0 ≠ 0 → m3 0 45 = gD lot g.2.2) ∧ m3 1128 2 = μ 1128 2 ∧ mfr gJ zrk m m3 := by
        have hno : ¬ (wt T (gA T lot (gD lot g.2.2) (gB T (W 0 0) i g.1.1)) = true ∧ (rD T r (T 2 2) (gA T lot (gD lot g.2.2) (gB T (W 0 0) i g.1.1), g.1.2)).2.2.1 = g.1.2.2.1 ∧ g.2.1 = zN1) → mGn T (gS T r lot (W 0 0) i g) m2 := fun hc => ⟨⟨w2, w3, w4, w5, w6⟩, by show m2 0 31 = if _ then _ else _; rw [if_neg hc]; exact e31'⟩
        by_cases hz : g.2.1 = zN1
        · cases hw : wt T (gA T lot (gD lot g.2.2) (gB T (W 0 0) i g.1.1))
          · refine ⟨m2, ?_, hno (by rw [hw]; exact fun q => absurd q.1 (by decide)), h452, e2', fr2⟩
            rw [if_pos (show m2 0 31 = -1 from by rw [e31', hz]; rfl), if_pos (show zi (b01 false) = 0 from rfl), z1]
          · by_cases hq : (rD T r (T 2 2) (gA T lot (gD lot g.2.2) (gB T (W 0 0) i g.1.1), g.1.2)).2.2.1 = g.1.2.2.1
            · refine ⟨zset m2 0 31 (zi (W 0 0 + i)), ?_, ⟨⟨?_, ?_, ?_, ?_, ?_⟩, ?_⟩, fun q1 q2 => ?_, ?_, fr2.set0 (by unfold gJ; omega)⟩
              · rw [if_pos (show m2 0 31 = -1 from by rw [e31', hz]; rfl), if_neg (show ¬ zi (b01 true) = 0 by decide), show (1 : Int32) = zi 1 from rfl, zin_i (by decide) (by decide), if_pos (show m2 1128 (zi 1).toNatClampNeg = zi g.1.2.2.1 from by rw [zi_cl (by decide), w5, hq]), zlet_e, e20', zi_add]
              · exact MT_q (fun key hk => zset_nk (by unfold zmk at hk; omega)) hT w2
              · exact MS_at (zset_nj (by decide)) (zset_nj (by decide)) (by rw [zset_nk (by decide)]) (zset_nk (by decide)) (zset_nk (by decide)) (fun p hp => zset_nk (by omega)) (fun p hp => by rw [zset_nk (by omega)]) hT (rD_ok hT _ _ hok2).1 w3
              · rw [zset_nk (by decide)]; exact w4
              · rw [zset_nk (by decide)]; exact w5
              · rw [zset_nk (by decide)]; exact w6
              · rw [zset_eq]; show _ = if _ then _ else _; rw [if_pos ⟨hw, hq, hz⟩]
              · rw [zset_nj (by decide)]; exact h452 q1 q2
              · rw [zset_nk (by decide)]; exact e2'
            · refine ⟨m2, ?_, hno (fun q => hq q.2.1), h452, e2', fr2⟩
              rw [if_pos (show m2 0 31 = -1 from by rw [e31', hz]; rfl), if_neg (show ¬ zi (b01 true) = 0 by decide), show (1 : Int32) = zi 1 from rfl, zin_i (by decide) (by decide), if_neg, zi_add]
              show ¬ m2 1128 1 = zi g.1.2.2.1
              rw [w5]
              intro q
              exact hq (zi_inj (by omega) (by omega) q)
        · refine ⟨m2, ?_, hno (fun q => hz q.2.2), h452, e2', fr2⟩
          rw [if_neg (show ¬ m2 0 31 = -1 from by rw [e31']; exact hz), z1]
      obtain ⟨m3, f1, f2, f3, f4, f5⟩ := fin
      refine ⟨m3, ?_, fun q => absurd q (by omega), fun _ => by show (rD T r (T 2 2) _).1 0 0 + 1 = _; rw [hnow]; omega, f2, rD_ok hT _ _ hok2, ?_, f3, f4, hf.trans f5⟩
      · have hle : ¬ zi days ≤ zi i := by rw [zi_le (by omega) (by omega)]; omega
        rw [f9_runs_L47, if_neg hle, zlet_e]
        refine b1.trans ?_
        show zin (zi 1) 4 (zlet (m1 1128 1) _) = _
        rw [zin_i (by decide) (by decide), zlet_e, k1128, c1]
        refine (hwt _).trans ?_
        show bnd0 (f9_chosen (zi r) m1) _ = _
        rw [hch, bnd0_ok]
        refine w1.trans ?_
        show zlet _ _ = _
        rw [zlet_e]
        exact f1
      · show (rD T r (T 2 2) (gA T lot (gD lot g.2.2) (gB T (W 0 0) i g.1.1), g.1.2)).2.2.1 ≤ 10 * (i + 1)
        omega)
    days 0 μ ((W, 0, 0, zN1), zN1, sd) zF (by omega) (by unfold zF; omega)
    ⟨fun _ => ⟨rfl, hask⟩, fun q => absurd q (by omega), hs, ⟨hW, hP⟩, Nat.le_refl _, hsd, rfl, mfr.refl⟩
  exact ⟨μ', p1, p4, p5, p8, p9⟩
theorem m_runs {T W : zN2} {μ : zMem} (hT : TB T) (hW : WB T W) (hP : W 0 3 = T 2 1) (hask : W 0 1 = tS T (W 0 0)) (hM : MT T μ) (hS : MS T W μ) (h30 : μ 0 30 = zN1) {r days lot : Nat} {sd : Int32} (hr : r < 4) (hl : lot < 2) (hd : W 0 0 + days ≤ 30) (hsd : lot = 1 → μ 0 45 = sd) :
    ∃ μ', f9_runs (zi r) (zi days) (zi lot) μ = some (0, zi 0, μ') ∧ μ' 1128 0 = zi (zit (gS T r lot (W 0 0)) days 0 ((W, 0, 0, zN1), zN1, sd)).1.2.1 ∧ μ' 1128 1 = zi (zit (gS T r lot (W 0 0)) days 0 ((W, 0, 0, zN1), zN1, sd)).1.2.2.1
      ∧ μ' 1128 2 = zi (nsum (fun d => b01 (((zit (gS T r lot (W 0 0)) days 0 ((W, 0, 0, zN1), zN1, sd)).1.1 0 4).testBit d)) (T 2 2)) ∧ μ' 1128 3 = (zit (gS T r lot (W 0 0)) days 0 ((W, 0, 0, zN1), zN1, sd)).1.2.2.2 ∧ μ' 0 31 = (zit (gS T r lot (W 0 0)) days 0 ((W, 0, 0, zN1), zN1, sd)).2.1 ∧ zmq μ μ' ∧ μ' 0 0 = μ 0 0 := by
  have hD := hT.2.2.1
  obtain ⟨m1, a1, a2, a3⟩ := m_lays0 (i := 0) (μ := μ) (by decide)
  -- the row of numbers
  obtain ⟨m2, b1, b2, b3⟩ := zloopE (L := fun n i s => f9_runs_L9 (fun (μ11 : zMem) => zlet (zset μ11 0 31 (-1 : Int32)) (fun (μ12 : zMem) => f9_runs_L47 (zi r) (zi days) (zi lot) (fun (μ88 : zMem) => zlet (zset μ88 0 30 (-1 : Int32)) (fun (μ89 : zMem) => f9_runs_L346 (fun (μ97 : zMem) => bnd0 (f9_lays (0 : Int32) (1 : Int32) μ97) (fun (v98 : Int32) (μ99 : zMem) => some (0, 0, μ99))) zF (0 : Int32) μ89)) zF (0 : Int32) μ12)) n (zi i) s) (N := 4)
      (o := fun (μ11 : zMem) => zlet (zset μ11 0 31 (-1 : Int32)) (fun (μ12 : zMem) => f9_runs_L47 (zi r) (zi days) (zi lot) (fun (μ88 : zMem) => zlet (zset μ88 0 30 (-1 : Int32)) (fun (μ89 : zMem) => f9_runs_L346 (fun (μ97 : zMem) => bnd0 (f9_lays (0 : Int32) (1 : Int32) μ97) (fun (v98 : Int32) (μ99 : zMem) => some (0, 0, μ99))) zF (0 : Int32) μ89)) zF (0 : Int32) μ12))
    (fun i s => (∀ k, k < i → s 1128 k = if k = 3 then zN1 else zi 0) ∧ mfr (fun _ => False) (fun k => k = 1128) m1 s)
    (fun n s _ => by
      have hle : (4 : Int32) ≤ zi 4 := by decide
      rw [f9_runs_L9, if_pos hle])
    (fun n i s hi hs => by
      have hle : ¬ (4 : Int32) ≤ zi i := by rw [show (4 : Int32) = zi 4 from rfl, zi_le (by omega) (by omega)]; omega
      have z1 : zi i + (1 : Int32) = zi (i + 1) := zi_add i 1
      refine ⟨zset s 1128 i (if i = 3 then zN1 else zi 0), ?_, fun k hk => ?_, hs.2.set (by decide) rfl⟩
      · rw [f9_runs_L9, if_neg hle, zlet_e]
        by_cases h3 : i = 3
        · rw [if_pos (show zi i = (3 : Int32) from by rw [h3]; rfl)]
          show zin (zi i) 4 _ = _
          rw [zin_i hi (by omega), zlet_e, zi_cl (by omega), if_pos h3, z1]; rfl
        · rw [if_neg (show ¬ zi i = (3 : Int32) from by rw [show (3 : Int32) = zi 3 from rfl, zi_eq (by omega) (by omega)]; exact h3)]
          show zin (zi i) 4 _ = _
          rw [zin_i hi (by omega), zlet_e, zi_cl (by omega), if_neg h3, z1]; rfl
      · rw [zset_at]
        by_cases e : k = i
        · rw [if_pos ⟨rfl, e⟩, e]
        · rw [if_neg (fun q => e q.2)]; exact hs.1 k (by omega))
    4 0 m1 zF (by omega) (by unfold zF; omega) ⟨fun k hk => absurd hk (by omega), mfr.refl⟩
  -- the memory ahead of the DAYS
  have f2 : mfr (fun j => j = 31) (fun k => k = 1128) m1 (zset m2 0 31 zN1) := (b3.mono (fun j q => q.elim) (fun k q => q)).set0 rfl
  have g1 : MS T W m1 := MS_j a3 ⟨by decide, by decide⟩ (by decide) (fun k hk => by unfold zsk at hk; omega) (fun p hp => by omega) hT hW hS
  have g2 : MT T m1 := MT_j a3 (fun k hk => by unfold zmk at hk; omega) hT hM
  have g1' : MS T W (zset m2 0 31 zN1) := MS_j f2 ⟨by decide, by decide⟩ (by decide) (fun k hk => by unfold zsk at hk; omega) (fun p hp => by omega) hT hW g1
  have g2' : MT T (zset m2 0 31 zN1) := MT_j f2 (fun k hk => by unfold zmk at hk; omega) hT g2
  have g45 : lot = 1 → T 2 0 ≠ 0 → zset m2 0 31 zN1 0 45 = sd := fun q _ => by rw [f2.2 45 (by decide), a3.2 45 (by decide)]; exact hsd q
  have g0 : mGn T ((W, 0, 0, zN1), zN1, sd) (zset m2 0 31 zN1) := ⟨⟨g2', g1', by rw [zset_nk (by decide), b2 0 (by decide)]; rfl, by rw [zset_nk (by decide), b2 1 (by decide)]; rfl, by rw [zset_nk (by decide), b2 3 (by decide)]; rfl⟩, zset_eq⟩
  obtain ⟨m3, c1, ⟨⟨c2, c3, c4, c5, c6⟩, c7⟩, c8, c9, c10⟩ := m_runs47 hT hW hP hask hr hl hd g0 g45 (fun (μ88 : zMem) => zlet (zset μ88 0 30 (-1 : Int32)) (fun (μ89 : zMem) => f9_runs_L346 (fun (μ97 : zMem) => bnd0 (f9_lays (0 : Int32) (1 : Int32) μ97) (fun (v98 : Int32) (μ99 : zMem) => some (0, 0, μ99))) zF (0 : Int32) μ89))
  generalize zit (gS T r lot (W 0 0)) days 0 ((W, 0, 0, zN1), zN1, sd) = g at *
  have e2 : m3 1128 2 = zi 0 := by rw [c9, zset_nk (by decide), b2 2 (by decide)]; rfl
  -- how many are open
  obtain ⟨m4, d1, d2, d3, d4⟩ := zloopE (L := fun n i s => f9_runs_L346 (fun (μ97 : zMem) => bnd0 (f9_lays (0 : Int32) (1 : Int32) μ97) (fun (v98 : Int32) (μ99 : zMem) => some (0, 0, μ99))) n (zi i) s) (N := T 2 2) (o := fun (μ97 : zMem) => bnd0 (f9_lays (0 : Int32) (1 : Int32) μ97) (fun (v98 : Int32) (μ99 : zMem) => some (0, 0, μ99)))
    (fun i s => s 1128 2 = zi (nsum (fun d => b01 ((g.1.1 0 4).testBit d)) i) ∧ (∀ j, j ≠ 2 → s 1128 j = m3 1128 j) ∧ mfr (fun _ => False) (fun k => k = 1128) (zset m3 0 30 zN1) s)
    (fun n s hs => by
      have e : s 4 2 = zi (T 2 2) := by rw [hs.2.2.1 4 (by decide) (by decide), zset_nk (by decide)]; exact c2.1.2.2.1
      rw [f9_runs_L346]
      simp (disch := omega) only [zlit', zin_i, zi_cl, e, zi_le, Nat.le_refl, if_true])
    (fun n i s hi hs => by
      have e : s 4 2 = zi (T 2 2) := by rw [hs.2.2.1 4 (by decide) (by decide), zset_nk (by decide)]; exact c2.1.2.2.1
      have e92 : s 92 i = zi (if (g.1.1 0 4).testBit i = true then 1 else 0) := by rw [hs.2.2.1 92 (by decide) (by decide), zset_nk (by decide)]; exact c3.2.2.2 i (by omega)
      refine ⟨zset s 1128 2 (zi (nsum (fun d => b01 ((g.1.1 0 4).testBit d)) (i + 1))), ?_, zset_eq, fun j hj => ?_, hs.2.2.set (by decide) rfl⟩
      · have hle : ¬ s 4 ((2 : Int32)).toNatClampNeg ≤ zi i := by rw [show (2 : Int32) = zi 2 from rfl, zi_cl (by decide), e, zi_le (by omega) (by omega)]; omega
        have z1 : zi i + (1 : Int32) = zi (i + 1) := zi_add i 1
        have z2 : ∀ N A, 2 < N → zin (2 : Int32) N A = A := fun N A hN => zin_i (i := 2) hN (by decide)
        have q : s 1128 ((2 : Int32)).toNatClampNeg + s 92 (zi i).toNatClampNeg = zi (nsum (fun d => b01 ((g.1.1 0 4).testBit d)) (i + 1)) := by
          rw [show (2 : Int32) = zi 2 from rfl, zi_cl (by decide), zi_cl (by omega), hs.1, e92, zi_add]; rfl
        rw [f9_runs_L346, z2 _ _ (by decide), if_neg hle, z2 _ _ (by decide), zin_i (by omega) (by omega), z2 _ _ (by decide), zlet_e, q, z1]
        rfl
      · rw [zset_nj hj]; exact hs.2.1 j hj)
    (T 2 2) 0 (zset m3 0 30 zN1) zF (by omega) (by unfold zF; omega) ⟨by rw [zset_nk (by decide)]; exact e2, fun j _ => by rw [zset_nk (by decide)], mfr.refl⟩
  obtain ⟨m5, f1, f2', f3⟩ := m_lays1 (i := 0) (μ := m4) (by decide)
  have hall : mfr (fun j => j = 20 ∨ j = 31 ∨ j = 45) zrk m1 m4 := by
    refine ⟨fun k hk0 hk => ?_, fun j hj => ?_⟩
    · have hk1 : k ≠ 1128 := fun e => hk (Or.inr e)
      rw [d4.1 k hk0 hk1, zset_nk hk0, c10.1 k hk0 hk, f2.1 k hk0 hk1]
    · rw [d4.2 j (fun q => q)]
      by_cases e : j = 30
      · rw [e, zset_eq, a3.2 30 (by decide), h30]
      · rw [zset_nj e, c10.2 j (by unfold gJ; omega), f2.2 j (by omega)]
  obtain ⟨q1, q2⟩ := zmq_aside (i := 0) (by decide) a2 a3 hall f2' f3 (by unfold zrk zsk; omega) (fun k hk => by unfold zmk at hk; unfold zrk zsk; omega) ⟨by omega, by omega, by omega, by omega⟩
  have k1128 : ∀ j, m5 1128 j = m4 1128 j := fun j => f3 1128 j (by rw [kidx_big (by unfold zsk; omega)]; decide) (by omega)
  refine ⟨m5, ?_, ?_, ?_, ?_, ?_, ?_, q1, ?_⟩
  · unfold f9_runs
    have a1' : f9_lays (0 : Int32) (0 : Int32) μ = some (0, zi 0, m1) := a1
    have f1' : f9_lays (0 : Int32) (1 : Int32) m4 = some (0, zi 0, m5) := f1
    rw [a1', bnd0_ok]
    refine b1.trans ?_
    show zlet _ _ = _
    rw [zlet_e]
    refine c1.trans ?_
    show zlet _ _ = _
    rw [zlet_e]
    refine d1.trans ?_
    show bnd0 (f9_lays (0 : Int32) (1 : Int32) m4) _ = _
    rw [f1', bnd0_ok]; rfl
  · rw [k1128, d3 0 (by decide)]; exact c4
  · rw [k1128, d3 1 (by decide)]; exact c5
  · rw [k1128]; exact d2
  · rw [k1128, d3 3 (by decide)]; exact c6
  · rw [f3 0 31 (by rw [kidx_0 (by decide) (by decide)]; decide) (by omega), d4.2 31 (fun q => q), zset_nj (by decide)]; exact c7
  · exact q2 0 (by omega) (by decide) (by decide) (by decide)
