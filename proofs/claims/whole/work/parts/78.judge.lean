/-! THE PURE SIDE, 18: judge, on -/
def jS (T : zN2) (R : Nat → Nat) (i : Nat) (s : zN2 × Int32 × Nat) : zN2 × Int32 × Nat :=
  ((jP T (R i) s.1).1, (if (jP T (R i) s.1).2 = 0 then s.2.1 else if s.2.1 = zN1 then zi (10 * i + (jP T (R i) s.1).2) else s.2.1), (if (jP T (R i) s.1).2 = 0 then s.2.2 + T 8 (R i / 100 % 10) else s.2.2))
theorem x_judge_L {T W : zN2} {r : Nat} {R : Nat → Nat} {μ : zMem} (hT : TB T) (hW : WB T W) (hP : W 0 3 = T 2 1) (hX : XT T μ) (hS : XS T W 28 μ) (hB : RB T r R) (hR : XR r R 23 μ) (K : Int32 → Int32 → zMem → zRes) :
    ∃ μ', f8_judge_L24 K zF zN1 (zi 0) (zi 0) μ = K (zit (jS T R) r 0 (W, zN1, 0)).2.1 (zi (zit (jS T R) r 0 (W, zN1, 0)).2.2) μ' ∧ zfr (fun q => 28 ≤ q ∧ q < 32) μ μ' := by
  have hr := hB.1
  have hD := hT.2.2.1
  obtain ⟨x, h1, s, h2, h3, h4, h5⟩ := zloopE (L := fun n i (x : Int32 × Int32 × zMem) => f8_judge_L24 K n x.1 x.2.1 (zi i) x.2.2) (N := r) (o := fun x => K x.1 x.2.1 x.2.2)
    (fun i x => ∃ s, s = zit (jS T R) i 0 (W, zN1, 0) ∧ x.1 = s.2.1 ∧ x.2.1 = zi s.2.2 ∧ WB T s.1 ∧ s.1 0 3 = T 2 1 ∧ XS T s.1 28 x.2.2 ∧ zfr (fun q => 28 ≤ q ∧ q < 32) μ x.2.2)
    (fun n x hx => by
      obtain ⟨s, e, e1, e2, hW', hP', hS', hf⟩ := hx
      have e9 : x.2.2 23 9 = zi r := by rw [hf 23 (by omega)]; exact hR.1
      simp (disch := omega) only [f8_judge_L24, e9, zi_le, Nat.le_refl, if_true])
    (fun n i x hi hx => by
      obtain ⟨s, e, e1, e2, hW', hP', hS', hf⟩ := hx
      obtain ⟨b1, b2, b3, b4⟩ := hB.2 i hi
      have hX' : XT T x.2.2 := XT_of (fun key hk => hf key (by omega)) hX
      have e9 : x.2.2 23 9 = zi r := by rw [hf 23 (by omega)]; exact hR.1
      obtain ⟨μ', p1, p2, p3⟩ := x_playRow hT hW' hP' hX' hS' b1 b2 b3 b4
      obtain ⟨q1, q2, q3⟩ := jP_b (W := s.1) hT hW' b1 b2
      have e27 : x.2.2 27 i = zi (R i) := by rw [hf 27 (by omega)]; exact hR.2 i hi
      have e27' : μ' 27 i = zi (R i) := by rw [p3 27 (by omega)]; exact e27
      have hX2 : XT T μ' := XT_of (fun key hk => p3 key (by omega)) hX'
      have hRi : R i < 2147483648 := by omega
      refine ⟨((jS T R i s).2.1, zi (jS T R i s).2.2, μ'), ?_, jS T R i s, ?_, rfl, rfl, q1, q2.trans hP', p2, hf.trans p3⟩
      · simp (disch := omega) only [f8_judge_L24, e9, zi_le, show ¬ r ≤ i by omega, if_false, zin_i, zi_cl, e27, p1, bnd0_ok', zlet_e', ↓zneg1', zlit', e1, e2, zi_eq, f8_doorOfRow, e27', zi_div, zrem_i, (hX2.2.2.2.2 _ b2).1, zi_add, zi_mul]
        unfold jS
        by_cases h0 : (jP T (R i) s.1).2 = 0
        · simp only [h0, if_true]
        · simp only [h0, if_false]
          by_cases h1 : s.2.1 = zN1
          · simp only [h1, if_true]
          · simp only [h1, if_false]
      · rw [zit_succ, ← e, Nat.zero_add])
    r 0 (zN1, zi 0, μ) zF (by omega) (by unfold zF; omega) ⟨(W, zN1, 0), rfl, rfl, rfl, hW, hP, hS, zfr.refl⟩
  obtain ⟨-, -, -, hf⟩ := h5
  subst h2
  exact ⟨x.2.2, by rw [h3, h4] at h1; exact h1, hf⟩
theorem m_judge_L {T W : zN2} {r : Nat} {R : Nat → Nat} {μ : zMem} (hT : TB T) (hW : WB T W) (hP : W 0 3 = T 2 1) (hM : MT T μ) (hS : MS T W μ) (h30 : μ 0 30 = zN1) (hB : RB T r R) (hR : MR r R μ) (K : Int32 → Int32 → zMem → zRes) :
    ∃ μ', f9_judge_L42 K zF zN1 (zi 0) (zi 0) μ = K (zit (jS T R) r 0 (W, zN1, 0)).2.1 (zi (zit (jS T R) r 0 (W, zN1, 0)).2.2) μ' ∧ mfr (fun j => j = 20) zsk μ μ' := by
  have hr := hB.1
  have hD := hT.2.2.1
  have hPP := hT.2.1
  obtain ⟨x, h1, s, h2, h3, h4, h5⟩ := zloopE (L := fun n i (x : Int32 × Int32 × zMem) => f9_judge_L42 K n x.1 x.2.1 (zi i) x.2.2) (N := r) (o := fun x => K x.1 x.2.1 x.2.2)
    (fun i x => ∃ s, s = zit (jS T R) i 0 (W, zN1, 0) ∧ x.1 = s.2.1 ∧ x.2.1 = zi s.2.2 ∧ WB T s.1 ∧ s.1 0 3 = T 2 1 ∧ MS T s.1 x.2.2 ∧ mfr (fun j => j = 20) zsk μ x.2.2)
    (fun n x hx => by
      obtain ⟨s, e, e1, e2, hW', hP', hS', hf⟩ := hx
      have e9 : x.2.2 0 21 = zi r := by rw [hf.2 21 (by decide)]; exact hR.1
      simp (disch := omega) only [f9_judge_L42, e9, zi_le, Nat.le_refl, if_true])
    (fun n i x hi hx => by
      obtain ⟨x1, x2, m⟩ := x
      obtain ⟨s, e, e1, e2, hW', hP', hS', hf⟩ := hx
      have hf : mfr (fun j => j = 20) zsk μ m := hf
      obtain ⟨b1, b2, b3, b4⟩ := hB.2 i hi
      have hN := hW'.1
      have hzk : ∀ k, zmk k → ¬ zsk k := fun k hk => by unfold zmk at hk; unfold zsk; omega
      have hM' : MT T m := MT_q (fun key hk => hf.1 key (by unfold zmk at hk; omega) (hzk key hk)) hT hM
      have e9 : m 0 21 = zi r := by rw [hf.2 21 (by decide)]; exact hR.1
      have e30 : m 0 30 = zN1 := by rw [hf.2 30 (by decide)]; exact h30
      have hrow : ∀ m' : zMem, mfr (fun j => j = 20) zsk m m' → m' (61 + i) 0 = zi (R i / 1000) ∧ m' (61 + i) 1 = zi (R i / 100 % 10) ∧ m' (61 + i) 2 = zi (R i / 10 % 10) ∧ m' (61 + i) 3 = zi (R i % 10) := by
        intro m' hm'
        rw [hm'.1 (61 + i) (by omega) (by unfold zsk; omega), hf.1 (61 + i) (by omega) (by unfold zsk; omega)]
        exact hR.2 i hi
      obtain ⟨r0, r1, r2, r3⟩ := hrow m mfr.refl
      obtain ⟨q1, q2, q3⟩ := jP_b (W := s.1) hT hW' b1 b2
      have e1 : x1 = s.2.1 := e1
      have e2 : x2 = zi s.2.2 := e2
      have hS' : MS T s.1 m := hS'
      have e20 : m 0 20 = zi (s.1 0 0) := hS'.1.1
      subst e1 e2
      by_cases hd1 : R i / 1000 < s.1 0 0
      · -- ahead of NOW
        have ep : jP T (R i) s.1 = (s.1, 6) := if_pos hd1
        refine ⟨((jS T R i s).2.1, zi (jS T R i s).2.2, m), ?_, jS T R i s, by rw [zit_succ, ← e, Nat.zero_add], rfl, rfl, q1, q2.trans hP', ?_, hf⟩
        · simp (disch := omega) only [f9_judge_L42, e9, zi_le, show ¬ r ≤ i by omega, if_false, if_true, zin_i, zi_cl, ↓zneg1', zlit', r0, r1, r2, r3, e20, show ¬ s.1 0 0 ≤ R i / 1000 by omega, show R i / 1000 ≤ s.1 0 0 by omega, zlet_e', zi_eq, show ¬ 6 = 0 by decide, show ¬ 6 ≤ 0 by decide, zi_mul, zi_add]
          unfold jS
          simp only [ep, show ¬ 6 = 0 by decide, if_false]
          by_cases h1 : s.2.1 = zN1
          · simp only [h1, if_true]
          · simp only [h1, if_false]
        · show MS T (jP T (R i) s.1).1 m
          rw [ep]; exact hS'
      · -- the DAY
        have hday : ∃ m1, MS T (jW T (R i) s.1) m1 ∧ WB T (jW T (R i) s.1) ∧ jW T (R i) s.1 0 3 = T 2 1 ∧ mfr (fun j => j = 20) zsk m m1 ∧ (if s.1 0 0 < R i / 1000 then m1 = zfil (zset m 0 20 (zi (R i / 1000))) 91 9 (zi (T 2 4)) else m1 = m) := by
          unfold jW
          by_cases h2 : s.1 0 0 < R i / 1000
          · simp only [if_pos h2]
            refine ⟨_, ?_, wb_dawn hT hW' b1, hP', mfr.fil (k := 91) (mfr.set0 (j := 20) mfr.refl rfl) (by decide) (Or.inl rfl), rfl⟩
            refine ms_dawn hT hW' hS' e30 ?_ ?_ ?_ ?_ ?_ ?_ ?_
            · rw [zfil_nk (by decide), zset_eq]
            · rw [zfil_nk (by decide), zset_nj (by decide)]; exact e30
            · rw [zfil_nk (by decide), zset_nk (by decide)]
            · intro p hp; rw [zfil_at, if_pos ⟨rfl, hp⟩]
            · rw [zfil_nk (by decide), zset_nk (by decide)]
            · intro p hp; rw [zfil_nk (by omega), zset_nk (by omega)]
            · intro p hp; rw [zfil_nk (by omega), zset_nk (by omega)]
          · simp only [if_neg h2]
            exact ⟨m, hS', hW', hP', mfr.refl, rfl⟩
        obtain ⟨m1, s1, w1, p1, f1, c1⟩ := hday
        have hM1 : MT T m1 := MT_q (fun key hk => f1.1 key (by unfold zmk at hk; omega) (hzk key hk)) hT hM'
        obtain ⟨r0', r1', r2', r3'⟩ := hrow m1 f1
        have hlt := tE_lt (T := T) (W := jW T (R i) s.1) (d := R i / 100 % 10) (a := R i / 10 % 10) (b := R i % 10)
        have herr := m_errs hT w1 hM1 s1 b2 (show R i / 10 % 10 < jW T (R i) s.1 0 3 by omega) (show R i % 10 < jW T (R i) s.1 0 3 by omega)
        have hMd : MT T (zset m 0 20 (zi (R i / 1000))) := MT_q (fun key hk => zset_nk (by unfold zmk at hk; omega)) hT hM'
        have hdw := m_dawns hT hMd
        -- up to the errs
        have head : ∀ (r' : zRes), bnd0 (f9_errs (zi (R i / 100 % 10)) (zi (R i / 10 % 10)) (zi (R i % 10)) m1) (fun (v45 : Int32) (μ46 : zMem) => if v45 ≤ zi 0 then bnd0 (f9_works (μ46 (61 + i) 1) (μ46 (61 + i) 2) (μ46 (61 + i) 3) μ46) (fun (v29 : Int32) (μ30 : zMem) => zin (μ30 (61 + i) 1) 10 (f9_judge_L42 K n s.2.1 (zi s.2.2 + (μ30 (36 + (μ30 (61 + i) 1).toNatClampNeg) 0)) (zi (i + 1)) μ30)) else if s.2.1 = zN1 then f9_judge_L42 K n (zi (10 * i) + v45) (zi s.2.2) (zi (i + 1)) μ46 else f9_judge_L42 K n s.2.1 (zi s.2.2) (zi (i + 1)) μ46) = r' →
            f9_judge_L42 K (n + 1) s.2.1 (zi s.2.2) (zi i) m = r' := by
          intro r' hr'
          by_cases h2 : s.1 0 0 < R i / 1000
          · rw [if_pos h2] at c1
            subst c1
            simp (disch := omega) only [f9_judge_L42, e9, zi_le, show ¬ r ≤ i by omega, if_false, if_true, zin_i, zi_cl, ↓zneg1', zlit', r0, e20, show s.1 0 0 ≤ R i / 1000 by omega, show ¬ R i / 1000 ≤ s.1 0 0 by omega, zlet_e', zi_mul, zi_add, hdw, bnd0_ok', r1', r2', r3']
            exact hr'
          · rw [if_neg h2] at c1
            subst c1
            simp (disch := omega) only [f9_judge_L42, e9, zi_le, show ¬ r ≤ i by omega, if_false, if_true, zin_i, zi_cl, ↓zneg1', zlit', r0, e20, show s.1 0 0 ≤ R i / 1000 by omega, show R i / 1000 ≤ s.1 0 0 by omega, zlet_e', zi_mul, zi_add, r1', r2', r3']
            exact hr'
        by_cases h0 : tE T (jW T (R i) s.1) (R i / 100 % 10) (R i / 10 % 10) (R i % 10) = 0
        · have ep : jP T (R i) s.1 = (tK T (jW T (R i) s.1) (R i / 100 % 10) (R i / 10 % 10) (R i % 10), 0) := (if_neg hd1).trans (if_pos h0)
          obtain ⟨-, -, hab, -, l1, l2, -⟩ := tE_0 h0
          obtain ⟨m2, a1, a2, a3⟩ := m_works hT w1 hM1 s1 b2 (show R i / 10 % 10 < jW T (R i) s.1 0 3 by omega) (show R i % 10 < jW T (R i) s.1 0 3 by omega) b3 b4 hab l1 l2
          have f2 : mfr (fun j => j = 20) zsk m m2 := f1.trans (mfr.ofz a3 (by omega) (fun k hk => hk))
          obtain ⟨r0'', r1'', r2'', r3''⟩ := hrow m2 f2
          have hM2 : MT T m2 := MT_q (fun key hk => f2.1 key (by unfold zmk at hk; omega) (hzk key hk)) hT hM'
          refine ⟨((jS T R i s).2.1, zi (jS T R i s).2.2, m2), ?_, jS T R i s, by rw [zit_succ, ← e, Nat.zero_add], rfl, rfl, q1, q2.trans hP', ?_, hf.trans f2⟩
          · refine head _ ?_
            simp (disch := omega) only [herr, h0, bnd0_ok', zi_le, Nat.le_refl, if_true, r1', r2', r3', a1, r1'', zin_i, zi_cl, (hM2.2.2.2.2 _ b2).1, zi_add]
            unfold jS
            simp only [ep, if_true]
          · show MS T (jP T (R i) s.1).1 m2
            rw [ep]; exact a2
        · have ep : jP T (R i) s.1 = (jW T (R i) s.1, tE T (jW T (R i) s.1) (R i / 100 % 10) (R i / 10 % 10) (R i % 10)) := (if_neg hd1).trans (if_neg h0)
          refine ⟨((jS T R i s).2.1, zi (jS T R i s).2.2, m1), ?_, jS T R i s, by rw [zit_succ, ← e, Nat.zero_add], rfl, rfl, q1, q2.trans hP', ?_, hf.trans f1⟩
          · refine head _ ?_
            simp (disch := omega) only [herr, bnd0_ok', zi_le, show ¬ tE T (jW T (R i) s.1) (R i / 100 % 10) (R i / 10 % 10) (R i % 10) ≤ 0 by omega, if_false, zi_add]
            unfold jS
            simp only [ep, h0, if_false]
            by_cases h1 : s.2.1 = zN1
            · simp only [h1, if_true]
            · simp only [h1, if_false]
          · show MS T (jP T (R i) s.1).1 m1
            rw [ep]; exact s1)
    r 0 (zN1, zi 0, μ) zF (by omega) (by unfold zF; omega) ⟨(W, zN1, 0), rfl, rfl, rfl, hW, hP, hS, mfr.refl⟩
  obtain ⟨-, -, -, hf⟩ := h5
  subst h2
  exact ⟨x.2.2, by rw [h3, h4] at h1; exact h1, hf⟩
theorem zsx_28 {μ μ' : zMem} (h : zfr (fun q => 28 ≤ q ∧ q < 32) μ μ') : zfr zsx μ μ' := h.mono (fun q hq => by unfold zsx; omega)
theorem XS_28 {T W : zN2} {μ μ' : zMem} (h : zfr zsx μ μ') (hS : XS T W 23 μ) : XS T W 23 μ' := XS_of (fun key h1 h2 => h key (by unfold zsx; omega)) hS
theorem XT_28 {T : zN2} {μ μ' : zMem} (h : zfr zsx μ μ') (hX : XT T μ) : XT T μ' := XT_of (fun key h2 => h key (by unfold zsx; omega)) hX
theorem XR_28 {r : Nat} {R : Nat → Nat} {μ μ' : zMem} (h : zfr zsx μ μ') (hR : XR r R 23 μ) : XR r R 23 μ' := XR_of (by rw [h 23 (by unfold zsx; omega)]) (h _ (by unfold zsx; omega)) hR
/-- the live scene on the trial -/
theorem x_trial {T W : zN2} {μ : zMem} (hT : TB T) (hW : WB T W) (hS : XS T W 23 μ) : ∃ μ', f5_copyWorld 28 23 μ = some (0, zi 0, μ') ∧ XS T W 28 μ' ∧ zfr (fun q => 28 ≤ q ∧ q < 32) μ μ' := by
  obtain ⟨μ', a, b, c, -⟩ := x_copyWorld (k := 28) (k2 := 23) (by omega) hT hW hS
  exact ⟨μ', a, b, c.mono (fun q hq => by omega)⟩
theorem MR_j {J S : Nat → Prop} {r : Nat} {R : Nat → Nat} {μ μ' : zMem} (h : mfr J S μ μ') (hJ : ¬ J 21) (hS : ∀ i, i < 30 → ¬ S (61 + i)) (hr : r ≤ 30) (hR : MR r R μ) : MR r R μ' := MR_of (h.2 21 hJ) (fun i hi => h.1 _ (by omega) (hS i hi)) hr hR
theorem MS_j {J S : Nat → Prop} {T W : zN2} {μ μ' : zMem} (h : mfr J S μ μ') (hJ : ¬ J 20 ∧ ¬ J 30) (hS4 : ¬ S 4) (hS : ∀ k, zsk k → ¬ S k) (hS15 : ∀ p, p < 9 → ¬ S (15 + p)) (hT : TB T) (hW : WB T W) (hM : MS T W μ) : MS T W μ' :=
  MS_at (h.2 20 hJ.1) (h.2 30 hJ.2) (by rw [h.1 4 (by decide) hS4]) (h.1 91 (by decide) (hS 91 (Or.inl rfl))) (h.1 92 (by decide) (hS 92 (Or.inr (Or.inl rfl)))) (fun p hp => h.1 (51 + p) (by omega) (hS (51 + p) (Or.inr (Or.inr (by omega))))) (fun p hp => by rw [h.1 (15 + p) (by omega) (hS15 p hp)]) hT hW hM
theorem MT_j {J S : Nat → Prop} {T : zN2} {μ μ' : zMem} (h : mfr J S μ μ') (hS : ∀ k, zmk k → ¬ S k) (hT : TB T) (hM : MT T μ) : MT T μ' := MT_q (fun key hk => h.1 key (by unfold zmk at hk; omega) (hS key hk)) hT hM
theorem P_judge {x : Int32} {μX μM : zMem} (h : zInv μX μM) : zPm cI (f8_judge x μX) (f9_judge x μM) := by
  have h' := h
  obtain ⟨T, W, r, R, n, m, WI, rI, RI, ⟨hT, hW, hL, hX, hM, hS, hS', h30, hB, hR, hR'⟩, ht, hf, hi⟩ := h
  have hM0 := MT_0 (v := zi 0) hT hM
  have hS0 := MS_0 (v := zi 0) hT hW hS'
  have e00 : zset μM 0 0 (zi 0) 0 0 = zi 0 := zset_00
  rcases zcase x 2 (by omega) with ⟨w, hw, rfl⟩ | hx
  · obtain ⟨μ1, a1, a2, a3⟩ := x_trial hT hW hS
    obtain ⟨μ2, b1, b2⟩ := x_judge_L hT hW hL.2.2.1 (XT_28 (zsx_28 a3) hX) a2 hB (XR_28 (zsx_28 a3) hR) (fun (x2_24 : Int32) (x3_25 : Int32) (μ26 : zMem) => if w = 0 then some (0, x2_24, μ26) else some (0, x3_25, μ26))
    obtain ⟨m1, c1, c2, c3⟩ := m_lays0 (i := 0) (μ := zset μM 0 0 (zi 0)) (by decide)
    have g1 : MS T W m1 := MS_j c3 ⟨by decide, by decide⟩ (by decide) (fun k hk => by unfold zsk at hk; omega) (fun p hp => by omega) hT hW hS0
    have g2 : MT T m1 := MT_j c3 (fun k hk => by unfold zmk at hk; omega) hT hM0
    have g3 : MR r R m1 := MR_j c3 (by decide) (fun i hi => by omega) hB.1 (MR_q zmq_0 hB.1 hR')
    have g4 : m1 0 30 = zN1 := by rw [c3.2 30 (by decide), zset_nj (by decide)]; exact h30
    obtain ⟨m2, d1, d2⟩ := m_judge_L hT hW hL.2.2.1 g2 g1 g4 hB g3 (fun (x2_57 : Int32) (x3_58 : Int32) (μ59 : zMem) => bnd0 (f9_lays (zi 0) (zi 1) μ59) (fun (v60 : Int32) (μ61 : zMem) => if w = 0 then some (0, x2_57, μ61) else some (0, x3_58, μ61)))
    obtain ⟨m3, f1, f2, f3⟩ := m_lays1 (i := 0) (μ := m2) (by decide)
    obtain ⟨q1, q2⟩ := zmq_aside (i := 0) (by decide) c2 c3 d2 f2 f3 (by unfold zsk; omega) (fun k hk => by unfold zmk at hk; unfold zsk; omega) ⟨by decide, by decide, by decide, by decide⟩
    refine zPm_q h' (μX' := μ2) (μM' := m3) (e := 0) (v := if w = 0 then (zit (jS T R) r 0 (W, zN1, 0)).2.1 else zi (zit (jS T R) r 0 (W, zN1, 0)).2.2) (w := if w = 0 then (zit (jS T R) r 0 (W, zN1, 0)).2.1 else zi (zit (jS T R) r 0 (W, zN1, 0)).2.2) ?_ ?_ ?_ (fun _ => rfl) (Or.inl rfl) ((zsx_28 a3).trans (zsx_28 b2)) (zmq_0.trans q1)
    · unfold f8_judge
      simp (disch := omega) only [↓zneg1', zlit', x_needW_ok, bnd_ok', a1, bnd0_ok', zlet_e', zi_eq]
      rw [b1]
      by_cases h0 : w = 0
      · simp only [h0, if_true]
      · simp only [h0, if_false]
    · unfold f9_judge
      simp (disch := omega) only [↓zneg1', zlit', zlet_e', m_inn_o, bnd0_ok', if_true, if_false, ite_true, ite_false, Bool.false_eq_true, Bool.true_eq_false, reduceIte, z10, z01, Nat.one_ne_zero, Nat.zero_ne_one, m_bad0 e00, c1, zi_eq]
      rw [d1]
      simp only [f1, bnd0_ok']
      by_cases h0 : w = 0
      · simp only [h0, if_true]
      · simp only [h0, if_false]
    · rw [q2 0 (by decide) (by decide) (by decide) (by decide)]; exact zset_00
  · refine zPm_q h' (μX' := μX) (μM' := zset (zset μM 0 0 (zi 0)) 0 0 (zi 1)) (e := 1) (v := zi 0) (w := zi 0) ?_ ?_ zset_00 (fun h => absurd h (by decide)) (Or.inr (by decide)) zfr.refl zmq_00
    · unfold f8_judge; simp (disch := omega) only [zlit, x_needW_no (show 1 < 1000 by decide) hx, bnd_ex (e := 0)]
    · unfold f9_judge; simp (disch := omega) only [zlet_e, zlit, m_inn_c (show 1 < 1000 by decide) hx, bnd0_ok, if_true, if_false, ite_true, ite_false, Bool.false_eq_true, Bool.true_eq_false, reduceIte, z10, z01, Nat.one_ne_zero, Nat.zero_ne_one, m_bad1 e00]
