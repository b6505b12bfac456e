/-! THE PURE SIDE, 14: calls, on -/
theorem m_person_L {T : zN2} {μ : zMem} (hT : TB T) (hM : MT T μ) (K : Int32 → zMem → zRes) {p : Nat} (hp : p < 9) : f9_person_L55 (zi p) K zF (zi 0) (zi 0) μ = K (zi (nsum (fun k => b01 ((T 7 p).testBit k)) (T 2 1))) μ := by
  have hP := hT.2.1
  obtain ⟨s, h1, h2⟩ := zloopE (L := fun n i (s : Int32 × zMem) => f9_person_L55 (zi p) K n s.1 (zi i) s.2) (N := T 2 1) (o := fun s => K s.1 s.2) (fun i s => s = (zi (nsum (fun k => b01 ((T 7 p).testBit k)) i), μ))
    (fun n s hs => by subst hs; simp (disch := omega) only [f9_person_L55, zlit, zin_i, zi_cl, hM.1.2.1, zi_le, Nat.le_refl, if_true])
    (fun n i s hi hs => ⟨(zi (nsum (fun k => b01 ((T 7 p).testBit k)) (i + 1)), μ), by
      subst hs
      show _ = f9_person_L55 (zi p) K n (zi (nsum (fun k => b01 ((T 7 p).testBit k)) i + b01 ((T 7 p).testBit i))) (zi (i + 1)) μ
      simp (disch := omega) only [f9_person_L55, zlit, zin_i, zi_cl, hM.1.2.1, zi_le, show ¬ T 2 1 ≤ i by omega, if_false, zlet_e, m_isKin hT hM, bnd0_ok, zi_add]
      unfold b01
      cases (T 7 p).testBit i
      · simp only [if_true, if_false, ite_true, ite_false, Bool.false_eq_true, Bool.true_eq_false, reduceIte, z10, z01, Nat.one_ne_zero, Nat.zero_ne_one, Nat.add_zero]
      · simp only [if_true, if_false, ite_true, ite_false, Bool.false_eq_true, Bool.true_eq_false, reduceIte, z10, z01, Nat.one_ne_zero, Nat.zero_ne_one], rfl⟩)
    (T 2 1) 0 (zi 0, μ) zF (by omega) (by unfold zF; omega) rfl
  subst h2
  exact h1
theorem P_person {x y : Int32} {μX μM : zMem} (h : zInv μX μM) : zPm cNI (f8_person x y μX) (f9_person x y μM) := by
  have h' := h
  obtain ⟨T, W, r, R, n, m, WI, rI, RI, ⟨hT, hW, hL, hX, hM, hS, hS', h30, hB, hR, hR'⟩, ht, hf, hi⟩ := h
  have hP := hT.2.1
  have hM0 := MT_0 (v := zi 0) hT hM
  have e00 : zset μM 0 0 (zi 0) 0 0 = zi 0 := zset_00
  rcases zcase x (T 2 1) (by omega) with ⟨p, hp, rfl⟩ | hx
  · have hpW : p < W 0 3 := by rw [hL.2.2.1]; exact hp
    have hml := fun K => m_person_L hT hM0 K (show p < 9 by omega)
    rcases zcase y 4 (by omega) with ⟨q, hq, rfl⟩ | hy
    · have hq : q = 0 ∨ q = 1 ∨ q = 2 ∨ q = 3 := by omega
      rcases hq with rfl | rfl | rfl | rfl
      · refine zPm_q h' (μX' := μX) (μM' := zset μM 0 0 (zi 0)) (e := 0) (v := zi (T 5 p)) (w := zi (T 5 p)) ?_ ?_ zset_00 (fun _ => rfl) (Or.inl rfl) zfr.refl zmq_0
        · unfold f8_person; simp (disch := omega) only [x_needP_ok hT hX hp, bnd_ok, zlit, if_true, zin_i, zi_cl, (hX.2.2.2.1 p hp).1]
        · unfold f9_person; simp (disch := omega) only [zlet_e', zlit', m_isP_ok hT hM0 hp, m_inn_o, bnd0_ok', m_bad0 e00, if_true, if_false, ite_true, ite_false, Bool.false_eq_true, Bool.true_eq_false, reduceIte, z10, z01, Nat.one_ne_zero, Nat.zero_ne_one, hml, zin_i, zi_cl, zset_nk, hS'.2.2.1 p hp, hL.2.2.2 p hp]
      · refine zPm_q h' (μX' := μX) (μM' := zset μM 0 0 (zi 0)) (e := 0) (v := zi (W 1 p)) (w := zi (W 1 p)) ?_ ?_ zset_00 (fun _ => rfl) (Or.inl rfl) zfr.refl zmq_0
        · unfold f8_person; simp (disch := omega) only [x_needP_ok hT hX hp, bnd_ok, zlit, if_true, if_false, ite_true, ite_false, Bool.false_eq_true, Bool.true_eq_false, reduceIte, z10, z01, Nat.one_ne_zero, Nat.zero_ne_one, zin_i, zi_cl, (hS.2 p hpW).1]
        · unfold f9_person; simp (disch := omega) only [zlet_e', zlit', m_isP_ok hT hM0 hp, m_inn_o, bnd0_ok', m_bad0 e00, if_true, if_false, ite_true, ite_false, Bool.false_eq_true, Bool.true_eq_false, reduceIte, z10, z01, Nat.one_ne_zero, Nat.zero_ne_one, hml, zin_i, zi_cl, zset_nk, (hS'.2.1 p hpW).1]
      · refine zPm_q h' (μX' := μX) (μM' := zset μM 0 0 (zi 0)) (e := 0) (v := zi (T 6 p)) (w := zi (T 6 p)) ?_ ?_ zset_00 (fun _ => rfl) (Or.inl rfl) zfr.refl zmq_0
        · unfold f8_person; simp (disch := omega) only [x_needP_ok hT hX hp, bnd_ok, zlit, zi_eq, show ¬ 2 = 0 by omega, show ¬ 2 = 1 by omega, if_true, if_false, ite_true, ite_false, Bool.false_eq_true, Bool.true_eq_false, reduceIte, z10, z01, Nat.one_ne_zero, Nat.zero_ne_one, zin_i, zi_cl, (hX.2.2.2.1 p hp).2]
        · unfold f9_person; simp (disch := omega) only [zlet_e', zlit', m_isP_ok hT hM0 hp, m_inn_o, bnd0_ok', m_bad0 e00, zi_eq, show ¬ 2 = 0 by omega, show ¬ 2 = 1 by omega, if_true, if_false, ite_true, ite_false, Bool.false_eq_true, Bool.true_eq_false, reduceIte, z10, z01, Nat.one_ne_zero, Nat.zero_ne_one, hml, zin_i, zi_cl, zset_nk, hM.2.2.2.1 p hp]
      · refine zPm_q h' (μX' := μX) (μM' := zset μM 0 0 (zi 0)) (e := 0) (v := zi (popc (T 7 p))) (w := zi (nsum (fun k => b01 ((T 7 p).testBit k)) (T 2 1))) ?_ ?_ zset_00 (fun _ => ?_) (Or.inl rfl) zfr.refl zmq_0
        · have hk := kin_lt hT p
          unfold f8_person; simp (disch := omega) only [x_needP_ok hT hX hp, bnd_ok, zlit, zi_eq, show ¬ 3 = 0 by omega, show ¬ 3 = 1 by omega, show ¬ 3 = 2 by omega, if_true, if_false, ite_true, ite_false, Bool.false_eq_true, Bool.true_eq_false, reduceIte, z10, z01, Nat.one_ne_zero, Nat.zero_ne_one, zin_i, zi_cl, hX.2.2.1 p (by omega), x_bitCount (show T 7 p < 1024 by omega), bnd0_ok]
        · unfold f9_person; simp (disch := omega) only [zlet_e', zlit', m_isP_ok hT hM0 hp, m_inn_o, bnd0_ok', m_bad0 e00, zi_eq, show ¬ 3 = 0 by omega, show ¬ 3 = 1 by omega, show ¬ 3 = 2 by omega, if_true, if_false, ite_true, ite_false, Bool.false_eq_true, Bool.true_eq_false, reduceIte, z10, z01, Nat.one_ne_zero, Nat.zero_ne_one, hml]
        · rw [popc_lt (hT.2.2.2.2.2.2.2.2.2.2.1 p) (by omega)]
    · refine zPm_q h' (μX' := μX) (μM' := zset (zset μM 0 0 (zi 0)) 0 0 (zi 2)) (e := 1) (v := zi 0) (w := zi 0) ?_ ?_ zset_00 (fun h => absurd h (by decide)) (Or.inr (by decide)) zfr.refl zmq_00
      · unfold f8_person; simp (disch := omega) only [x_needP_ok hT hX hp, bnd_ok, zlit, znot hy, if_false]
      · unfold f9_person; simp (disch := omega) only [zlet_e', zlit', m_isP_ok hT hM0 hp, m_inn_c (show 3 < 1000 by decide) hy, bnd0_ok', m_bad0 e00, m_bad1 e00, if_true, if_false, ite_true, ite_false, Bool.false_eq_true, Bool.true_eq_false, reduceIte, z10, z01, Nat.one_ne_zero, Nat.zero_ne_one]
  · refine zPm_q h' (μX' := μX) (μM' := zset (zset μM 0 0 (zi 0)) 0 0 (zi 1)) (e := 2) (v := zi 0) (w := zi 0) ?_ ?_ zset_00 (fun h => absurd h (by decide)) (Or.inr (by decide)) zfr.refl zmq_00
    · unfold f8_person
      simp only [x_needP_no hX hx, bnd_ex (e := 1)]
    · unfold f9_person
      simp (disch := omega) only [zlet_e, zlit, m_isP_no hT hM0 hx, bnd0_ok, m_bad1 e00, if_true, if_false, ite_true, ite_false, Bool.false_eq_true, Bool.true_eq_false, reduceIte, z10, z01, Nat.one_ne_zero, Nat.zero_ne_one]
theorem x_kinPairs {T : zN2} {μ : zMem} (hT : TB T) (hX : XT T μ) : f7_kinPairs μ = some (0, zi (nsum (fun p => popc (T 7 p)) (T 2 1) / 2), μ) := by
  have hP := hT.2.1
  obtain ⟨s, h1, h2⟩ := zloopE (L := fun n i (s : Int32 × zMem) => f7_kinPairs_L4 (fun (x1_7 : Int32) (μ8 : zMem) => some (0, x1_7 / (zi 2), μ8)) n s.1 (zi i) s.2) (N := T 2 1) (o := fun s => some (0, s.1 / (zi 2), s.2)) (fun i s => s = (zi (nsum (fun p => popc (T 7 p)) i), μ))
    (fun n s hs => by subst hs; simp (disch := omega) only [f7_kinPairs_L4, hX.1.2.1, zi_le, Nat.le_refl, if_true])
    (fun n i s hi hs => ⟨(zi (nsum (fun p => popc (T 7 p)) (i + 1)), μ), by
      subst hs
      have hk := kin_lt hT i
      simp (disch := omega) only [f7_kinPairs_L4, hX.1.2.1, zi_le, show ¬ T 2 1 ≤ i by omega, if_false, zlet_e, zlit, zin_i, zi_cl, hX.2.2.1 i (by omega), x_bitCount (show T 7 i < 1024 by omega), bnd0_ok, zi_add]
      rfl, rfl⟩)
    (T 2 1) 0 (zi 0, μ) zF (by omega) (by unfold zF; omega) rfl
  subst h2
  have hle := nsum_le (f := fun p => popc (T 7 p)) (c := 12) (T 2 1) (fun i _ => popc_le _)
  simp only [f7_kinPairs, zlit]
  refine h1.trans ?_
  simp (disch := omega) only [zi_div]
theorem m_told_L59 {T : zN2} {μ : zMem} (hT : TB T) (hM : MT T μ) (K : Int32 → zMem → zRes) {a c : Nat} (ha : a < 9) : f9_told_L59 (zi a) K zF (zi c) (zi 0) μ = K (zi (c + nsum (fun k => b01 ((T 7 a).testBit k)) a)) μ := by
  obtain ⟨s, h1, h2⟩ := zloopE (L := fun n i (s : Int32 × zMem) => f9_told_L59 (zi a) K n s.1 (zi i) s.2) (N := a) (o := fun s => K s.1 s.2) (fun i s => s = (zi (c + nsum (fun k => b01 ((T 7 a).testBit k)) i), μ))
    (fun n s hs => by subst hs; simp (disch := omega) only [f9_told_L59, zi_le, Nat.le_refl, if_true])
    (fun n i s hi hs => ⟨(zi (c + nsum (fun k => b01 ((T 7 a).testBit k)) (i + 1)), μ), by
      subst hs
      show _ = f9_told_L59 (zi a) K n (zi (c + (nsum (fun k => b01 ((T 7 a).testBit k)) i + b01 ((T 7 a).testBit i)))) (zi (i + 1)) μ
      simp (disch := omega) only [f9_told_L59, zlit, zi_le, show ¬ a ≤ i by omega, if_false, zlet_e, m_isKin hT hM, bnd0_ok, zi_add]
      unfold b01
      cases (T 7 a).testBit i
      · simp only [if_true, if_false, ite_true, ite_false, Bool.false_eq_true, Bool.true_eq_false, reduceIte, z10, z01, Nat.one_ne_zero, Nat.zero_ne_one, Nat.add_zero]
      · simp only [if_true, if_false, ite_true, ite_false, Bool.false_eq_true, Bool.true_eq_false, reduceIte, z10, z01, Nat.one_ne_zero, Nat.zero_ne_one, Nat.add_assoc], rfl⟩)
    a 0 (zi c, μ) zF (by omega) (by unfold zF; omega) rfl
  subst h2
  exact h1
theorem m_told_L46 {T : zN2} {μ : zMem} (hT : TB T) (hM : MT T μ) (K : Int32 → zMem → zRes) : f9_told_L46 K zF (zi 0) (zi 0) μ = K (zi (nsum (fun a => nsum (fun k => b01 ((T 7 a).testBit k)) a) (T 2 1))) μ := by
  have hP := hT.2.1
  obtain ⟨s, h1, h2⟩ := zloopE (L := fun n i (s : Int32 × zMem) => f9_told_L46 K n s.1 (zi i) s.2) (N := T 2 1) (o := fun s => K s.1 s.2) (fun i s => s = (zi (nsum (fun a => nsum (fun k => b01 ((T 7 a).testBit k)) a) i), μ))
    (fun n s hs => by subst hs; simp (disch := omega) only [f9_told_L46, zlit, zin_i, zi_cl, hM.1.2.1, zi_le, Nat.le_refl, if_true])
    (fun n i s hi hs => ⟨(zi (nsum (fun a => nsum (fun k => b01 ((T 7 a).testBit k)) a) (i + 1)), μ), by
      subst hs
      simp (disch := omega) only [f9_told_L46, zlit', zin_i, zi_cl, hM.1.2.1, zi_le, show ¬ T 2 1 ≤ i by omega, if_false, m_told_L59 hT hM _ (show i < 9 by omega), zi_add]
      rfl, rfl⟩)
    (T 2 1) 0 (zi 0, μ) zF (by omega) (by unfold zF; omega) rfl
  subst h2
  exact h1
theorem P_told {x : Int32} {μX μM : zMem} (h : zInv μX μM) : zPm cI (f8_told x μX) (f9_told x μM) := by
  have h' := h
  obtain ⟨T, W, r, R, n, m, WI, rI, RI, ⟨hT, hW, hL, hX, hM, hS, hS', h30, hB, hR, hR'⟩, ht, hf, hi⟩ := h
  have hP := hT.2.1
  have hM0 := MT_0 (v := zi 0) hT hM
  have hml := m_told_L46 hT hM0
  have e00 : zset μM 0 0 (zi 0) 0 0 = zi 0 := zset_00
  obtain ⟨x0, x1, x2, x3, x4, x5⟩ := hX.1
  obtain ⟨m0, m1, m2, m4, m5⟩ := hM.1
  have m3 : μM 4 3 = zi (T 2 3) := by rw [hS'.1.2.2, hL.2.1]
  rcases zcase x 7 (by omega) with ⟨q, hq, rfl⟩ | hy
  · have hq : q = 0 ∨ q = 1 ∨ q = 2 ∨ q = 3 ∨ q = 4 ∨ q = 5 ∨ q = 6 := by omega
    rcases hq with rfl | rfl | rfl | rfl | rfl | rfl | rfl
    · refine zPm_q h' (μX' := μX) (μM' := zset μM 0 0 (zi 0)) (e := 0) (v := zi (T 2 0)) (w := zi (T 2 0)) ?_ ?_ zset_00 (fun _ => rfl) (Or.inl rfl) zfr.refl zmq_0
      · unfold f8_told; simp (disch := omega) only [zlit, if_true, x0]
      · unfold f9_told; simp (disch := omega) only [zlet_e', zlit', m_inn_o, bnd0_ok', m_bad0 e00, if_true, if_false, ite_true, ite_false, Bool.false_eq_true, Bool.true_eq_false, reduceIte, z10, z01, Nat.one_ne_zero, Nat.zero_ne_one, zi_le, show ¬ 5 ≤ 0 by omega, zin_i, zi_cl, zset_nk, m0]
    · refine zPm_q h' (μX' := μX) (μM' := zset μM 0 0 (zi 0)) (e := 0) (v := zi (T 2 1)) (w := zi (T 2 1)) ?_ ?_ zset_00 (fun _ => rfl) (Or.inl rfl) zfr.refl zmq_0
      · unfold f8_told; simp (disch := omega) only [zlit, if_true, if_false, ite_true, ite_false, Bool.false_eq_true, Bool.true_eq_false, reduceIte, z10, z01, Nat.one_ne_zero, Nat.zero_ne_one, x1]
      · unfold f9_told; simp (disch := omega) only [zlet_e', zlit', m_inn_o, bnd0_ok', m_bad0 e00, if_true, if_false, ite_true, ite_false, Bool.false_eq_true, Bool.true_eq_false, reduceIte, z10, z01, Nat.one_ne_zero, Nat.zero_ne_one, zi_le, show ¬ 5 ≤ 1 by omega, zin_i, zi_cl, zset_nk, m1]
    · refine zPm_q h' (μX' := μX) (μM' := zset μM 0 0 (zi 0)) (e := 0) (v := zi (T 2 2)) (w := zi (T 2 2)) ?_ ?_ zset_00 (fun _ => rfl) (Or.inl rfl) zfr.refl zmq_0
      · unfold f8_told; simp (disch := omega) only [zlit, zi_eq, show ¬ 2 = 0 by omega, show ¬ 2 = 1 by omega, if_true, if_false, ite_true, ite_false, Bool.false_eq_true, Bool.true_eq_false, reduceIte, z10, z01, Nat.one_ne_zero, Nat.zero_ne_one, x2]
      · unfold f9_told; simp (disch := omega) only [zlet_e', zlit', m_inn_o, bnd0_ok', m_bad0 e00, if_true, if_false, ite_true, ite_false, Bool.false_eq_true, Bool.true_eq_false, reduceIte, z10, z01, Nat.one_ne_zero, Nat.zero_ne_one, zi_le, show ¬ 5 ≤ 2 by omega, zin_i, zi_cl, zset_nk, m2]
    · refine zPm_q h' (μX' := μX) (μM' := zset μM 0 0 (zi 0)) (e := 0) (v := zi (T 2 3)) (w := zi (T 2 3)) ?_ ?_ zset_00 (fun _ => rfl) (Or.inl rfl) zfr.refl zmq_0
      · unfold f8_told; simp (disch := omega) only [zlit, zi_eq, show ¬ 3 = 0 by omega, show ¬ 3 = 1 by omega, show ¬ 3 = 2 by omega, if_true, if_false, ite_true, ite_false, Bool.false_eq_true, Bool.true_eq_false, reduceIte, z10, z01, Nat.one_ne_zero, Nat.zero_ne_one, x3]
      · unfold f9_told; simp (disch := omega) only [zlet_e', zlit', m_inn_o, bnd0_ok', m_bad0 e00, if_true, if_false, ite_true, ite_false, Bool.false_eq_true, Bool.true_eq_false, reduceIte, z10, z01, Nat.one_ne_zero, Nat.zero_ne_one, zi_le, show ¬ 5 ≤ 3 by omega, zin_i, zi_cl, zset_nk, m3]
    · refine zPm_q h' (μX' := μX) (μM' := zset μM 0 0 (zi 0)) (e := 0) (v := zi (T 2 4)) (w := zi (T 2 4)) ?_ ?_ zset_00 (fun _ => rfl) (Or.inl rfl) zfr.refl zmq_0
      · unfold f8_told; simp (disch := omega) only [zlit, zi_eq, show ¬ 4 = 0 by omega, show ¬ 4 = 1 by omega, show ¬ 4 = 2 by omega, show ¬ 4 = 3 by omega, if_true, if_false, ite_true, ite_false, Bool.false_eq_true, Bool.true_eq_false, reduceIte, z10, z01, Nat.one_ne_zero, Nat.zero_ne_one, x4]
      · unfold f9_told; simp (disch := omega) only [zlet_e', zlit', m_inn_o, bnd0_ok', m_bad0 e00, if_true, if_false, ite_true, ite_false, Bool.false_eq_true, Bool.true_eq_false, reduceIte, z10, z01, Nat.one_ne_zero, Nat.zero_ne_one, zi_le, show ¬ 5 ≤ 4 by omega, zin_i, zi_cl, zset_nk, m4]
    · refine zPm_q h' (μX' := μX) (μM' := zset μM 0 0 (zi 0)) (e := 0) (v := zi (nsum (fun p => popc (T 7 p)) (T 2 1) / 2)) (w := zi (nsum (fun a => nsum (fun k => b01 ((T 7 a).testBit k)) a) (T 2 1))) ?_ ?_ zset_00 (fun _ => ?_) (Or.inl rfl) zfr.refl zmq_0
      · unfold f8_told; simp (disch := omega) only [zlit, zi_eq, show ¬ 5 = 0 by omega, show ¬ 5 = 1 by omega, show ¬ 5 = 2 by omega, show ¬ 5 = 3 by omega, show ¬ 5 = 4 by omega, if_true, if_false, ite_true, ite_false, Bool.false_eq_true, Bool.true_eq_false, reduceIte, z10, z01, Nat.one_ne_zero, Nat.zero_ne_one, x_kinPairs hT hX, bnd0_ok]
      · unfold f9_told; simp (disch := omega) only [zlet_e', zlit', m_inn_o, bnd0_ok', m_bad0 e00, if_true, if_false, ite_true, ite_false, Bool.false_eq_true, Bool.true_eq_false, reduceIte, z10, z01, Nat.one_ne_zero, Nat.zero_ne_one, zi_le, Nat.le_refl, hml]
      · rw [nsum_congr (g := fun a => nsum (fun k => b01 ((T 7 a).testBit k)) (T 2 1)) (T 2 1) (fun i _ => popc_lt (hT.2.2.2.2.2.2.2.2.2.2.1 i) (by omega)), nsum_sym (k := fun a b => b01 ((T 7 a).testBit b)) (fun a b => by rw [tb_sym hT a b]) (fun a => by rw [tb_irr hT a]; rfl), Nat.mul_div_cancel_left _ (by decide)]
    · refine zPm_q h' (μX' := μX) (μM' := zset μM 0 0 (zi 0)) (e := 0) (v := zi (T 2 5)) (w := zi (T 2 5)) ?_ ?_ zset_00 (fun _ => rfl) (Or.inl rfl) zfr.refl zmq_0
      · unfold f8_told; simp (disch := omega) only [zlit, zi_eq, show ¬ 6 = 0 by omega, show ¬ 6 = 1 by omega, show ¬ 6 = 2 by omega, show ¬ 6 = 3 by omega, show ¬ 6 = 4 by omega, show ¬ 6 = 5 by omega, if_true, if_false, ite_true, ite_false, Bool.false_eq_true, Bool.true_eq_false, reduceIte, z10, z01, Nat.one_ne_zero, Nat.zero_ne_one, x5]
      · unfold f9_told; simp (disch := omega) only [zlet_e', zlit', m_inn_o, bnd0_ok', m_bad0 e00, if_true, if_false, ite_true, ite_false, Bool.false_eq_true, Bool.true_eq_false, reduceIte, z10, z01, Nat.one_ne_zero, Nat.zero_ne_one, zi_le, show 5 ≤ 6 by omega, hml, zi_eq, show ¬ 6 = 5 by omega, zin_i, zi_cl, zset_nk, m5]
  · refine zPm_q h' (μX' := μX) (μM' := zset (zset μM 0 0 (zi 0)) 0 0 (zi 1)) (e := 1) (v := zi 0) (w := zi 0) ?_ ?_ zset_00 (fun h => absurd h (by decide)) (Or.inr (by decide)) zfr.refl zmq_00
    · unfold f8_told; simp (disch := omega) only [zlit, znot hy, if_false]
    · unfold f9_told; simp (disch := omega) only [zlet_e', zlit', m_inn_c (show 6 < 1000 by decide) hy, bnd0_ok', m_bad1 e00, if_true, if_false, ite_true, ite_false, Bool.false_eq_true, Bool.true_eq_false, reduceIte, z10, z01, Nat.one_ne_zero, Nat.zero_ne_one]
