/-! THE PURE SIDE, 5: the reference's scene -/
theorem MT_fr {T : zN2} {μ μ' : zMem} {S : Nat → Prop} (h : zfr S μ μ') (h4 : ¬ S 4) (h47 : ¬ S 47) (h49 : ¬ S 49) (h15 : ∀ p, p < 9 → ¬ S (15 + p)) (h36 : ∀ d, d < 10 → ¬ S (36 + d)) (hT : TB T) (hM : MT T μ) : MT T μ' := by
  have hP := hT.2.1
  have hD := hT.2.2.1
  obtain ⟨m1, m2, m3, m4, m5⟩ := hM
  unfold MT
  rw [h 4 h4, h 47 h47, h 49 h49]
  refine ⟨m1, m2, m3, fun p hp => ?_, fun d hd => ?_⟩
  · rw [h (15 + p) (h15 p (by omega))]; exact m4 p hp
  · rw [h (36 + d) (h36 d (by omega))]; exact m5 d hd
theorem m_isKin {T : zN2} {μ : zMem} (hT : TB T) (hM : MT T μ) {a b : Nat} (ha : a < 9) (hb : b < 32) : f9_isKin (zi a) (zi b) μ = some (0, zi (if (T 7 a).testBit b = true then 1 else 0), μ) := by
  have ho := kin_lt hT a
  unfold f9_isKin
  simp (disch := omega) only [zlet_e, zlit, zin_i, zi_cl, hM.2.2.1 a ha, zbit1]
  cases (T 7 a).testBit b
  · simp only [zbl_0, if_true, if_false, ite_true, ite_false, Bool.false_eq_true, Bool.true_eq_false, reduceIte, z10, z01]
  · simp only [zbl_1, if_true, if_false, ite_true, ite_false, Bool.false_eq_true, Bool.true_eq_false, reduceIte, z10, z01]
theorem m_slateOf {T W : zN2} {μ : zMem} (hT : TB T) (hW : WB T W) (hM : MT T μ) (hS : MS T W μ) : f9_slateOf (zi (W 0 0)) μ = some (0, zi (W 0 1), μ) := by
  have hS5 := hT.2.2.2.2.2.1
  have hn := hW.1
  have hQ := hT.1
  have ha := hW.2.1
  unfold f9_slateOf
  rcases hS.1.2.1 with ⟨h1, h2⟩ | h1
  · rw [h2]
    unfold tS
    by_cases h : T 2 5 = 0
    · simp (disch := omega) only [zlet_e, h1, ↓zneg1, zlit, zin_i, zi_cl, hM.1.2.2.2.2, h, if_true]
    · have hm : W 0 0 % T 2 5 < T 2 5 := Nat.mod_lt _ (by omega)
      simp (disch := omega) only [zlet_e, h1, ↓zneg1, zlit, zin_i, zi_cl, hM.1.2.2.2.2, h, if_true, if_false, zi_eq, znz_i, zrem_i, hM.2.1 _ hm]
  · simp (disch := omega) only [zlet_e, h1, ↓zneg1, zlit, zi_nN1, if_false]
theorem m_asked {T W : zN2} {μ : zMem} (hT : TB T) (hW : WB T W) (hM : MT T μ) (hS : MS T W μ) {d : Nat} (hd : d < T 2 2) : f9_asked (zi d) μ = some (0, zi (tA T W d), μ) := by
  have hD := hT.2.2.1
  have hA := hT.1
  have h1 := tb_11 hT d
  unfold f9_asked tA
  simp (disch := omega) only [zlet_e, ↓zneg1, zlit, zin_i, zi_cl, (hM.2.2.2.2 d hd).2.2.2, hS.1.1, m_slateOf hT hW hM hS, bnd0_ok]
  by_cases h : T 11 d = 0
  · simp only [if_pos h, if_true]
  · simp (disch := omega) only [if_neg h, zi_nN1, if_false]
theorem m_amount {a b : Nat} {μ : zMem} (ha : a < 1000) (hb : b < 1000) : f9_amount (zi a - zi b) μ = some (0, zi (zd a b), μ) := by
  unfold f9_amount
  have e : (zi a - zi b).toInt = (a : Int) - b := by rw [zI_sub] <;> rw [zi_int (by omega), zi_int (by omega)] <;> omega
  have e0 : (0 : Int32).toInt = 0 := rfl
  simp only [zlet_e]
  unfold zd
  by_cases h : b ≤ a
  · rw [if_pos (by rw [Int32.le_iff_toInt_le, e, e0]; omega), zi_sub h, show a - b + (b - a) = a - b by omega]
  · rw [if_neg (by rw [Int32.le_iff_toInt_le, e, e0]; omega)]
    congr 3
    apply zI_ext
    rw [zi_int (by omega), Int32.toInt_neg, e, zI_bm (by omega) (by omega)]; omega
theorem m_errs {T W : zN2} {μ : zMem} (hT : TB T) (hW : WB T W) (hM : MT T μ) (hS : MS T W μ) {d a b : Nat} (hd : d < T 2 2) (ha : a < W 0 3) (hb : b < W 0 3) : f9_errs (zi d) (zi a) (zi b) μ = some (0, zi (tE T W d a b), μ) := by
  have hD := hT.2.2.1
  have hP := hW.2.2.2.1
  have hA := tA_lt hT hW hd
  have hA4 := hT.1
  have h9 := tb_9 hT d
  have h10 := tb_10 hT d
  have hn := hW.1
  have hla := wb_1 hW a
  have hlb := wb_1 hW b
  have hg := hW.2.2.1
  have hta := wb_th hW a (tA T W d)
  have htb := wb_th hW b (tA T W d)
  have hz : zd (W (4 + a) (tA T W d)) (W (4 + b) (tA T W d)) ≤ 8 := by unfold zd; omega
  unfold f9_errs tE
  simp (disch := omega) only [zin_i, zi_cl, zlit, hS.2.2.2 d (by omega), zlet_e]
  cases (W 0 4).testBit d
  · simp (disch := omega) only [if_true, if_false, ite_true, ite_false, Bool.false_eq_true, Bool.true_eq_false, reduceIte, z10, z01, hS.1.1, (hM.2.2.2.2 d hd).2.2.1, zi_le]
    by_cases h2 : T 10 d < W 0 0
    · rw [if_neg (by omega), if_pos h2]
    · rw [if_pos (by omega), if_neg h2]
      simp (disch := omega) only [zi_eq, m_isKin hT hM, bnd0_ok]
      by_cases h3 : a = b
      · simp only [if_pos h3, h3, true_or, if_true]
      · simp only [if_neg h3, h3, false_or]
        cases (T 7 a).testBit b
        · simp (disch := omega) only [if_true, if_false, ite_true, ite_false, Bool.false_eq_true, Bool.true_eq_false, reduceIte, z10, z01, (hM.2.2.2.2 d hd).2.1, (hS.2.1 a ha).1, (hS.2.1 b hb).1, zi_le, zi_lt]
          by_cases h4 : W 1 a < T 9 d
          · rw [if_pos h4, if_pos (Or.inl h4)]
          · by_cases h4' : W 1 b < T 9 d
            · rw [if_neg h4, if_neg (by omega), if_pos (Or.inr h4')]
            · rw [if_neg h4, if_pos (by omega), if_neg (by omega)]
              simp (disch := omega) only [m_asked hT hW hM hS hd, bnd0_ok, zin_i, zi_cl, (hS.2.1 a ha).2 _ hA, (hS.2.1 b hb).2 _ hA, m_amount, hS.1.2.2, zi_le]
              by_cases h5 : zd (W (4 + a) (tA T W d)) (W (4 + b) (tA T W d)) < W 0 2
              · rw [if_neg (by omega), if_pos h5]
              · rw [if_pos (by omega), if_neg h5]
        · simp only [if_true, if_false, ite_true, ite_false, Bool.false_eq_true, Bool.true_eq_false, reduceIte, z10, z01]
  · simp only [if_true, if_false, ite_true, ite_false, Bool.false_eq_true, Bool.true_eq_false, reduceIte, z10, z01]
theorem m_canBe {T W : zN2} {μ : zMem} (hT : TB T) (hW : WB T W) (hM : MT T μ) (hS : MS T W μ) {d a b : Nat} (hd : d < T 2 2) (ha : a < W 0 3) (hb : b < W 0 3) : f9_canBe (zi d) (zi a) (zi b) μ = some (0, zi (if tE T W d a b = 0 then 1 else 0), μ) := by
  have hE : tE T W d a b < 10 := by unfold tE; repeat' split
                                    all_goals decide
  unfold f9_canBe
  simp (disch := omega) only [m_errs hT hW hM hS hd ha hb, bnd0_ok, zlet_e, zlit, zi_eq]
  by_cases h : tE T W d a b = 0
  · simp only [if_pos h, zbl_1]
  · simp only [if_neg h, zbl_0]
theorem m_nears {μ : zMem} {a b q x y la lb : Nat} (ha : a < 9) (hb : b < 9) (hab : a ≠ b) (hq : q < 4) (hx : μ (51 + a) q = zi x) (hy : μ (51 + b) q = zi y) (hla : μ (15 + a) 4 = zi la) (hlb : μ (15 + b) 4 = zi lb) (hx8 : x ≤ 8) (hy8 : y ≤ 8) (hla4 : la ≤ 4) (hlb4 : lb ≤ 4) :
    ∃ μ', f9_nears (zi a) (zi b) (zi q) μ = some (0, zi 0, μ') ∧ ∀ key j, μ' key j = if key = 51 + a ∧ j = q then zi (nA x y la lb) else if key = 51 + b ∧ j = q then zi (nB x y la lb) else μ key j := by
  have hdiv1 : ∀ u v w : Nat, u * v / w ≤ u * v := fun u v w => Nat.div_le_self _ _
  unfold f9_nears
  simp (disch := omega) only [zin_i, zi_cl, zlit, zlet_e, hx, hy, zi_le, zi_lt]
  by_cases h : x ≤ y
  · have hm : (y - x) * la ≤ 8 * 4 := Nat.mul_le_mul (by omega) hla4
    simp (disch := omega) only [h, if_true, zi_add, zi_sub, Nat.add_sub_cancel_left, zin_i, zi_cl, hx, hy, hla, hlb, zi_lt, zi_mul, show ¬ y < x by omega, if_false]
    unfold nA nB nLo nHi
    rw [if_pos h, if_pos h]
    by_cases h' : la + lb ≤ y - x
    · simp (disch := omega) only [show ¬ y - x < la + lb by omega, if_false, zset_nk, hy, if_pos h', zi_sub]
      refine ⟨_, rfl, ?_⟩
      intro key j
      simp only [zset_at]
      repeat' split
      all_goals first | rfl | (exfalso; omega)
    · simp (disch := omega) only [show y - x < la + lb by omega, if_true, znz_i, zi_div, zi_add, zset_eq, if_neg h']
      refine ⟨_, rfl, ?_⟩
      intro key j
      simp only [zset_at]
      repeat' split
      all_goals first | rfl | (exfalso; omega)
  · have hm : (x - y) * lb ≤ 8 * 4 := Nat.mul_le_mul (by omega) hlb4
    simp (disch := omega) only [h, if_false, zi_add, zi_sub, Nat.add_sub_cancel, zin_i, zi_cl, hx, hy, hla, hlb, zi_lt, zi_mul, show y < x by omega, if_true]
    unfold nA nB nLo nHi
    rw [if_neg h, if_neg h]
    by_cases h' : lb + la ≤ x - y
    · simp (disch := omega) only [show ¬ x - y < lb + la by omega, if_false, zset_nk, hx, if_pos h', zi_sub]
      refine ⟨_, rfl, ?_⟩
      intro key j
      simp only [zset_at]
      repeat' split
      all_goals first | rfl | (exfalso; omega)
    · simp (disch := omega) only [show x - y < lb + la by omega, if_true, znz_i, zi_div, zi_add, zset_eq, if_neg h']
      refine ⟨_, rfl, ?_⟩
      intro key j
      simp only [zset_at]
      repeat' split
      all_goals first | rfl | (exfalso; omega)
theorem m_works {T W : zN2} {μ : zMem} (hT : TB T) (hW : WB T W) (hM : MT T μ) (hS : MS T W μ) {d a b : Nat} (hd : d < T 2 2) (ha : a < W 0 3) (hb : b < W 0 3) (haP : a < T 2 1) (hbP : b < T 2 1) (hab : a ≠ b) (hla : T 9 d ≤ W 1 a) (hlb : T 9 d ≤ W 1 b) :
    ∃ μ', f9_works (zi d) (zi a) (zi b) μ = some (0, zi 0, μ') ∧ MS T (tK T W d a b) μ' ∧ zfr (fun q => q = 91 ∨ q = 92 ∨ (51 ≤ q ∧ q < 60)) μ μ' := by
  have hD := hT.2.2.1
  have hP := hW.2.2.2.1
  have hA := tA_lt hT hW hd
  have hA4 := hT.1
  have h9 := tb_9 hT d
  have hla' := wb_1 hW a
  have hlb' := wb_1 hW b
  have hta := wb_th hW a (tA T W d)
  have htb := wb_th hW b (tA T W d)
  have hea := wb_2 hW a
  have heb := wb_2 hW b
  -- the memory ahead of nears
  have hfr : zfr (fun q => q = 91 ∨ q = 92 ∨ (51 ≤ q ∧ q < 60)) μ (zset (zset (zset μ 92 d (zi 1)) 91 a (zi (W 1 a - T 9 d))) 91 b (zi (W 1 b - T 9 d))) :=
    ((zfr.refl.set (Or.inr (Or.inl rfl))).set (Or.inl rfl)).set (Or.inl rfl)
  have hM1 : MT T (zset (zset (zset μ 92 d (zi 1)) 91 a (zi (W 1 a - T 9 d))) 91 b (zi (W 1 b - T 9 d))) := MT_fr hfr (by omega) (by omega) (by omega) (fun p hp => by omega) (fun d hd => by omega) hT hM
  have hA1 : f9_asked (zi d) (zset (zset (zset μ 92 d (zi 1)) 91 a (zi (W 1 a - T 9 d))) 91 b (zi (W 1 b - T 9 d))) = some (0, zi (tA T W d), zset (zset (zset μ 92 d (zi 1)) 91 a (zi (W 1 a - T 9 d))) 91 b (zi (W 1 b - T 9 d))) := by
    have h1 := tb_11 hT d
    have hn := hW.1
    have hS5 := hT.2.2.2.2.2.1
    have haa := hW.2.1
    unfold f9_asked tA f9_slateOf
    simp (disch := omega) only [zlet_e, ↓zneg1, zlit, zin_i, zi_cl, (hM1.2.2.2.2 d hd).2.2.2, zset_nk]
    by_cases h : T 11 d = 0
    · simp only [if_pos h, if_true]
      have e := m_slateOf hT hW hM hS
      unfold f9_slateOf at e
      simp only [hS.1.1]
      rcases hS.1.2.1 with ⟨h1, h2⟩ | h1
      · rw [h2]
        unfold tS
        by_cases h : T 2 5 = 0
        · simp (disch := omega) only [h1, hM.1.2.2.2.2, h, if_true, bnd0_ok]
        · have hm : W 0 0 % T 2 5 < T 2 5 := Nat.mod_lt _ (by omega)
          simp (disch := omega) only [h1, zin_i, zi_cl, hM.1.2.2.2.2, h, if_true, if_false, zi_eq, znz_i, zrem_i, hM.2.1 _ hm, bnd0_ok]
      · simp (disch := omega) only [h1, zi_nN1, if_false, bnd0_ok]
    · simp (disch := omega) only [if_neg h, zi_nN1, if_false]
  obtain ⟨μ', h1, h2⟩ := m_nears (μ := zset (zset (zset μ 92 d (zi 1)) 91 a (zi (W 1 a - T 9 d))) 91 b (zi (W 1 b - T 9 d))) (a := a) (b := b) (q := tA T W d) (x := W (4 + a) (tA T W d)) (y := W (4 + b) (tA T W d)) (la := W 2 a) (lb := W 2 b) (by omega) (by omega) hab (by omega)
    (by rw [zset_nk (by omega), zset_nk (by omega), zset_nk (by omega)]; exact (hS.2.1 a ha).2 _ hA) (by rw [zset_nk (by omega), zset_nk (by omega), zset_nk (by omega)]; exact (hS.2.1 b hb).2 _ hA)
    (by rw [zset_nk (by omega), zset_nk (by omega), zset_nk (by omega)]; exact hS.2.2.1 a haP) (by rw [zset_nk (by omega), zset_nk (by omega), zset_nk (by omega)]; exact hS.2.2.1 b hbP) hta htb hea heb
  refine ⟨μ', ?_, ?_, ?_⟩
  · unfold f9_works
    simp (disch := omega) only [zin_i, zi_cl, zlit, zlet_e, zset_nk, zset_nj, (hS.2.1 a ha).1, (hS.2.1 b hb).1, (hM.2.2.2.2 d hd).2.1, zi_sub, hA1, bnd0_ok, h1]
  · have e3 : tK T W d a b 0 3 = W 0 3 := tK_0 hab (by decide)
    refine ⟨⟨?_, ?_, ?_⟩, ?_, ?_, ?_⟩
    · rw [h2, tK_0 hab (by decide), if_neg (by omega), if_neg (by omega)]
      simp (disch := omega) only [zset_nk]; exact hS.1.1
    · rw [h2, tK_0 hab (by decide), tK_0 hab (by decide), if_neg (by omega), if_neg (by omega)]
      simp (disch := omega) only [zset_nk]; exact hS.1.2.1
    · rw [h2, tK_0 hab (by decide), if_neg (by omega), if_neg (by omega)]
      simp (disch := omega) only [zset_nk]; exact hS.1.2.2
    · intro p hp
      rw [e3] at hp
      refine ⟨?_, ?_⟩
      · rw [h2, tK_at hab, if_neg (by omega), if_neg (by omega)]
        simp only [zset_at]
        rw [(hS.2.1 p hp).1]
        repeat' split
        all_goals first | rfl | (exfalso; omega)
      · intro q hq
        rw [h2, tK_at hab]
        simp only [zset_at]
        rw [(hS.2.1 p hp).2 q hq]
        repeat' split
        all_goals first | rfl | (exfalso; omega)
    · intro p hp
      have hPP := hT.2.1
      rw [h2, tK_2 hab, if_neg (by omega), if_neg (by omega)]
      simp (disch := omega) only [zset_nk]; exact hS.2.2.1 p hp
    · intro e he
      rw [h2, if_neg (by omega), if_neg (by omega), show tK T W d a b 0 4 = W 0 4 ||| 2 ^ d from nup_eq]
      simp (disch := omega) only [zset_nk]
      rw [zset_at, hS.2.2.2 e he, Nat.testBit_or, Nat.testBit_two_pow]
      by_cases h : e = d
      · rw [if_pos ⟨rfl, h⟩, if_pos (by rw [h]; simp)]
      · rw [if_neg (fun q => h q.2), decide_eq_false (fun q => h q.symm), Bool.or_false]
  · intro key hkey
    funext j
    rw [h2]
    rw [hfr key hkey]
    repeat' split
    all_goals first | rfl | (exfalso; omega)
