/-! THE PURE SIDE, 29: a DAY of a RUN in the reference -/
/-- the reference's runner -/
def mRn (T : zN2) (s : rT) (μ : zMem) : Prop := MT T μ ∧ MS T s.1 μ ∧ μ 1128 0 = zi s.2.1 ∧ μ 1128 1 = zi s.2.2.1 ∧ μ 1128 3 = s.2.2.2
def zrk (k : Nat) : Prop := zsk k ∨ k = 1128
theorem MT_1128 {T : zN2} {μ : zMem} {j : Nat} {v : Int32} (hT : TB T) (h : MT T μ) : MT T (zset μ 1128 j v) := MT_q (fun key hk => zset_nk (by unfold zmk at hk; omega)) hT h
theorem MS_1128 {T W : zN2} {μ : zMem} {j : Nat} {v : Int32} (hT : TB T) (hW : WB T W) (h : MS T W μ) : MS T W (zset μ 1128 j v) :=
  MS_at (by rw [zset_nk (by decide)]) (by rw [zset_nk (by decide)]) (by rw [zset_nk (by decide)]) (zset_nk (by decide)) (zset_nk (by decide)) (fun p hp => zset_nk (by omega)) (fun p hp => by rw [zset_nk (by omega)]) hT hW h
theorem m_day1 {T : zN2} {μ : zMem} {s : rT} (hT : TB T) (h : rOK T s) (hs : mRn T s μ) {r c n : Nat} (hr : r < 4) (e : rC T s.1 r = some c) (K : zMem → zRes) :
    ∃ μ', f9_runs_L204 (zi r) K (n + 1) (zi c) μ = f9_runs_L204 (zi r) K n (oI (rC T (rK T c s).1 r)) μ' ∧ mRn T (rK T c s) μ' ∧ mfr (fun _ => False) zrk μ μ' ∧ μ' 1128 2 = μ 1128 2 := by
  obtain ⟨ck, c1000, ce⟩ := rC_ok hT e
  obtain ⟨-, -, hab, -, l1, l2, -⟩ := tE_0 ce
  have hD := hT.2.2.1
  have hPP := hT.2.1
  obtain ⟨k1, k2, k3⟩ := ck
  obtain ⟨hM, hS, h0, h1, h3⟩ := hs
  have hq3 : (rK T c s).2.2.2 = if s.2.2.2 = zN1 then zi c else s.2.2.2 := rfl
  have hM3 : MT T (zset (zset (zset μ 1128 0 (zi (s.2.1 + T 8 (c / 100)))) 1128 1 (zi (s.2.2.1 + 1))) 1128 3 (rK T c s).2.2.2) := MT_1128 hT (MT_1128 hT (MT_1128 hT hM))
  have hS3 : MS T s.1 (zset (zset (zset μ 1128 0 (zi (s.2.1 + T 8 (c / 100)))) 1128 1 (zi (s.2.2.1 + 1))) 1128 3 (rK T c s).2.2.2) := MS_1128 hT h.1 (MS_1128 hT h.1 (MS_1128 hT h.1 hS))
  obtain ⟨μ', w1, w2, w3⟩ := m_works hT h.1 hM3 hS3 k1 (show c / 10 % 10 < s.1 0 3 by rw [h.2]; exact k2) (show c % 10 < s.1 0 3 by rw [h.2]; exact k3) k2 k3 hab l1 l2
  have hM' : MT T μ' := MT_fr w3 (by omega) (by omega) (by omega) (fun p hp => by omega) (fun d hd => by omega) hT hM3
  have hok := rK_ok hT h ⟨k1, k2, k3⟩ ce
  have hch := (m_chosen hT hok.1 hok.2 hM' w2 hr).1
  have e1128 : μ' 1128 = zset (zset (zset μ 1128 0 (zi (s.2.1 + T 8 (c / 100)))) 1128 1 (zi (s.2.2.1 + 1))) 1128 3 (rK T c s).2.2.2 1128 := w3 1128 (by omega)
  refine ⟨μ', ?_, ⟨hM', w2, ?_, ?_, ?_⟩, ⟨fun k hk0 hk => ?_, fun j _ => ?_⟩, ?_⟩
  · rw [hq3] at w1
    have hstep : f9_runs_L204 (zi r) K (n + 1) (zi c) μ = bnd0 (f9_works (zi (c / 100)) (zi (c / 10 % 10)) (zi (c % 10)) (zset (zset (zset μ 1128 0 (zi (s.2.1 + T 8 (c / 100)))) 1128 1 (zi (s.2.2.1 + 1))) 1128 3 (if s.2.2.2 = zN1 then zi c else s.2.2.2))) (fun (v53 : Int32) (μ54 : zMem) => bnd0 (f9_chosen (zi r) μ54) (fun (v55 : Int32) (μ56 : zMem) => f9_runs_L204 (zi r) K n v55 μ56)) := by
      by_cases hz : s.2.2.2 = zN1
      · simp (disch := omega) only [f9_runs_L204, ↓zneg1', zlit', zi_nN1, if_false, zin_i, zi_cl, zi_div, zrem_i, h0, (hM.2.2.2.2 _ k1).1, zi_add, zlet_e', zset_nj, h1, h3, hz, if_true]
      · simp (disch := omega) only [f9_runs_L204, ↓zneg1', zlit', zi_nN1, if_false, zin_i, zi_cl, zi_div, zrem_i, h0, (hM.2.2.2.2 _ k1).1, zi_add, zlet_e', zset_nj, h1, h3, hz]
    rw [hstep, w1, bnd0_ok]
    show bnd0 (f9_chosen (zi r) μ') _ = _
    have hch' : f9_chosen (zi r) μ' = some (0, oI (rC T (rK T c s).1 r), μ') := hch
    rw [hch', bnd0_ok]
  · rw [e1128, zset_nj (by decide), zset_nj (by decide), zset_eq]; rfl
  · rw [e1128, zset_nj (by decide), zset_eq]; rfl
  · rw [e1128, zset_eq]
  · rw [w3 k (by unfold zrk zsk at hk; omega), zset_nk (by unfold zrk at hk; omega), zset_nk (by unfold zrk at hk; omega), zset_nk (by unfold zrk at hk; omega)]
  · rw [w3 0 (by omega), zset_nk (by decide), zset_nk (by decide), zset_nk (by decide)]
  · rw [e1128, zset_nj (by decide), zset_nj (by decide), zset_nj (by decide)]
theorem m_day {T : zN2} (hT : TB T) {r : Nat} (hr : r < 4) (K : zMem → zRes) : ∀ (m n : Nat) (s : rT) (μ : zMem), T 2 2 - popn (T 2 2) (s.1 0 4) ≤ m → m < n → rOK T s → mRn T s μ →
    ∃ μ', f9_runs_L204 (zi r) K n (oI (rC T s.1 r)) μ = K μ' ∧ mRn T (rD T r m s) μ' ∧ mfr (fun _ => False) zrk μ μ' ∧ μ' 1128 2 = μ 1128 2 := by
  intro m
  have stop : ∀ (n : Nat) (s : rT) (μ : zMem), 0 < n → rC T s.1 r = none → f9_runs_L204 (zi r) K n (oI (rC T s.1 r)) μ = K μ := by
    intro n s μ hn e
    obtain ⟨n, rfl⟩ : ∃ k, n = k + 1 := ⟨n - 1, by omega⟩
    rw [e, f9_runs_L204]
    exact if_pos rfl
  induction m with
  | zero =>
    intro n s μ h1 h2 h3 h4
    have hfull := popn_full (s := s.1 0 4) (T 2 2) (by omega)
    have e : rC T s.1 r = none := rC_none hT (fun d a b hd h0 => by
      have := (tE_0 h0).1
      rw [hfull d hd] at this
      exact absurd this (by decide))
    exact ⟨μ, stop n s μ h2 e, h4, mfr.refl, rfl⟩
  | succ m ih =>
    intro n s μ h1 h2 h3 h4
    cases e : rC T s.1 r with
    | none =>
      refine ⟨μ, by rw [← e]; exact stop n s μ (by omega) e, ?_, mfr.refl, rfl⟩
      unfold rD; rw [e]; exact h4
    | some c =>
      obtain ⟨n, rfl⟩ : ∃ k, n = k + 1 := ⟨n - 1, by omega⟩
      obtain ⟨ck, c1000, ce⟩ := rC_ok hT e
      obtain ⟨hbit, -, hab, -, -, -, -⟩ := tE_0 ce
      obtain ⟨μ1, a1, a2, a3, a4⟩ := m_day1 hT h3 h4 hr e K (n := n)
      have hok := rK_ok hT h3 ck ce
      have hopen : (rK T c s).1 0 4 = s.1 0 4 ||| 2 ^ (c / 100) := (nup_eq : tK T s.1 (c / 100) (c / 10 % 10) (c % 10) 0 4 = s.1 0 4 ||| 2 ^ (c / 100))
      have hlt : popn (T 2 2) (s.1 0 4) < popn (T 2 2) ((rK T c s).1 0 4) := by
        rw [hopen]
        refine popn_lt sub2_l h3.1.2.2.2.2.2.2.2.2 (bor_lt h3.1.2.2.2.2.2.2.2.2 ck.1) ?_
        intro q
        have : (s.1 0 4 ||| 2 ^ (c / 100)).testBit (c / 100) = true := by rw [Nat.testBit_or, Nat.testBit_two_pow_self, Bool.or_true]
        rw [← q, hbit] at this
        exact absurd this (by decide)
      obtain ⟨μ2, b1, b2, b3, b4⟩ := ih n (rK T c s) μ1 (by omega) (by omega) hok a2
      refine ⟨μ2, ?_, ?_, a3.trans b3, b4.trans a4⟩
      · show f9_runs_L204 (zi r) K (n + 1) (zi c) μ = _
        rw [a1, b1]
      · unfold rD; rw [e]; exact b2
/-- whether a DOOR waits -/
def wt (T W : zN2) : Bool := !(ball (fun d => (W 0 4).testBit d || decide (T 10 d < W 0 0)) (T 2 2))
theorem x_waits {T W : zN2} {μ : zMem} (hT : TB T) (hW : WB T W) (hX : XT T μ) (hS : XS T W 28 μ) : f5_hasDoorInTime 28 μ = some (0, zi (b01 (wt T W)), μ) := by
  have hD := hT.2.2.1
  have key : ∀ m i n, i + m = T 2 2 → m < n → ball (fun d => (W 0 4).testBit d || decide (T 10 d < W 0 0)) i = true → f5_hasDoorInTime_L2 28 (fun (μ13 : zMem) => some (0, zi 0, μ13)) (fun (μ14 : zMem) => some (0, zi 1, μ14)) n (zi i) μ = some (0, zi (b01 (wt T W)), μ) := by
    intro m
    induction m with
    | zero =>
      intro i n h1 h2 h3
      obtain ⟨n, rfl⟩ : ∃ k, n = k + 1 := ⟨n - 1, by omega⟩
      have e : i = T 2 2 := by omega
      subst e
      simp (disch := omega) only [f5_hasDoorInTime_L2, hX.1.2.2.1, zi_le, Nat.le_refl, if_true]
      unfold wt
      rw [h3]; rfl
    | succ m ih =>
      intro i n h1 h2 h3
      obtain ⟨n, rfl⟩ : ∃ k, n = k + 1 := ⟨n - 1, by omega⟩
      have hnext := ih (i + 1) n (by omega) (by omega)
      cases hb : (W 0 4).testBit i
      · by_cases hl : T 10 i < W 0 0
        · simp (disch := omega) only [f5_hasDoorInTime_L2, hX.1.2.2.1, zi_le, show ¬ T 2 2 ≤ i by omega, if_false, x_isOpen hW hS, x_isTooLate hT hW hX hS (show i < T 2 2 by omega), hb, hl, bnd0_ok, zlet_e, zlit, if_true, if_false, ite_true, ite_false, Bool.false_eq_true, Bool.true_eq_false, reduceIte, z10, z01, Nat.one_ne_zero, Nat.zero_ne_one, zi_add]
          exact hnext (by unfold ball; rw [h3, hb, decide_eq_true hl]; rfl)
        · simp (disch := omega) only [f5_hasDoorInTime_L2, hX.1.2.2.1, zi_le, show ¬ T 2 2 ≤ i by omega, if_false, x_isOpen hW hS, x_isTooLate hT hW hX hS (show i < T 2 2 by omega), hb, hl, bnd0_ok, zlet_e, zlit, if_true, if_false, ite_true, ite_false, Bool.false_eq_true, Bool.true_eq_false, reduceIte, z10, z01, Nat.one_ne_zero, Nat.zero_ne_one]
          have : wt T W = true := by
            unfold wt
            cases e : ball (fun d => (W 0 4).testBit d || decide (T 10 d < W 0 0)) (T 2 2)
            · rfl
            · have := (ball_iff _).mp e i (by omega)
              rw [hb, decide_eq_false hl] at this
              exact absurd this (by decide)
          rw [this]; rfl
      · simp (disch := omega) only [f5_hasDoorInTime_L2, hX.1.2.2.1, zi_le, show ¬ T 2 2 ≤ i by omega, if_false, x_isOpen hW hS, hb, bnd0_ok, zlet_e, zlit, if_true, if_false, ite_true, ite_false, Bool.false_eq_true, Bool.true_eq_false, reduceIte, z10, z01, Nat.one_ne_zero, Nat.zero_ne_one, zi_add]
        exact hnext (by unfold ball; rw [h3, hb]; rfl)
  have := key (T 2 2) 0 zF (by omega) (by unfold zF; omega) rfl
  unfold f5_hasDoorInTime
  simp only [zlit']
  exact this
theorem m_waits {T W : zN2} {μ : zMem} (hT : TB T) (hW : WB T W) (hM : MT T μ) (hS : MS T W μ) (K : Int32 → zRes) : f9_runs_L142 μ K zF (zi 0) (zi 0) = K (zi (b01 (wt T W))) := by
  have hD := hT.2.2.1
  have hN := hW.1
  obtain ⟨x, h1, h2⟩ := zloopE (L := fun n i (x : Int32) => f9_runs_L142 μ K n x (zi i)) (N := T 2 2) (o := K) (fun i x => x = zi (b01 (!(ball (fun d => (W 0 4).testBit d || decide (T 10 d < W 0 0)) i))))
    (fun n x hx => by simp (disch := omega) only [f9_runs_L142, zlit', zin_i, zi_cl, hM.1.2.2.1, zi_le, Nat.le_refl, if_true])
    (fun n i x hi hx => ⟨_, by
      subst hx
      have h10 := tb_10 hT i
      show f9_runs_L142 μ K (n + 1) _ (zi i) = f9_runs_L142 μ K n (zi (b01 (!(ball (fun d => (W 0 4).testBit d || decide (T 10 d < W 0 0)) i && ((W 0 4).testBit i || decide (T 10 i < W 0 0)))))) (zi (i + 1))
      simp (disch := omega) only [f9_runs_L142, zlit, zin_i, zi_cl, hM.1.2.2.1, zi_le, show ¬ T 2 2 ≤ i by omega, if_false, zlet_e, hS.2.2.2 i (by omega), (hM.2.2.2.2 i hi).2.2.1, hS.1.1, zi_lt, zi_add]
      generalize ball (fun d => (W 0 4).testBit d || decide (T 10 d < W 0 0)) i = bb
      unfold b01
      cases bb
      · simp only [if_true, if_false, ite_true, ite_false, Bool.false_eq_true, Bool.true_eq_false, reduceIte, z10, z01, Nat.one_ne_zero, Nat.zero_ne_one, Bool.false_and, Bool.not_false]
      · cases (W 0 4).testBit i
        · by_cases hl : T 10 i < W 0 0
          · simp only [if_true, if_false, ite_true, ite_false, Bool.false_eq_true, Bool.true_eq_false, reduceIte, z10, z01, Nat.one_ne_zero, Nat.zero_ne_one, hl, decide_true, Bool.or_true, Bool.true_and, Bool.not_true]
          · simp only [if_true, if_false, ite_true, ite_false, Bool.false_eq_true, Bool.true_eq_false, reduceIte, z10, z01, Nat.one_ne_zero, Nat.zero_ne_one, hl, decide_false, Bool.or_false, Bool.true_and, Bool.not_true, Bool.not_false]
        · simp only [if_true, if_false, ite_true, ite_false, Bool.false_eq_true, Bool.true_eq_false, reduceIte, z10, z01, Nat.one_ne_zero, Nat.zero_ne_one, Bool.true_or, Bool.true_and, Bool.not_true], rfl⟩)
    (T 2 2) 0 (zi 0) zF (by omega) (by unfold zF; omega) rfl
  subst h2
  exact h1
