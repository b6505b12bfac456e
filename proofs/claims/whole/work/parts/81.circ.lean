/-! THE PURE SIDE, 21: pairs, edge -/
theorem nsum_0 {f : Nat → Nat} (n : Nat) (h : ∀ i, i < n → f i = 0) : nsum f n = 0 := by
  have := nsum_tail (f := f) (n := 0) n (fun i _ h2 => h i (by omega))
  rw [Nat.zero_add] at this
  exact this
theorem nsum_up {k : Nat → Nat → Nat} (hs : ∀ a b, k a b = k b a) : ∀ n, nsum (fun a => nsum (fun b => if a < b then k a b else 0) n) n = nsum (fun a => nsum (k a) a) n
  | 0 => rfl
  | n + 1 => by
    show nsum (fun a => nsum (fun b => if a < b then k a b else 0) n + (if a < n then k a n else 0)) n + nsum (fun b => if n < b then k n b else 0) (n + 1) = nsum (fun a => nsum (k a) a) n + nsum (k n) n
    rw [nsum_add, nsum_up hs n, nsum_0 (f := fun b => if n < b then k n b else 0) (n + 1) (fun i hi => if_neg (by omega)), nsum_congr (f := fun a => if a < n then k a n else 0) (g := k n) n (fun i hi => by rw [if_pos hi]; exact hs i n)]
    omega
/-- of two, or of three -/
def cN (f : Nat → Nat → Bool) (n w a b : Nat) : Nat := if w = 1 then t3 f n a b else if a < b then b01 (f a b) else 0
theorem m_count70 {T W : zN2} {μ : zMem} (hT : TB T) (hW : WB T W) (hP : W 0 3 = T 2 1) (hM : MT T μ) (hS : MS T W μ) {q g a b c w : Nat} (hq : q < T 2 0) (hg : g < 1000) (hab : a < b) (hb : b < T 2 1) (hw : w < 2) (K : Int32 → zMem → zRes) :
    f9_countOf_L70 (zi q) (zi g) (zi w) (zi a) (zi b) K zF (zi c) (zi (b + 1)) μ = K (zi (c + if w = 1 then nsum (fun d => if b < d then b01 (tV T W q g a d && tV T W q g b d) else 0) (T 2 1) else 0)) μ := by
  have hPP := hT.2.1
  by_cases h0 : w = 0
  · subst h0
    obtain ⟨n, hn⟩ : ∃ n, zF = n + 1 := ⟨999999, rfl⟩
    rw [hn]
    simp (disch := omega) only [f9_countOf_L70, zlit', zin_i, zi_cl, hM.1.2.1, zi_le, if_true, show ¬ (0 : Nat) = 1 by decide, if_false, Nat.add_zero]
    split <;> rfl
  · have h1 : w = 1 := by omega
    subst h1
    have hz : nsum (fun d => if b < d then b01 (tV T W q g a d && tV T W q g b d) else 0) (b + 1) = 0 := nsum_0 _ (fun i hi => if_neg (by omega))
    obtain ⟨s, h1, h2⟩ := zloopE (L := fun n i (s : Int32 × zMem) => f9_countOf_L70 (zi q) (zi g) (zi 1) (zi a) (zi b) K n s.1 (zi i) s.2) (N := T 2 1) (o := fun s => K s.1 s.2) (fun i s => b < i ∧ s = (zi (c + nsum (fun d => if b < d then b01 (tV T W q g a d && tV T W q g b d) else 0) i), μ))
      (fun n s hs => by obtain ⟨-, rfl⟩ := hs; simp (disch := omega) only [f9_countOf_L70, zlit', zin_i, zi_cl, hM.1.2.1, zi_le, Nat.le_refl, if_true])
      (fun n i s hi hs => ⟨(zi (c + nsum (fun d => if b < d then b01 (tV T W q g a d && tV T W q g b d) else 0) (i + 1)), μ), by
        obtain ⟨hbi, rfl⟩ := hs
        show _ = f9_countOf_L70 (zi q) (zi g) (zi 1) (zi a) (zi b) K n (zi (c + (nsum (fun d => if b < d then b01 (tV T W q g a d && tV T W q g b d) else 0) i + (if b < i then b01 (tV T W q g a i && tV T W q g b i) else 0)))) (zi (i + 1)) μ
        rw [if_pos hbi]
        simp (disch := omega) only [f9_countOf_L70, zlit', zin_i, zi_cl, hM.1.2.1, zi_le, show ¬ T 2 1 ≤ i by omega, if_false, z10, zlet_e', m_isTwo hT hW hP hM hS hq hg (show a < T 2 1 by omega) hi (show a ≠ i by omega), m_isTwo hT hW hP hM hS hq hg hb hi (show b ≠ i by omega), bnd0_ok', zi_add]
        unfold b01
        cases tV T W q g a i
        · simp only [if_true, if_false, ite_true, ite_false, Bool.false_eq_true, Bool.true_eq_false, reduceIte, z10, z01, Nat.one_ne_zero, Nat.zero_ne_one, Bool.false_and, Nat.add_zero]
        · cases tV T W q g b i
          · simp only [if_true, if_false, ite_true, ite_false, Bool.false_eq_true, Bool.true_eq_false, reduceIte, z10, z01, Nat.one_ne_zero, Nat.zero_ne_one, Bool.true_and, Nat.add_zero]
          · simp only [if_true, if_false, ite_true, ite_false, Bool.false_eq_true, Bool.true_eq_false, reduceIte, z10, z01, Nat.one_ne_zero, Nat.zero_ne_one, Bool.true_and, Nat.add_assoc], by omega, rfl⟩)
      (T 2 1 - (b + 1)) (b + 1) (zi c, μ) zF (by omega) (by unfold zF; omega) ⟨by omega, by rw [hz, Nat.add_zero]⟩
    obtain ⟨-, rfl⟩ := h2
    simp only [if_true]
    exact h1
theorem m_count23 {T W : zN2} {μ : zMem} (hT : TB T) (hW : WB T W) (hP : W 0 3 = T 2 1) (hM : MT T μ) (hS : MS T W μ) {q g a c w : Nat} (hq : q < T 2 0) (hg : g < 1000) (ha : a < T 2 1) (hw : w < 2) (K : Int32 → zMem → zRes) :
    f9_countOf_L23 (zi q) (zi g) (zi w) (zi a) K zF (zi c) (zi (a + 1)) μ = K (zi (c + nsum (cN (tV T W q g) (T 2 1) w a) (T 2 1))) μ := by
  have hPP := hT.2.1
  have hz : nsum (cN (tV T W q g) (T 2 1) w a) (a + 1) = 0 := nsum_0 _ (fun i hi => by
    unfold cN t3
    simp only [show ¬ a < i by omega, if_false]
    split <;> rfl)
  obtain ⟨s, h1, h2⟩ := zloopE (L := fun n i (s : Int32 × zMem) => f9_countOf_L23 (zi q) (zi g) (zi w) (zi a) K n s.1 (zi i) s.2) (N := T 2 1) (o := fun s => K s.1 s.2) (fun i s => a < i ∧ s = (zi (c + nsum (cN (tV T W q g) (T 2 1) w a) i), μ))
    (fun n s hs => by obtain ⟨-, rfl⟩ := hs; simp (disch := omega) only [f9_countOf_L23, zlit', zin_i, zi_cl, hM.1.2.1, zi_le, Nat.le_refl, if_true])
    (fun n i s hi hs => ⟨(zi (c + nsum (cN (tV T W q g) (T 2 1) w a) (i + 1)), μ), by
      obtain ⟨hai, rfl⟩ := hs
      show _ = f9_countOf_L23 (zi q) (zi g) (zi w) (zi a) K n (zi (c + (nsum (cN (tV T W q g) (T 2 1) w a) i + cN (tV T W q g) (T 2 1) w a i))) (zi (i + 1)) μ
      simp (disch := omega) only [f9_countOf_L23, zlit', zin_i, zi_cl, hM.1.2.1, zi_le, show ¬ T 2 1 ≤ i by omega, if_false, zlet_e', m_isTwo hT hW hP hM hS hq hg ha hi (show a ≠ i by omega), bnd0_ok', zi_eq, zi_add, m_count70 hT hW hP hM hS hq hg hai hi hw]
      unfold cN t3
      rw [if_pos hai]
      unfold b01
      by_cases h0 : w = 0
      · cases tV T W q g a i
        · simp only [h0, if_true, if_false, ite_true, ite_false, Bool.false_eq_true, Bool.true_eq_false, reduceIte, z10, z01, Nat.one_ne_zero, Nat.zero_ne_one, Nat.add_zero, hai]
        · simp only [h0, if_true, if_false, ite_true, ite_false, Bool.false_eq_true, Bool.true_eq_false, reduceIte, z10, z01, Nat.one_ne_zero, Nat.zero_ne_one, Nat.add_zero, hai, Nat.add_assoc]
      · have h1 : w = 1 := by omega
        cases tV T W q g a i
        · simp only [h1, if_true, if_false, ite_true, ite_false, Bool.false_eq_true, Bool.true_eq_false, reduceIte, z10, z01, Nat.one_ne_zero, Nat.zero_ne_one, Nat.add_zero]
        · simp only [h1, if_true, if_false, ite_true, ite_false, Bool.false_eq_true, Bool.true_eq_false, reduceIte, z10, z01, Nat.one_ne_zero, Nat.zero_ne_one, Nat.add_zero, Nat.add_assoc], by omega, rfl⟩)
    (T 2 1 - (a + 1)) (a + 1) (zi c, μ) zF (by omega) (by unfold zF; omega) ⟨by omega, by rw [hz, Nat.add_zero]⟩
  obtain ⟨-, rfl⟩ := h2
  exact h1
theorem m_countOf {T W : zN2} {μ : zMem} (hT : TB T) (hW : WB T W) (hP : W 0 3 = T 2 1) (hM : MT T μ) (hS : MS T W μ) {q g w : Nat} (hq : q < T 2 0) (hg : g < 1000) (hw : w < 2) :
    f9_countOf (zi q) (zi g) (zi w) μ = some (0, zi (nsum (fun a => nsum (cN (tV T W q g) (T 2 1) w a) (T 2 1)) (T 2 1)), μ) := by
  have hPP := hT.2.1
  obtain ⟨s, h1, h2⟩ := zloopE (L := fun n i (s : Int32 × zMem) => f9_countOf_L6 (zi q) (zi g) (zi w) (fun (x4_44 : Int32) (μ45 : zMem) => some (0, x4_44, μ45)) n s.1 (zi i) s.2) (N := T 2 1) (o := fun s => some (0, s.1, s.2)) (fun i s => s = (zi (nsum (fun a => nsum (cN (tV T W q g) (T 2 1) w a) (T 2 1)) i), μ))
    (fun n s hs => by subst hs; simp (disch := omega) only [f9_countOf_L6, zlit', zin_i, zi_cl, hM.1.2.1, zi_le, Nat.le_refl, if_true])
    (fun n i s hi hs => ⟨(zi (nsum (fun a => nsum (cN (tV T W q g) (T 2 1) w a) (T 2 1)) (i + 1)), μ), by
      subst hs
      simp (disch := omega) only [f9_countOf_L6, zlit', zin_i, zi_cl, hM.1.2.1, zi_le, show ¬ T 2 1 ≤ i by omega, if_false, zlet_e', zi_add, m_count23 hT hW hP hM hS hq hg hi hw]
      rfl, rfl⟩)
    (T 2 1) 0 (zi 0, μ) zF (by omega) (by unfold zF; omega) rfl
  subst h2
  simp only [f9_countOf, zlit']
  exact h1
/-- how many -/
def cA (T W : zN2) (q g w : Nat) : Nat := nsum (fun a => nsum (cN (tV T W q g) (T 2 1) w a) (T 2 1)) (T 2 1)
theorem cA_0 {T W : zN2} (hT : TB T) (q g : Nat) : cA T W q g 0 = nsum (fun a => nsum (fun b => b01 (tV T W q g a b)) a) (T 2 1) := by
  unfold cA
  rw [← nsum_up (k := fun a b => b01 (tV T W q g a b)) (fun a b => by rw [tV_sym hT])]
  rfl
theorem cA_1 {T W : zN2} (q g : Nat) : cA T W q g 1 = nsum (fun a => nsum (fun b => t3 (tV T W q g) (T 2 1) a b) (T 2 1)) (T 2 1) := rfl
theorem cA_lt {T W : zN2} (hT : TB T) (q g w : Nat) : cA T W q g w ≤ 512 := by
  have hPP := hT.2.1
  have h1 : ∀ a b, cN (tV T W q g) (T 2 1) w a b ≤ 8 := by
    intro a b
    have := nsum_le (f := fun c => if b < c then b01 (tV T W q g a c && tV T W q g b c) else 0) (c := 1) (T 2 1) (fun j _ => by
      show (if b < j then b01 (tV T W q g a j && tV T W q g b j) else 0) ≤ 1
      unfold b01; repeat' split
      all_goals omega)
    unfold cN t3 b01
    unfold b01 at this
    repeat' split
    all_goals omega
  have h2 := nsum_le (f := fun a => nsum (cN (tV T W q g) (T 2 1) w a) (T 2 1)) (c := 64) (T 2 1) (fun i _ => by
    have := nsum_le (f := cN (tV T W q g) (T 2 1) w i) (c := 8) (T 2 1) (fun j _ => h1 i j)
    show nsum (cN (tV T W q g) (T 2 1) w i) (T 2 1) ≤ 64
    omega)
  unfold cA
  omega
theorem x_cnt {T W : zN2} {q g w : Nat} {μ : zMem} (hT : TB T) (hC : xC T W q g μ) (hw : w < 2) (K : Int32 → zMem → zRes) : (if w = 0 then bnd0 (f0_twos μ) K else bnd0 (f0_threes μ) K) = K (zi (cA T W q g w)) μ := by
  by_cases h0 : w = 0
  · rw [if_pos h0, h0, cA_0 hT, x_twos hT hC]; rfl
  · have h1 : w = 1 := by omega
    rw [if_neg h0, h1, cA_1, x_threes hT hC]; rfl
theorem zsx_53 {μ μ' : zMem} (h : zfr (fun q => q = 54 ∨ q = 55) μ μ') : zfr zsx μ μ' := h.mono (fun q hq => by unfold zsx; omega)
theorem P_pairs {x y : Int32} {μX μM : zMem} (h : zInv μX μM) : zPm cI (f8_pairs x y μX) (f9_pairs x y μM) := by
  have h' := h
  obtain ⟨T, W, r, R, n, m, WI, rI, RI, ⟨hT, hW, hL, hX, hM, hS, hS', h30, hB, hR, hR'⟩, ht, hf, hi⟩ := h
  have hQ := hT.1
  have hG := hW.2.2.1
  have hM0 := MT_0 (v := zi 0) hT hM
  have hS0 := MS_0 (v := zi 0) hT hW hS'
  have e00 : zset μM 0 0 (zi 0) 0 0 = zi 0 := zset_00
  rcases zcase x (T 2 0) (by omega) with ⟨q, hq, rfl⟩ | hx
  · rcases zcase y 2 (by omega) with ⟨w, hw, rfl⟩ | hy
    · obtain ⟨μ', a1, a2, a3⟩ := x_draw hT hW hL.2.2.1 hX hS hq (show W 0 2 < 1000 by omega)
      refine zPm_q h' (μX' := μ') (μM' := zset μM 0 0 (zi 0)) (e := 0) (v := zi (cA T W q (W 0 2) w)) (w := zi (cA T W q (W 0 2) w)) ?_ ?_ zset_00 (fun _ => rfl) (Or.inl rfl) (zsx_53 a3) zmq_0
      · unfold f8_pairs
        simp (disch := omega) only [x_needQ_ok hT hX hq, bnd_ok, zlit, x_needW_ok, hS.1.2.2.1, a1, bnd0_ok, zlet_e, zi_eq]
        exact x_cnt hT a2 hw _
      · unfold f9_pairs
        simp (disch := omega) only [zlet_e, zlit, m_isQ_ok hT hM0 hq, m_inn_o, bnd0_ok, if_true, if_false, ite_true, ite_false, Bool.false_eq_true, Bool.true_eq_false, reduceIte, z10, z01, Nat.one_ne_zero, Nat.zero_ne_one, m_bad0 e00, zin_i, zi_cl, zset_nk, hS'.1.2.2, zi_eq]
        have hc := m_countOf hT hW hL.2.2.1 hM0 hS0 hq (show W 0 2 < 1000 by omega) hw
        by_cases h1 : w = 1
        · simp only [h1, if_true]; rw [h1] at hc; rw [hc]; rfl
        · have h0 : w = 0 := by omega
          simp only [h1, if_false]; rw [h0] at hc; rw [hc, h0]; rfl
    · refine zPm_q h' (μX' := μX) (μM' := zset (zset μM 0 0 (zi 0)) 0 0 (zi 1)) (e := 1) (v := zi 0) (w := zi 0) ?_ ?_ zset_00 (fun h => absurd h (by decide)) (Or.inr (by decide)) zfr.refl zmq_00
      · unfold f8_pairs; simp (disch := omega) only [x_needQ_ok hT hX hq, bnd_ok, zlit, x_needW_no (show 1 < 1000 by decide) hy, bnd_ex (e := 0)]
      · unfold f9_pairs; simp (disch := omega) only [zlet_e, zlit, m_isQ_ok hT hM0 hq, m_inn_c (show 1 < 1000 by decide) hy, bnd0_ok, if_true, if_false, ite_true, ite_false, Bool.false_eq_true, Bool.true_eq_false, reduceIte, z10, z01, Nat.one_ne_zero, Nat.zero_ne_one, m_bad1 e00]
  · refine zPm_q h' (μX' := μX) (μM' := zset (zset μM 0 0 (zi 0)) 0 0 (zi 1)) (e := 1) (v := zi 0) (w := zi 0) ?_ ?_ zset_00 (fun h => absurd h (by decide)) (Or.inr (by decide)) zfr.refl zmq_00
    · unfold f8_pairs; simp (disch := omega) only [x_needQ_no hX hx, bnd_ex (e := 0)]
    · unfold f9_pairs; simp (disch := omega) only [zlet_e, zlit, m_isQ_no hT hM0 hx, bnd0_ok, if_true, if_false, ite_true, ite_false, Bool.false_eq_true, Bool.true_eq_false, reduceIte, z10, z01, Nat.one_ne_zero, Nat.zero_ne_one, m_bad1 e00]
/-- the greatest n with f -/
def eg (f : Nat → Nat) : Nat → Nat
  | 0 => 0
  | n + 1 => if f (n + 1) = 0 then eg f n else n + 1
theorem x_edge_L {T W : zN2} (hT : TB T) (hW : WB T W) (hP : W 0 3 = T 2 1) {q w : Nat} (hq : q < T 2 0) (hw : w < 2) : ∀ (g n : Nat) (μ : zMem), g < 9 → g < n → XT T μ → XS T W 23 μ →
    ∃ μ', f8_edge_L14 (zi q) (zi w) (fun (μ20 : zMem) => some (0, zi 0, μ20)) (fun (x3_21 : Int32) (μ22 : zMem) => some (0, x3_21, μ22)) n (zi g) μ = some (0, zi (eg (fun g => cA T W q g w) g), μ') ∧ zfr (fun k => k = 54 ∨ k = 55) μ μ' := by
  intro g
  induction g with
  | zero =>
    intro n μ h1 h2 hX hS
    obtain ⟨n, rfl⟩ : ∃ k, n = k + 1 := ⟨n - 1, by omega⟩
    refine ⟨μ, ?_, zfr.refl⟩
    simp (disch := omega) only [f8_edge_L14, zlit', zi_lt, show 0 < 1 by decide, if_true, eg]
  | succ g ih =>
    intro n μ h1 h2 hX hS
    obtain ⟨n, rfl⟩ : ∃ k, n = k + 1 := ⟨n - 1, by omega⟩
    obtain ⟨μ1, a1, a2, a3⟩ := x_draw hT hW hP hX hS hq (show g + 1 < 1000 by omega)
    have hc := cA_lt (W := W) hT q (g + 1) w
    obtain ⟨μ2, b1, b2⟩ := ih n μ1 (by omega) (by omega) (XT_of (fun key hk => a3 key (by omega)) hX) (XS_of (fun key h1 h2 => a3 key (by omega)) hS)
    by_cases h0 : cA T W q (g + 1) w = 0
    · refine ⟨μ2, ?_, a3.trans b2⟩
      simp (disch := omega) only [f8_edge_L14, ↓zneg1', zlit', zi_lt, show ¬ g + 1 < 1 by omega, if_false, a1, bnd0_ok', zlet_e', zi_eq, x_cnt hT a2 hw, zi_le, h0, Nat.le_refl, if_true, zi_pred, Nat.add_sub_cancel, b1, eg]
    · refine ⟨μ1, ?_, a3⟩
      simp (disch := omega) only [f8_edge_L14, ↓zneg1', zlit', zi_lt, show ¬ g + 1 < 1 by omega, if_false, a1, bnd0_ok', zlet_e', zi_eq, x_cnt hT a2 hw, zi_le, show ¬ cA T W q (g + 1) w ≤ 0 by omega, h0, eg]
theorem m_edge_L {T W : zN2} {μ : zMem} (hT : TB T) (hW : WB T W) (hP : W 0 3 = T 2 1) (hM : MT T μ) (hS : MS T W μ) {q w : Nat} (hq : q < T 2 0) (hw : w < 2) : ∀ (g n : Nat), g < 9 → g < n →
    f9_edge_L40 (zi q) (zi w) (fun (x3_23 : Int32) (μ24 : zMem) => some (0, x3_23, μ24)) n (zi g) μ = some (0, zi (eg (fun g => cA T W q g w) g), μ) := by
  intro g
  induction g with
  | zero =>
    intro n h1 h2
    obtain ⟨n, rfl⟩ : ∃ k, n = k + 1 := ⟨n - 1, by omega⟩
    simp (disch := omega) only [f9_edge_L40, zlit', zi_le, Nat.le_refl, if_true, eg]
  | succ g ih =>
    intro n h1 h2
    obtain ⟨n, rfl⟩ : ∃ k, n = k + 1 := ⟨n - 1, by omega⟩
    have hc := cA_lt (W := W) hT q (g + 1) w
    have hm := m_countOf hT hW hP hM hS hq (show g + 1 < 1000 by omega) hw
    have hm' : f9_countOf (zi q) (zi (g + 1)) (if w = 1 then zi 1 else zi 0) μ = some (0, zi (cA T W q (g + 1) w), μ) := by
      have e : (if w = 1 then zi 1 else zi 0) = zi w := by
        by_cases h1 : w = 1
        · rw [if_pos h1, h1]
        · rw [if_neg h1, show w = 0 by omega]
      rw [e]; exact hm
    have hb := ih n (by omega) (by omega)
    have split2 : ∀ (K : Int32 → zMem → zRes), (if w = 1 then bnd0 (f9_countOf (zi q) (zi (g + 1)) (zi 1) μ) K else bnd0 (f9_countOf (zi q) (zi (g + 1)) (zi 0) μ) K) = K (zi (cA T W q (g + 1) w)) μ := by
      intro K
      by_cases h1 : w = 1
      · rw [if_pos h1] at hm' ⊢; rw [hm']; rfl
      · rw [if_neg h1] at hm' ⊢; rw [hm']; rfl
    simp (disch := omega) only [f9_edge_L40, ↓zneg1', zlit', zi_le, show ¬ g + 1 ≤ 0 by omega, if_false, zlet_e', zi_eq, split2, zi_pred, Nat.add_sub_cancel, hb, eg]
    by_cases h0 : cA T W q (g + 1) w = 0
    · simp only [h0, if_true]
    · simp only [h0, if_false]
theorem P_edge {x y : Int32} {μX μM : zMem} (h : zInv μX μM) : zPm cI (f8_edge x y μX) (f9_edge x y μM) := by
  have h' := h
  obtain ⟨T, W, r, R, n, m, WI, rI, RI, ⟨hT, hW, hL, hX, hM, hS, hS', h30, hB, hR, hR'⟩, ht, hf, hi⟩ := h
  have hQ := hT.1
  have hM0 := MT_0 (v := zi 0) hT hM
  have hS0 := MS_0 (v := zi 0) hT hW hS'
  have e00 : zset μM 0 0 (zi 0) 0 0 = zi 0 := zset_00
  rcases zcase x (T 2 0) (by omega) with ⟨q, hq, rfl⟩ | hx
  · rcases zcase y 2 (by omega) with ⟨w, hw, rfl⟩ | hy
    · obtain ⟨μ', a1, a2⟩ := x_edge_L hT hW hL.2.2.1 hq hw 8 zF μX (by decide) (by unfold zF; decide) hX hS
      have b1 := m_edge_L hT hW hL.2.2.1 hM0 hS0 hq hw 8 zF (by decide) (by unfold zF; decide)
      refine zPm_q h' (μX' := μ') (μM' := zset μM 0 0 (zi 0)) (e := 0) (v := zi (eg (fun g => cA T W q g w) 8)) (w := zi (eg (fun g => cA T W q g w) 8)) ?_ ?_ zset_00 (fun _ => rfl) (Or.inl rfl) (zsx_53 a2) zmq_0
      · unfold f8_edge
        simp (disch := omega) only [x_needQ_ok hT hX hq, bnd_ok', zlit', x_needW_ok]
        exact a1
      · unfold f9_edge
        simp (disch := omega) only [zlet_e', zlit', m_isQ_ok hT hM0 hq, m_inn_o, bnd0_ok', if_true, if_false, ite_true, ite_false, Bool.false_eq_true, Bool.true_eq_false, reduceIte, z10, z01, Nat.one_ne_zero, Nat.zero_ne_one, m_bad0 e00]
        exact b1
    · refine zPm_q h' (μX' := μX) (μM' := zset (zset μM 0 0 (zi 0)) 0 0 (zi 1)) (e := 1) (v := zi 0) (w := zi 0) ?_ ?_ zset_00 (fun h => absurd h (by decide)) (Or.inr (by decide)) zfr.refl zmq_00
      · unfold f8_edge; simp (disch := omega) only [x_needQ_ok hT hX hq, bnd_ok', zlit', x_needW_no (show 1 < 1000 by decide) hy, bnd_ex' (e := 0)]
      · unfold f9_edge; simp (disch := omega) only [zlet_e', zlit', m_isQ_ok hT hM0 hq, m_inn_c (show 1 < 1000 by decide) hy, bnd0_ok', if_true, if_false, ite_true, ite_false, Bool.false_eq_true, Bool.true_eq_false, reduceIte, z10, z01, Nat.one_ne_zero, Nat.zero_ne_one, m_bad1 e00]
  · refine zPm_q h' (μX' := μX) (μM' := zset (zset μM 0 0 (zi 0)) 0 0 (zi 1)) (e := 1) (v := zi 0) (w := zi 0) ?_ ?_ zset_00 (fun h => absurd h (by decide)) (Or.inr (by decide)) zfr.refl zmq_00
    · unfold f8_edge; simp (disch := omega) only [x_needQ_no hX hx, bnd_ex' (e := 0)]
    · unfold f9_edge; simp (disch := omega) only [zlet_e', zlit', m_isQ_no hT hM0 hx, bnd0_ok', if_true, if_false, ite_true, ite_false, Bool.false_eq_true, Bool.true_eq_false, reduceIte, z10, z01, Nat.one_ne_zero, Nat.zero_ne_one, m_bad1 e00]
