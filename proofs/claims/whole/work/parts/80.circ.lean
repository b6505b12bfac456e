/-! THE PURE SIDE, 20: who could work with whom -/
theorem tV_sym {T W : zN2} (hT : TB T) (q g a b : Nat) : tV T W q g a b = tV T W q g b a := by
  unfold tV
  rw [tb_sym hT b a, zd_comm]
  apply decide_eq_decide.mpr
  constructor
  · intro h; exact ⟨fun e => h.1 e.symm, h.2⟩
  · intro h; exact ⟨fun e => h.1 e.symm, h.2⟩
theorem tV_irr {T W : zN2} (q g a : Nat) : tV T W q g a a = false := decide_eq_false (fun h => h.1 rfl)
/-- the circle is drawn -/
def xC (T W : zN2) (q g : Nat) (μ : zMem) : Prop := μ 54 3 = zi (T 2 1) ∧ ∀ a, a < T 2 1 → μ 55 a = zi (bset (tV T W q g a) (T 2 1))
theorem x_draw {T W : zN2} {μ : zMem} (hT : TB T) (hW : WB T W) (hP : W 0 3 = T 2 1) (hX : XT T μ) (hS : XS T W 23 μ) {q g : Nat} (hq : q < T 2 0) (hg : g < 1000) :
    ∃ μ', f0_draw (zi q) (zi g) μ = some (0, zi 0, μ') ∧ xC T W q g μ' ∧ zfr (fun k => k = 54 ∨ k = 55) μ μ' := by
  have hPP := hT.2.1
  obtain ⟨s, h1, h2, h3, h4⟩ := zloopE (L := fun n i s => f0_draw_L14 (zi q) (zi g) (fun (μ8 : zMem) => some (0, zi 0, μ8)) n (zi i) s) (N := T 2 1) (o := fun s => some (0, zi 0, s)) (fun i s => s 54 3 = zi (T 2 1) ∧ (∀ a, a < i → s 55 a = zi (bset (tV T W q g a) (T 2 1))) ∧ zfr (fun k => k = 54 ∨ k = 55) μ s)
    (fun n s hs => by simp (disch := omega) only [f0_draw_L14, hs.1, zi_le, Nat.le_refl, if_true])
    (fun n i s hi hs => by
      obtain ⟨h1, h2, h3⟩ := hs
      have hX' : XT T s := XT_of (fun key hk => h3 key (by omega)) hX
      have hS' : XS T W 23 s := XS_of (fun key h1 h2 => h3 key (by omega)) hS
      refine ⟨zset s 55 i (zi (bset (tV T W q g i) (T 2 1))), ?_, ?_, ?_, h3.set (Or.inr rfl)⟩
      · have := x_rivals hT hW hX' hS' (show i < W 0 3 by omega) hq hg
        rw [hP] at this
        simp (disch := omega) only [f0_draw_L14, h1, zi_le, show ¬ T 2 1 ≤ i by omega, if_false, this, bnd0_ok, zin_i, zi_cl, zlet_e, zlit, zi_add]
      · rw [zset_nk (by decide)]; exact h1
      · intro a ha
        rw [zset_at]
        by_cases e : a = i
        · rw [if_pos ⟨rfl, e⟩, e]
        · rw [if_neg (fun z => e z.2)]; exact h2 a (by omega))
    (T 2 1) 0 (zset μ 54 3 (zi (T 2 1))) zF (by omega) (by unfold zF; omega) ⟨zset_eq, fun a ha => absurd ha (by omega), zfr.refl.set (Or.inl rfl)⟩
  refine ⟨s, ?_, ⟨h2, h3⟩, h4⟩
  unfold f0_draw
  simp only [zlet_e', zlit', hX.1.2.1]
  exact h1
theorem bset_le {f : Nat → Bool} {n : Nat} (hn : n ≤ 8) : bset f n < 1024 := Nat.lt_of_lt_of_le (bset_lt f n) (Nat.le_trans (Nat.pow_le_pow_right (by decide) hn) (by decide))
theorem popc_bset {f : Nat → Bool} {n : Nat} (hn : n ≤ 12) : popc (bset f n) = nsum (fun i => b01 (f i)) n := by
  rw [popc_lt (bset_lt f n) hn]
  apply nsum_congr
  intro i hi
  rw [bset_bit, decide_eq_true hi, Bool.true_and]
theorem x_twos {T W : zN2} {q g : Nat} {μ : zMem} (hT : TB T) (hC : xC T W q g μ) : f0_twos μ = some (0, zi (nsum (fun a => nsum (fun b => b01 (tV T W q g a b)) a) (T 2 1)), μ) := by
  have hPP := hT.2.1
  obtain ⟨s, h1, h2⟩ := zloopE (L := fun n i (s : Int32 × zMem) => f0_twos_L4 (fun (x1_7 : Int32) (μ8 : zMem) => some (0, x1_7 / (zi 2), μ8)) n s.1 (zi i) s.2) (N := T 2 1) (o := fun s => some (0, s.1 / (zi 2), s.2)) (fun i s => s = (zi (nsum (fun a => nsum (fun b => b01 (tV T W q g a b)) (T 2 1)) i), μ))
    (fun n s hs => by subst hs; simp (disch := omega) only [f0_twos_L4, hC.1, zi_le, Nat.le_refl, if_true])
    (fun n i s hi hs => ⟨(zi (nsum (fun a => nsum (fun b => b01 (tV T W q g a b)) (T 2 1)) (i + 1)), μ), by
      subst hs
      have hb := bset_le (f := tV T W q g i) hPP
      simp (disch := omega) only [f0_twos_L4, hC.1, zi_le, show ¬ T 2 1 ≤ i by omega, if_false, zlet_e, zlit, zin_i, zi_cl, hC.2 i hi, x_bitCount hb, bnd0_ok, zi_add, popc_bset (f := tV T W q g i) (show T 2 1 ≤ 12 by omega)]
      rfl, rfl⟩)
    (T 2 1) 0 (zi 0, μ) zF (by omega) (by unfold zF; omega) rfl
  subst h2
  have hle := nsum_le (f := fun a => nsum (fun b => b01 (tV T W q g a b)) (T 2 1)) (c := 8) (T 2 1) (fun i _ => by
    have := nsum_le (f := fun b => b01 (tV T W q g i b)) (c := 1) (T 2 1) (fun j _ => by show b01 (tV T W q g i j) ≤ 1; unfold b01; split <;> omega)
    omega)
  simp only [f0_twos, zlit']
  refine h1.trans ?_
  simp (disch := omega) only [zi_div]
  rw [nsum_sym (k := fun a b => b01 (tV T W q g a b)) (fun a b => by rw [tV_sym hT]) (fun a => by rw [tV_irr]; rfl), Nat.mul_div_cancel_left _ (by decide)]
theorem x_areRivals {T W : zN2} {q g : Nat} {μ : zMem} (hT : TB T) (hC : xC T W q g μ) {a b : Nat} (ha : a < T 2 1) (hb : b < T 2 1) : f0_areRivals (zi a) (zi b) μ = some (0, zi (b01 (tV T W q g a b)), μ) := by
  have hPP := hT.2.1
  have hl := bset_le (f := tV T W q g a) hPP
  unfold f0_areRivals b01
  simp (disch := omega) only [zlet_e, zlit, zin_i, zi_cl, hC.2 a ha, zbit0, bset_bit, decide_eq_true hb, Bool.true_and]
  cases tV T W q g a b
  · simp only [zbl_0, if_true, if_false, ite_true, ite_false, Bool.false_eq_true, Bool.true_eq_false, reduceIte, z10, z01, Nat.one_ne_zero, Nat.zero_ne_one]
  · simp only [zbl_1, if_true, if_false, ite_true, ite_false, Bool.false_eq_true, Bool.true_eq_false, reduceIte, z10, z01, Nat.one_ne_zero, Nat.zero_ne_one]
/-- of three: the third one behind the second -/
def t3 (f : Nat → Nat → Bool) (n a b : Nat) : Nat := if a < b then (if f a b = true then nsum (fun c => if b < c then b01 (f a c && f b c) else 0) n else 0) else 0
theorem popc_shr {x n b : Nat} (hx : x < 2 ^ n) (hn : n ≤ 12) : popc (x / 2 ^ (b + 1)) = nsum (fun c => if b < c then b01 (x.testBit c) else 0) n := by
  have h1 : ∀ m, nsum (fun i => b01 ((x / 2 ^ (b + 1)).testBit i)) m = nsum (fun c => if b < c then b01 (x.testBit c) else 0) (b + 1 + m) := by
    intro m
    induction m with
    | zero =>
      show 0 = nsum _ (b + 1)
      have := nsum_tail (f := fun c => if b < c then b01 (x.testBit c) else 0) (n := 0) (b + 1) (fun i _ h2 => if_neg (by omega))
      rw [Nat.zero_add] at this
      exact this.symm
    | succ m ih =>
      show nsum _ m + b01 ((x / 2 ^ (b + 1)).testBit m) = nsum _ (b + 1 + m) + (if b < b + 1 + m then b01 (x.testBit (b + 1 + m)) else 0)
      rw [ih, if_pos (by omega), Nat.testBit_div_two_pow, Nat.add_comm m]
  unfold popc
  rw [h1 12]
  obtain ⟨k, hk⟩ : ∃ k, b + 1 + 12 = n + k := ⟨b + 1 + 12 - n, by omega⟩
  rw [hk]
  apply nsum_tail
  intro i h1 h2
  show (if b < i then b01 (x.testBit i) else 0) = 0
  rw [Nat.testBit_lt_two_pow (Nat.lt_of_lt_of_le hx (Nat.pow_le_pow_right (by decide) h1))]
  split <;> rfl
theorem x_threes {T W : zN2} {q g : Nat} {μ : zMem} (hT : TB T) (hC : xC T W q g μ) : f0_threes μ = some (0, zi (nsum (fun a => nsum (fun b => t3 (tV T W q g) (T 2 1) a b) (T 2 1)) (T 2 1)), μ) := by
  have hPP := hT.2.1
  have inner : ∀ (a c : Nat) (K : Int32 → zMem → zRes), a < T 2 1 → f0_threes_L16 (zi a) K zF (zi c) (zi (a + 1)) μ = K (zi (c + nsum (fun b => t3 (tV T W q g) (T 2 1) a b) (T 2 1))) μ := by
    intro a c K ha
    have h0 : nsum (fun b => t3 (tV T W q g) (T 2 1) a b) (a + 1) = 0 := by
      have := nsum_tail (f := fun b => t3 (tV T W q g) (T 2 1) a b) (n := 0) (a + 1) (fun i _ h2 => if_neg (by omega))
      rw [Nat.zero_add] at this; exact this
    obtain ⟨s, h1, h2⟩ := zloopE (L := fun n i (s : Int32 × zMem) => f0_threes_L16 (zi a) K n s.1 (zi i) s.2) (N := T 2 1) (o := fun s => K s.1 s.2) (fun i s => a < i ∧ s = (zi (c + nsum (fun b => t3 (tV T W q g) (T 2 1) a b) i), μ))
      (fun n s hs => by obtain ⟨-, rfl⟩ := hs; simp (disch := omega) only [f0_threes_L16, hC.1, zi_le, Nat.le_refl, if_true])
      (fun n i s hi hs => ⟨(zi (c + nsum (fun b => t3 (tV T W q g) (T 2 1) a b) (i + 1)), μ), by
        obtain ⟨hai, rfl⟩ := hs
        have hb := bset_le (f := tV T W q g a) hPP
        have hb' := bset_le (f := tV T W q g i) hPP
        have hand : bset (tV T W q g a) (T 2 1) &&& bset (tV T W q g i) (T 2 1) < 2 ^ T 2 1 := Nat.lt_of_le_of_lt Nat.and_le_left (bset_lt _ _)
        have hand' : bset (tV T W q g a) (T 2 1) &&& bset (tV T W q g i) (T 2 1) < 1024 := Nat.lt_of_le_of_lt Nat.and_le_left hb
        have hdv : (bset (tV T W q g a) (T 2 1) &&& bset (tV T W q g i) (T 2 1)) / 2 ^ (i + 1) < 1024 := Nat.lt_of_le_of_lt (Nat.div_le_self _ _) hand'
        show _ = f0_threes_L16 (zi a) K n (zi (c + (nsum (fun b => t3 (tV T W q g) (T 2 1) a b) i + t3 (tV T W q g) (T 2 1) a i))) (zi (i + 1)) μ
        have et : t3 (tV T W q g) (T 2 1) a i = if tV T W q g a i = true then popc ((bset (tV T W q g a) (T 2 1) &&& bset (tV T W q g i) (T 2 1)) / 2 ^ (i + 1)) else 0 := by
          unfold t3
          rw [if_pos hai, popc_shr hand (by omega)]
          congr 1
          apply nsum_congr
          intro j hj
          rw [Nat.testBit_and, bset_bit, bset_bit, decide_eq_true hj, Bool.true_and, Bool.true_and]
        rw [et]
        simp (disch := omega) only [f0_threes_L16, hC.1, zi_le, show ¬ T 2 1 ≤ i by omega, if_false, zlet_e', zlit', zin_i, zi_cl, x_areRivals hT hC ha hi, bnd0_ok', hC.2 a ha, hC.2 i hi, zi_and, zi_add, zshr_i, x_bitCount hdv]
        unfold b01
        cases tV T W q g a i
        · simp (disch := omega) only [if_true, if_false, ite_true, ite_false, Bool.false_eq_true, Bool.true_eq_false, reduceIte, z10, z01, Nat.one_ne_zero, Nat.zero_ne_one, x_bitCount (show 0 < 1024 by decide), bnd0_ok', zi_add, show popc 0 = 0 by decide, Nat.add_zero]
        · simp (disch := omega) only [if_true, if_false, ite_true, ite_false, Bool.false_eq_true, Bool.true_eq_false, reduceIte, z10, z01, Nat.one_ne_zero, Nat.zero_ne_one, bnd0_ok', zi_add, Nat.add_assoc], by omega, rfl⟩)
      (T 2 1 - (a + 1)) (a + 1) (zi c, μ) zF (by omega) (by unfold zF; omega) ⟨by omega, by rw [h0, Nat.add_zero]⟩
    obtain ⟨-, rfl⟩ := h2
    exact h1
  obtain ⟨s, h1, h2⟩ := zloopE (L := fun n i (s : Int32 × zMem) => f0_threes_L4 (fun (x1_7 : Int32) (μ8 : zMem) => some (0, x1_7, μ8)) n s.1 (zi i) s.2) (N := T 2 1) (o := fun s => some (0, s.1, s.2)) (fun i s => s = (zi (nsum (fun a => nsum (fun b => t3 (tV T W q g) (T 2 1) a b) (T 2 1)) i), μ))
    (fun n s hs => by subst hs; simp (disch := omega) only [f0_threes_L4, hC.1, zi_le, Nat.le_refl, if_true])
    (fun n i s hi hs => ⟨(zi (nsum (fun a => nsum (fun b => t3 (tV T W q g) (T 2 1) a b) (T 2 1)) (i + 1)), μ), by
      subst hs
      simp (disch := omega) only [f0_threes_L4, hC.1, zi_le, show ¬ T 2 1 ≤ i by omega, if_false, zlet_e', zlit', zi_add, inner i _ _ hi]
      rfl, rfl⟩)
    (T 2 1) 0 (zi 0, μ) zF (by omega) (by unfold zF; omega) rfl
  subst h2
  simp only [f0_threes, zlit']
  exact h1
theorem m_isTwo {T W : zN2} {μ : zMem} (hT : TB T) (hW : WB T W) (hP : W 0 3 = T 2 1) (hM : MT T μ) (hS : MS T W μ) {q g a b : Nat} (hq : q < T 2 0) (hg : g < 1000) (ha : a < T 2 1) (hb : b < T 2 1) (hab : a ≠ b) : f9_isTwo (zi a) (zi b) (zi q) (zi g) μ = some (0, zi (b01 (tV T W q g a b)), μ) := by
  have hPP := hT.2.1
  have hQ := hT.1
  have h1 := wb_th hW a q
  have h2 := wb_th hW b q
  have hz : zd (W (4 + a) q) (W (4 + b) q) ≤ 8 := by unfold zd; omega
  unfold f9_isTwo
  simp (disch := omega) only [m_isKin hT hM, bnd0_ok, zlet_e, zlit, zin_i, zi_cl, (hS.2.1 a (by omega)).2 q hq, (hS.2.1 b (by omega)).2 q hq, m_amount, zi_lt]
  have et : tV T W q g a b = (!(T 7 a).testBit b && decide (g ≤ zd (W (4 + a) q) (W (4 + b) q))) := by
    unfold tV
    rw [tb_sym hT b a, zd_comm]
    cases (T 7 a).testBit b
    · simp [show b ≠ a from fun e => hab e.symm]
    · simp
  rw [et]
  cases (T 7 a).testBit b
  · simp only [if_true, if_false, ite_true, ite_false, Bool.false_eq_true, Bool.true_eq_false, reduceIte, z10, z01, Nat.one_ne_zero, Nat.zero_ne_one, Bool.not_false, Bool.true_and]
    by_cases h : zd (W (4 + a) q) (W (4 + b) q) < g
    · rw [if_pos h, decide_eq_false (by omega)]; exact zbl_0
    · rw [if_neg h, decide_eq_true (by omega)]; exact zbl_1
  · simp only [if_true, if_false, ite_true, ite_false, Bool.false_eq_true, Bool.true_eq_false, reduceIte, z10, z01, Nat.one_ne_zero, Nat.zero_ne_one, Bool.not_true, Bool.false_and]
    exact zbl_0
