/-! THE PURE SIDE, 23: once -/
/-- the least bit from i on -/
def lowb' (g : Nat) : Nat → Nat → Nat
  | 0, i => i
  | k + 1, i => if g.testBit i = true then i else lowb' g k (i + 1)
def lowb (g : Nat) : Nat := lowb' g 12 0
def ntz (x : Int32) : Option Int32 := (fJ6_numberOfTrailingZeros_0f7a4 x (fun _ _ => 0)).map (fun q => q.2.1)
set_option maxRecDepth 20000 in
theorem ntz_i : ∀ n : Fin 1024, n.val = 0 ∨ ntz (zi n.val) = some (zi (lowb n.val)) := by decide +kernel
set_option maxRecDepth 20000 in
theorem low_i : ∀ n : Fin 1024, n.val = 0 ∨ (n.val.testBit (lowb n.val) = true ∧ lowb n.val < 10 ∧ n.val &&& (n.val - 1) = n.val ^^^ 2 ^ lowb n.val) := by decide +kernel
set_option maxRecDepth 20000 in
theorem low_j : ∀ n : Fin 1024, ∀ i : Fin 10, i.val < lowb n.val → n.val.testBit i.val = false := by decide +kernel
theorem ntz_pure (x : Int32) (μ ν : zMem) : ∃ v : Int32, fJ6_numberOfTrailingZeros_0f7a4 x μ = some (0, v, μ) ∧ fJ6_numberOfTrailingZeros_0f7a4 x ν = some (0, v, ν) := by
  unfold fJ6_numberOfTrailingZeros_0f7a4
  simp only [zlet_e]
  repeat' split
  all_goals exact ⟨_, rfl, rfl⟩
theorem x_ntz {n : Nat} {μ : zMem} (h0 : 0 < n) (h : n < 1024) : fJ6_numberOfTrailingZeros_0f7a4 (zi n) μ = some (0, zi (lowb n), μ) := by
  obtain ⟨v, a1, a2⟩ := ntz_pure (zi n) μ (fun _ _ => 0)
  rcases ntz_i ⟨n, h⟩ with e | e
  · exact absurd e (by show n ≠ 0; omega)
  · unfold ntz at e
    rw [a2] at e
    have e : some v = some (zi (lowb n)) := e
    rw [a1, Option.some.inj e]
theorem xor_bit {g a i : Nat} : (g ^^^ 2 ^ a).testBit i = (g.testBit i ^^ decide (a = i)) := by rw [Nat.testBit_xor, Nat.testBit_two_pow]
theorem xor_lt {g a : Nat} (h : g.testBit a = true) : g ^^^ 2 ^ a < g := by
  have e : g ^^^ 2 ^ a = g &&& (g ^^^ 2 ^ a) := by
    apply Nat.eq_of_testBit_eq
    intro i
    rw [Nat.testBit_and, xor_bit]
    by_cases hi : a = i
    · rw [decide_eq_true hi, ← hi, h]; rfl
    · rw [decide_eq_false hi]; cases g.testBit i <;> rfl
  have h1 : g ^^^ 2 ^ a ≤ g := by rw [e]; exact Nat.and_le_left
  have h2 : g ^^^ 2 ^ a ≠ g := by
    intro q
    have := congrArg (fun x => x.testBit a) q
    simp only [xor_bit, h] at this
    simp at this
  omega
theorem andn {g m : Nat} (_ : g < 2147483648) : zi g &&& (zi m ^^^ zN1) = zi (g ^^^ (g &&& m)) := by
  rw [← zi_xor, ← zi_and]
  generalize zi g = x
  generalize zi m = y
  apply Int32.toBitVec.inj
  show x.toBitVec &&& (y.toBitVec ^^^ BitVec.allOnes 32) = x.toBitVec ^^^ (x.toBitVec &&& y.toBitVec)
  apply BitVec.eq_of_getLsbD_eq
  intro i hi
  rw [BitVec.getLsbD_and, BitVec.getLsbD_xor, BitVec.getLsbD_xor, BitVec.getLsbD_and, BitVec.getLsbD_allOnes, decide_eq_true hi]
  cases x.toBitVec.getLsbD i <;> cases y.toBitVec.getLsbD i <;> rfl
theorem and_pow {g a : Nat} (h : g.testBit a = true) : g &&& 2 ^ a = 2 ^ a := by
  apply Nat.eq_of_testBit_eq
  intro i
  rw [Nat.testBit_and, Nat.testBit_two_pow]
  by_cases e : a = i
  · subst e; rw [h, decide_eq_true rfl]; rfl
  · rw [decide_eq_false e, Bool.and_false]
/-- the most pairs in a group: its least one alone, or with another one -/
def pinB (f : Nat → Nat → Bool) (n : Nat) (F : Nat → Nat) (g : Nat) : Nat :=
  if g = 0 then 0 else zit (fun b m => if (g ^^^ 2 ^ lowb g).testBit b = true ∧ f (lowb g) b = true then max m (F ((g ^^^ 2 ^ lowb g) ^^^ 2 ^ b) + 1) else m) (n - (lowb g + 1)) (lowb g + 1) (F (g ^^^ 2 ^ lowb g))
def pinF (f : Nat → Nat → Bool) (n : Nat) : Nat → Nat → Nat
  | 0, _ => 0
  | k + 1, g => pinB f n (pinF f n k) g
theorem low_bits {g : Nat} (h0 : g ≠ 0) (h : g < 1024) : g.testBit (lowb g) = true ∧ (∀ i, i < lowb g → g.testBit i = false) ∧ lowb g < 10 ∧ g &&& (g - 1) = g ^^^ 2 ^ lowb g := by
  rcases low_i ⟨g, h⟩ with e | ⟨e1, e2, e3⟩
  · exact absurd e h0
  · have e2 : lowb g < 10 := e2
    exact ⟨e1, fun i hi => low_j ⟨g, h⟩ ⟨i, by omega⟩ hi, e2, e3⟩
theorem bit_lt {g n i : Nat} (h : g < 2 ^ n) (hb : g.testBit i = true) : i < n := by
  by_cases hi : i < n
  · exact hi
  · rw [Nat.testBit_lt_two_pow (Nat.lt_of_lt_of_le h (Nat.pow_le_pow_right (by decide) (by omega)))] at hb
    exact absurd hb (by decide)
/-- none of a group is below k -/
def nbk (g k : Nat) : Prop := ∀ i, i < k → g.testBit i = false
theorem nbk_x {g : Nat} (h0 : g ≠ 0) (h : g < 1024) : nbk (g ^^^ 2 ^ lowb g) (lowb g + 1) := by
  obtain ⟨h1, h2, -⟩ := low_bits h0 h
  intro i hi
  rw [xor_bit]
  by_cases e : lowb g = i
  · rw [decide_eq_true e, ← e, h1]; rfl
  · rw [decide_eq_false e, h2 i (by omega)]; rfl
theorem nbk_y {g k b : Nat} (h : nbk g k) (hb : g.testBit b = true) : nbk (g ^^^ 2 ^ b) k := by
  intro i hi
  have hbk : ¬ b < k := fun q => by rw [h b q] at hb; exact absurd hb (by decide)
  rw [xor_bit, h i hi, decide_eq_false (by omega)]; rfl
theorem low_ge {g k : Nat} (h0 : g ≠ 0) (h : g < 1024) (hk : nbk g k) : k ≤ lowb g := by
  obtain ⟨h1, -⟩ := low_bits h0 h
  by_cases e : lowb g < k
  · rw [hk _ e] at h1; exact absurd h1 (by decide)
  · omega
theorem pinF_st {f : Nat → Nat → Bool} {n : Nat} (hn : n ≤ 10) : ∀ k j g, g < 2 ^ n → nbk g j → n - j < k → pinF f n (k + 1) g = pinF f n k g := by
  have hp : 2 ^ n ≤ 1024 := Nat.pow_le_pow_right (n := 2) (by decide) hn
  intro k
  induction k with
  | zero => intro j g _ _ h; omega
  | succ k ih =>
    intro j g hg hj hk
    show pinB f n (pinF f n (k + 1)) g = pinB f n (pinF f n k) g
    unfold pinB
    by_cases h0 : g = 0
    · rw [if_pos h0, if_pos h0]
    · rw [if_neg h0, if_neg h0]
      obtain ⟨l1, l2, l3, l4⟩ := low_bits h0 (by omega)
      have l5 := low_ge h0 (by omega) hj
      have l6 := bit_lt hg l1
      have hx := nbk_x h0 (show g < 1024 by omega)
      have hlt := xor_lt l1
      rw [ih (lowb g + 1) (g ^^^ 2 ^ lowb g) (by omega) hx (by omega)]
      apply zit_congr
      intro b m hb1 hb2
      by_cases hc : (g ^^^ 2 ^ lowb g).testBit b = true ∧ f (lowb g) b = true
      · rw [if_pos hc, if_pos hc, ih (lowb g + 1) ((g ^^^ 2 ^ lowb g) ^^^ 2 ^ b) (Nat.lt_trans (xor_lt hc.1) (by omega)) (nbk_y hx hc.1) (by omega)]
      · rw [if_neg hc, if_neg hc]
def pin (f : Nat → Nat → Bool) (n g : Nat) : Nat := pinF f n 20 g
theorem pin_eq {f : Nat → Nat → Bool} {n g : Nat} (hn : n ≤ 10) (hg : g < 2 ^ n) : pin f n g = pinB f n (pin f n) g := by
  show pinF f n 20 g = pinB f n (pinF f n 20) g
  rw [← pinF_st hn 20 0 g hg (fun i hi => absurd hi (by omega)) (by omega)]
  rfl
theorem zit_le {F : Nat → Nat → Nat} {c : Nat} : ∀ m i s, s ≤ c → (∀ j t, t ≤ c → F j t ≤ c) → zit F m i s ≤ c
  | 0, _, _, h, _ => h
  | m + 1, i, s, h, hF => zit_le m (i + 1) (F i s) (hF i s h) hF
theorem pinF_le {f : Nat → Nat → Bool} {n : Nat} : ∀ k g, pinF f n k g ≤ k
  | 0, _ => Nat.le_refl _
  | k + 1, g => by
    show pinB f n (pinF f n k) g ≤ k + 1
    unfold pinB
    split
    · omega
    · apply zit_le
      · have := pinF_le (f := f) (n := n) k (g ^^^ 2 ^ lowb g); omega
      · intro j t ht
        have := pinF_le (f := f) (n := n) k ((g ^^^ 2 ^ lowb g) ^^^ 2 ^ j)
        split
        · omega
        · exact ht
theorem pin_le {f : Nat → Nat → Bool} {n g : Nat} : pin f n g ≤ 20 := pinF_le 20 g
theorem x_most43 {T W : zN2} {q g : Nat} {μ : zMem} (hT : TB T) (hC : xC T W q g μ) {a h c : Nat} {F : Nat → Nat} (ha : a < T 2 1) (hh : h < 2 ^ T 2 1) (hF : ∀ e, e ≤ h → μ 56 e = zi (F e) ∧ F e ≤ 20) (hc : c ≤ 30) (K : Int32 → zMem → zRes) :
    f0_mostAtOneTime_L43 (zi a) (zi h) K zF (zi c) (zi (a + 1)) μ = K (zi (zit (fun b m => if h.testBit b = true ∧ tV T W q g a b = true then max m (F (h ^^^ 2 ^ b) + 1) else m) (T 2 1 - (a + 1)) (a + 1) c)) μ := by
  have hPP := hT.2.1
  obtain ⟨hp1, hp2⟩ := pow_p hT
  have key : ∀ m i n c, i + m = T 2 1 → m < n → c ≤ 30 → f0_mostAtOneTime_L43 (zi a) (zi h) K n (zi c) (zi i) μ = K (zi (zit (fun b m => if h.testBit b = true ∧ tV T W q g a b = true then max m (F (h ^^^ 2 ^ b) + 1) else m) m i c)) μ := by
    intro m
    induction m with
    | zero =>
      intro i n c h1 h2 h3
      obtain ⟨n, rfl⟩ : ∃ k, n = k + 1 := ⟨n - 1, by omega⟩
      simp (disch := omega) only [f0_mostAtOneTime_L43, hC.1, zi_le, show T 2 1 ≤ i by omega, if_true, zit]
    | succ m ih =>
      intro i n c h1 h2 h3
      obtain ⟨n, rfl⟩ : ∃ k, n = k + 1 := ⟨n - 1, by omega⟩
      show _ = K (zi (zit (fun b m => if h.testBit b = true ∧ tV T W q g a b = true then max m (F (h ^^^ 2 ^ b) + 1) else m) m (i + 1) (if h.testBit i = true ∧ tV T W q g a i = true then max c (F (h ^^^ 2 ^ i) + 1) else c))) μ
      simp (disch := omega) only [f0_mostAtOneTime_L43, hC.1, zi_le, show ¬ T 2 1 ≤ i by omega, if_false, zlet_e', zlit', zbit0, x_areRivals hT hC ha (show i < T 2 1 by omega), bnd0_ok', zi_add, zshl1, zi_xor]
      cases e1 : h.testBit i
      · simp only [if_true, if_false, ite_true, ite_false, Bool.false_eq_true, Bool.true_eq_false, reduceIte, z10, z01, Nat.one_ne_zero, Nat.zero_ne_one, false_and]
        exact ih (i + 1) n c (by omega) (by omega) h3
      · unfold b01
        cases e2 : tV T W q g a i
        · simp only [if_true, if_false, ite_true, ite_false, Bool.false_eq_true, Bool.true_eq_false, reduceIte, z10, z01, Nat.one_ne_zero, Nat.zero_ne_one, true_and]
          exact ih (i + 1) n c (by omega) (by omega) h3
        · have hlt := xor_lt e1
          obtain ⟨f1, f2⟩ := hF (h ^^^ 2 ^ i) (by omega)
          simp (disch := omega) only [if_true, if_false, ite_true, ite_false, Bool.false_eq_true, Bool.true_eq_false, reduceIte, z10, z01, Nat.one_ne_zero, Nat.zero_ne_one, and_self, zin_i, zi_cl, f1, zi_add, zmax_i]
          exact ih (i + 1) n _ (by omega) (by omega) (by omega)
  exact key _ _ zF c (by omega) (by unfold zF; omega) hc
theorem x_most {T W : zN2} {q g : Nat} {μ : zMem} (hT : TB T) (hC : xC T W q g μ) : ∃ μ', f0_mostAtOneTime μ = some (0, zi (pin (tV T W q g) (T 2 1) (2 ^ T 2 1 - 1)), μ') ∧ zfr (fun k => k = 56) μ μ' := by
  have hPP := hT.2.1
  obtain ⟨hp1, hp2⟩ := pow_p hT
  have hpin0 : pin (tV T W q g) (T 2 1) 0 = 0 := rfl
  obtain ⟨s, h1, h2, h3⟩ := zloopE (L := fun n i s => f0_mostAtOneTime_L9 (fun (μ28 : zMem) => zin ((zshl (zi 1) (μ28 54 3)) - (zi 1)) 256 (some (0, μ28 56 ((zshl (zi 1) (μ28 54 3)) - (zi 1)).toNatClampNeg, μ28))) n (zi i) s) (N := 2 ^ T 2 1) (o := fun (μ28 : zMem) => zin ((zshl (zi 1) (μ28 54 3)) - (zi 1)) 256 (some (0, μ28 56 ((zshl (zi 1) (μ28 54 3)) - (zi 1)).toNatClampNeg, μ28)))
    (fun i s => (∀ e, e < i → s 56 e = zi (pin (tV T W q g) (T 2 1) e)) ∧ zfr (fun k => k = 56) μ s ∧ 0 < i)
    (fun n s hs => by
      have e3 : s 54 3 = zi (T 2 1) := by rw [hs.2.1 54 (by decide)]; exact hC.1
      simp (disch := omega) only [f0_mostAtOneTime_L9, e3, zlit', zshl1, zi_le, Nat.le_refl, if_true])
    (fun n i s hi hs => by
      obtain ⟨h1, h2, h0⟩ := hs
      have e3 : s 54 3 = zi (T 2 1) := by rw [h2 54 (by decide)]; exact hC.1
      have hC' : xC T W q g s := ⟨e3, fun a ha => by rw [h2 55 (by decide)]; exact hC.2 a ha⟩
      obtain ⟨l1, l2, l3, l4⟩ := low_bits (show i ≠ 0 by omega) (show i < 1024 by omega)
      have l6 := bit_lt hi l1
      have hlt := xor_lt l1
      have hpl := pin_le (f := tV T W q g) (n := T 2 1) (g := i ^^^ 2 ^ lowb i)
      refine ⟨zset s 56 i (zi (pin (tV T W q g) (T 2 1) i)), ?_, ?_, h2.set rfl, by omega⟩
      · have hm := fun K => x_most43 hT hC' (a := lowb i) (h := i ^^^ 2 ^ lowb i) (c := pin (tV T W q g) (T 2 1) (i ^^^ 2 ^ lowb i)) (F := pin (tV T W q g) (T 2 1)) l6 (by omega) (fun e he => ⟨h1 e (by omega), pin_le⟩) (by omega) K
        have he : zit (fun b m => if (i ^^^ 2 ^ lowb i).testBit b = true ∧ tV T W q g (lowb i) b = true then max m (pin (tV T W q g) (T 2 1) ((i ^^^ 2 ^ lowb i) ^^^ 2 ^ b) + 1) else m) (T 2 1 - (lowb i + 1)) (lowb i + 1) (pin (tV T W q g) (T 2 1) (i ^^^ 2 ^ lowb i)) = pin (tV T W q g) (T 2 1) i := by
          rw [pin_eq (show T 2 1 ≤ 10 by omega) hi]
          unfold pinB
          rw [if_neg (show ¬ i = 0 by omega)]
        simp (disch := omega) only [f0_mostAtOneTime_L9, e3, zlit', zshl1, zi_le, show ¬ 2 ^ T 2 1 ≤ i by omega, if_false, x_ntz h0 (show i < 1024 by omega), bnd0_ok', zlet_e', zi_sub, zi_and, l4, zin_i, zi_cl, h1 (i ^^^ 2 ^ lowb i) hlt, zi_add, hm, he]
      · intro e he
        rw [zset_at]
        by_cases ee : e = i
        · rw [if_pos ⟨rfl, ee⟩, ee]
        · rw [if_neg (fun z => ee z.2)]; exact h1 e (by omega))
    (2 ^ T 2 1 - 1) 1 (zset μ 56 0 (zi 0)) zF (by omega) (by unfold zF; omega) ⟨fun e he => by rw [show e = 0 by omega, zset_eq, hpin0], zfr.refl.set rfl, by decide⟩
  refine ⟨s, ?_, h3.1⟩
  have e3 : s 54 3 = zi (T 2 1) := by rw [h3.1 54 (by decide)]; exact hC.1
  unfold f0_mostAtOneTime
  simp (disch := omega) only [zlet_e', zlit', zin_i, zi_cl]
  refine h1.trans ?_
  simp (disch := omega) only [e3, zshl1, zi_sub, zin_i, zi_cl, h2 (2 ^ T 2 1 - 1) (by omega)]
theorem m_more {a b : Nat} {μ : zMem} (ha : a < 2147483648) (hb : b < 2147483648) : f9_more (zi a) (zi b) μ = some (0, zi (max a b), μ) := by
  unfold f9_more
  simp (disch := omega) only [zlet_e, zi_le]
  by_cases h : a ≤ b
  · rw [if_pos h, Nat.max_eq_right h]
  · rw [if_neg h, Nat.max_eq_left (by omega)]
theorem m_pairsIn2 {T W : zN2} {μ : zMem} (hT : TB T) (hM : MT T μ) {g : Nat} (F : Int32 → Int32 → zMem → zRes) (K : Int32 → zRes) (hg : g < 2 ^ T 2 1) (h0 : g ≠ 0) : f9_pairsIn_L2 F (zi g) μ K zF (zi 0) = K (zi (lowb g)) := by
  have hPP := hT.2.1
  obtain ⟨hp1, hp2⟩ := pow_p hT
  obtain ⟨l1, l2, l3, l4⟩ := low_bits h0 (show g < 1024 by omega)
  have l6 := bit_lt hg l1
  have key : ∀ m i n, i + m = lowb g → m < n → f9_pairsIn_L2 F (zi g) μ K n (zi i) = K (zi (lowb g)) := by
    intro m
    induction m with
    | zero =>
      intro i n h1 h2
      obtain ⟨n, rfl⟩ : ∃ k, n = k + 1 := ⟨n - 1, by omega⟩
      have e : i = lowb g := by omega
      subst e
      simp (disch := omega) only [f9_pairsIn_L2, zlit', zin_i, zi_cl, hM.1.2.1, zi_le, show ¬ T 2 1 ≤ lowb g by omega, if_false, zbit0, l1, Bool.true_eq_false]
    | succ m ih =>
      intro i n h1 h2
      obtain ⟨n, rfl⟩ : ∃ k, n = k + 1 := ⟨n - 1, by omega⟩
      simp (disch := omega) only [f9_pairsIn_L2, zlit', zin_i, zi_cl, hM.1.2.1, zi_le, show ¬ T 2 1 ≤ i by omega, if_false, zbit0, l2 i (by omega), if_true, zi_add]
      exact ih (i + 1) n (by omega) (by omega)
  exact key (lowb g) 0 zF (by omega) (by unfold zF; omega)
theorem m_pairsIn20 {T : zN2} {μ : zMem} (hT : TB T) (hM : MT T μ) (F : Int32 → Int32 → zMem → zRes) (K : Int32 → zRes) : f9_pairsIn_L2 F (zi 0) μ K zF (zi 0) = K (zi (T 2 1)) := by
  have hPP := hT.2.1
  have key : ∀ m i n, i + m = T 2 1 → m < n → f9_pairsIn_L2 F (zi 0) μ K n (zi i) = K (zi (T 2 1)) := by
    intro m
    induction m with
    | zero =>
      intro i n h1 h2
      obtain ⟨n, rfl⟩ : ∃ k, n = k + 1 := ⟨n - 1, by omega⟩
      have e : i = T 2 1 := by omega
      subst e
      simp (disch := omega) only [f9_pairsIn_L2, zlit', zin_i, zi_cl, hM.1.2.1, zi_le, Nat.le_refl, if_true]
    | succ m ih =>
      intro i n h1 h2
      obtain ⟨n, rfl⟩ : ∃ k, n = k + 1 := ⟨n - 1, by omega⟩
      simp (disch := omega) only [f9_pairsIn_L2, zlit', zin_i, zi_cl, hM.1.2.1, zi_le, show ¬ T 2 1 ≤ i by omega, if_false, zbit0, Nat.zero_testBit, if_true, zi_add]
      exact ih (i + 1) n (by omega) (by omega)
  exact key (T 2 1) 0 zF (by omega) (by unfold zF; omega)
theorem m_pairsIn {T W : zN2} {μ : zMem} (hT : TB T) (hW : WB T W) (hP : W 0 3 = T 2 1) (hM : MT T μ) (hS : MS T W μ) {q : Nat} (hq : q < T 2 0) : ∀ k j g, g < 2 ^ T 2 1 → nbk g j → T 2 1 - j < k → f9_pairsIn k (zi g) (zi q) μ = some (0, zi (pin (tV T W q (W 0 2)) (T 2 1) g), μ) := by
  have hPP := hT.2.1
  have hG := hW.2.2.1
  obtain ⟨hp1, hp2⟩ := pow_p hT
  intro k
  induction k with
  | zero => intro j g _ _ h; omega
  | succ k ih =>
    intro j g hg hj hk
    show f9_pairsInB (f9_pairsIn k) (zi g) (zi q) μ = _
    unfold f9_pairsInB
    by_cases h0 : g = 0
    · subst h0
      simp (disch := omega) only [zlet_e', zlit', m_pairsIn20 hT hM, zin_i, zi_cl, hM.1.2.1, if_true]
      rfl
    · obtain ⟨l1, l2, l3, l4⟩ := low_bits h0 (show g < 1024 by omega)
      have l6 := bit_lt hg l1
      have l5 := low_ge h0 (show g < 1024 by omega) hj
      have hlt := xor_lt l1
      have hx := nbk_x h0 (show g < 1024 by omega)
      have hr := ih (lowb g + 1) (g ^^^ 2 ^ lowb g) (by omega) hx (by omega)
      have ea : zi g &&& (zi (2 ^ lowb g) ^^^ zN1) = zi (g ^^^ 2 ^ lowb g) := by rw [andn (by omega), and_pow l1]
      have key : ∀ m i n c, i + m = T 2 1 → m < n → lowb g < i → c ≤ 30 → f9_pairsIn_L61 (f9_pairsIn k) (zi q) (zi (lowb g)) (zi (g ^^^ 2 ^ lowb g)) (fun (x5_26 : Int32) (μ27 : zMem) => some (0, x5_26, μ27)) n (zi c) (zi i) μ = some (0, zi (zit (fun b m => if (g ^^^ 2 ^ lowb g).testBit b = true ∧ tV T W q (W 0 2) (lowb g) b = true then max m (pin (tV T W q (W 0 2)) (T 2 1) ((g ^^^ 2 ^ lowb g) ^^^ 2 ^ b) + 1) else m) m i c), μ) := by
        intro m
        induction m with
        | zero =>
          intro i n c h1 h2 h3 h4
          obtain ⟨n, rfl⟩ : ∃ k, n = k + 1 := ⟨n - 1, by omega⟩
          simp (disch := omega) only [f9_pairsIn_L61, zlit', zin_i, zi_cl, hM.1.2.1, zi_le, show T 2 1 ≤ i by omega, if_true, zit]
        | succ m ihm =>
          intro i n c h1 h2 h3 h4
          obtain ⟨n, rfl⟩ : ∃ k, n = k + 1 := ⟨n - 1, by omega⟩
          show _ = some (0, zi (zit (fun b m => if (g ^^^ 2 ^ lowb g).testBit b = true ∧ tV T W q (W 0 2) (lowb g) b = true then max m (pin (tV T W q (W 0 2)) (T 2 1) ((g ^^^ 2 ^ lowb g) ^^^ 2 ^ b) + 1) else m) m (i + 1) (if (g ^^^ 2 ^ lowb g).testBit i = true ∧ tV T W q (W 0 2) (lowb g) i = true then max c (pin (tV T W q (W 0 2)) (T 2 1) ((g ^^^ 2 ^ lowb g) ^^^ 2 ^ i) + 1) else c)), μ)
          simp (disch := omega) only [f9_pairsIn_L61, ↓zneg1', zlit', zin_i, zi_cl, hM.1.2.1, zi_le, show ¬ T 2 1 ≤ i by omega, if_false, zlet_e', zbit1, hS.1.2.2, m_isTwo hT hW hP hM hS hq (show W 0 2 < 1000 by omega) l6 (show i < T 2 1 by omega) (show lowb g ≠ i by omega), bnd0_ok', zi_add, zshl1]
          cases e1 : (g ^^^ 2 ^ lowb g).testBit i
          · simp only [if_true, if_false, ite_true, ite_false, Bool.false_eq_true, Bool.true_eq_false, reduceIte, z10, z01, Nat.one_ne_zero, Nat.zero_ne_one, false_and]
            exact ihm (i + 1) n c (by omega) (by omega) (by omega) h4
          · unfold b01
            cases e2 : tV T W q (W 0 2) (lowb g) i
            · simp only [if_true, if_false, ite_true, ite_false, Bool.false_eq_true, Bool.true_eq_false, reduceIte, z10, z01, Nat.one_ne_zero, Nat.zero_ne_one, true_and]
              exact ihm (i + 1) n c (by omega) (by omega) (by omega) h4
            · have hlt' := xor_lt e1
              have eb : zi (g ^^^ 2 ^ lowb g) &&& (zi (2 ^ i) ^^^ zN1) = zi ((g ^^^ 2 ^ lowb g) ^^^ 2 ^ i) := by rw [andn (by omega), and_pow e1]
              have hr' := ih (lowb g + 1) ((g ^^^ 2 ^ lowb g) ^^^ 2 ^ i) (by omega) (nbk_y hx e1) (by omega)
              have hpl := pin_le (f := tV T W q (W 0 2)) (n := T 2 1) (g := (g ^^^ 2 ^ lowb g) ^^^ 2 ^ i)
              simp (disch := omega) only [if_true, if_false, ite_true, ite_false, Bool.false_eq_true, Bool.true_eq_false, reduceIte, z10, z01, Nat.one_ne_zero, Nat.zero_ne_one, and_self, eb, hr', bnd0_ok', zi_add, m_more, Nat.add_comm 1]
              exact ihm (i + 1) n _ (by omega) (by omega) (by omega) (by omega)
      have hpl := pin_le (f := tV T W q (W 0 2)) (n := T 2 1) (g := g ^^^ 2 ^ lowb g)
      simp (disch := omega) only [zlet_e', ↓zneg1', zlit', m_pairsIn2 (W := W) hT hM _ _ hg h0, zin_i, zi_cl, hM.1.2.1, zi_eq, show ¬ lowb g = T 2 1 by omega, if_false, zshl1, ea, hr, bnd0_ok', zi_add]
      rw [key (T 2 1 - (lowb g + 1)) (lowb g + 1) zF _ (by omega) (by unfold zF; omega) (by omega) (by omega), pin_eq (show T 2 1 ≤ 10 by omega) hg]
      unfold pinB
      rw [if_neg h0]
theorem P_once {x : Int32} {μX μM : zMem} (h : zInv μX μM) : zPm cI (f8_once x μX) (f9_once x μM) := by
  have h' := h
  obtain ⟨T, W, r, R, n, m, WI, rI, RI, ⟨hT, hW, hL, hX, hM, hS, hS', h30, hB, hR, hR'⟩, ht, hf, hi⟩ := h
  have hQ := hT.1
  have hG := hW.2.2.1
  have hPP := hT.2.1
  obtain ⟨hp1, hp2⟩ := pow_p hT
  have hM0 := MT_0 (v := zi 0) hT hM
  have hS0 := MS_0 (v := zi 0) hT hW hS'
  have e00 : zset μM 0 0 (zi 0) 0 0 = zi 0 := zset_00
  rcases zcase x (T 2 0) (by omega) with ⟨q, hq, rfl⟩ | hx
  · obtain ⟨μ1, a1, a2, a3⟩ := x_draw hT hW hL.2.2.1 hX hS hq (show W 0 2 < 1000 by omega)
    obtain ⟨μ2, b1, b2⟩ := x_most hT a2
    have c1 := m_pairsIn hT hW hL.2.2.1 hM0 hS0 hq 10 0 (2 ^ T 2 1 - 1) (by omega) (fun i hi => absurd hi (by omega)) (by omega)
    refine zPm_q h' (μX' := μ2) (μM' := zset μM 0 0 (zi 0)) (e := 0) (v := zi (pin (tV T W q (W 0 2)) (T 2 1) (2 ^ T 2 1 - 1))) (w := zi (pin (tV T W q (W 0 2)) (T 2 1) (2 ^ T 2 1 - 1))) ?_ ?_ zset_00 (fun _ => rfl) (Or.inl rfl) ((zsx_53 a3).trans (b2.mono (fun k hk => by unfold zsx; omega))) zmq_0
    · unfold f8_once
      simp (disch := omega) only [x_needQ_ok hT hX hq, bnd_ok', hS.1.2.2.1, a1, bnd0_ok', b1]
    · unfold f9_once
      simp (disch := omega) only [zlet_e', zlit', m_isQ_ok hT hM0 hq, bnd0_ok', if_true, if_false, ite_true, ite_false, Bool.false_eq_true, Bool.true_eq_false, reduceIte, z10, z01, Nat.one_ne_zero, Nat.zero_ne_one, m_bad0 e00, zin_i, zi_cl, zset_nk, hM.1.2.1, zshl1, zi_sub, c1]
  · refine zPm_q h' (μX' := μX) (μM' := zset (zset μM 0 0 (zi 0)) 0 0 (zi 1)) (e := 1) (v := zi 0) (w := zi 0) ?_ ?_ zset_00 (fun h => absurd h (by decide)) (Or.inr (by decide)) zfr.refl zmq_00
    · unfold f8_once; simp (disch := omega) only [x_needQ_no hX hx, bnd_ex' (e := 0)]
    · unfold f9_once; simp (disch := omega) only [zlet_e, zlit, m_isQ_no hT hM0 hx, bnd0_ok, if_true, if_false, ite_true, ite_false, Bool.false_eq_true, Bool.true_eq_false, reduceIte, z10, z01, Nat.one_ne_zero, Nat.zero_ne_one, m_bad1 e00]
