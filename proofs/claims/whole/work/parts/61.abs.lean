/-! THE PURE SIDE, 2: a town T and a scene W as whole numbers; what a WORK does -/
abbrev zN2 : Type := Nat → Nat → Nat
/-- one number anew -/
def nup (W : zN2) (k j v : Nat) : zN2 := fun k' j' => if k' = k ∧ j' = j then v else W k' j'
theorem nup_at {W : zN2} {k j v k' j' : Nat} : nup W k j v k' j' = if k' = k ∧ j' = j then v else W k' j' := rfl
theorem nup_nk {W : zN2} {k j v k' j' : Nat} (h : k' ≠ k) : nup W k j v k' j' = W k' j' := if_neg (fun q => h q.1)
theorem nup_nj {W : zN2} {k j v k' j' : Nat} (h : j' ≠ j) : nup W k j v k' j' = W k' j' := if_neg (fun q => h q.2)
theorem nup_eq {W : zN2} {k j v : Nat} : nup W k j v k j = v := if_pos ⟨rfl, rfl⟩
/-- the SLATE's QUESTION of a DAY -/
def tS (T : zN2) (day : Nat) : Nat := if T 2 5 = 0 then 0 else T 3 (day % T 2 5)
/-- a DOOR's QUESTION -/
def tA (T W : zN2) (d : Nat) : Nat := if T 11 d = 0 then W 0 1 else T 11 d - 1
/-- by what a WORK ERRS -/
def tE (T W : zN2) (d a b : Nat) : Nat :=
  if (W 0 4).testBit d = true then 1 else if T 10 d < W 0 0 then 2 else if a = b ∨ (T 7 a).testBit b = true then 3
  else if W 1 a < T 9 d ∨ W 1 b < T 9 d then 4 else if zd (W (4 + a) (tA T W d)) (W (4 + b) (tA T W d)) < W 0 2 then 5 else 0
def nLo (lo hi a b : Nat) : Nat := if a + b ≤ hi - lo then lo + a else lo + (hi - lo) * a / (a + b)
def nHi (lo hi a b : Nat) : Nat := if a + b ≤ hi - lo then hi - b else lo + (hi - lo) * a / (a + b)
/-- two come nearer: lo the lesser, hi the other one -/
def tN1 (W : zN2) (lo hi q : Nat) : zN2 := nup (nup W (4 + lo) q (nLo (W (4 + lo) q) (W (4 + hi) q) (W 2 lo) (W 2 hi))) (4 + hi) q (nHi (W (4 + lo) q) (W (4 + hi) q) (W 2 lo) (W 2 hi))
def tN (W : zN2) (a b q : Nat) : zN2 := if W (4 + a) q ≤ W (4 + b) q then tN1 W a b q else tN1 W b a q
/-- a WORK -/
def tK (T W : zN2) (d a b : Nat) : zN2 := nup (nup (nup (tN W a b (tA T W d)) 1 a (W 1 a - T 9 d)) 1 b (W 1 b - T 9 d)) 0 4 (W 0 4 ||| 2 ^ d)
/-- a DAY begins -/
def tD (T W : zN2) (day : Nat) : zN2 := fun k j => if k = 0 ∧ j = 0 then day else if k = 0 ∧ j = 1 then tS T day else if k = 1 then T 2 4 else W k j
def TB (T : zN2) : Prop :=
  T 2 0 ≤ 4 ∧ T 2 1 ≤ 8 ∧ T 2 2 ≤ 10 ∧ T 2 3 ≤ 8 ∧ T 2 4 ≤ 999 ∧ T 2 5 ≤ 7 ∧ (T 2 0 = 0 → T 2 1 = 0 ∧ T 2 2 = 0 ∧ T 2 5 = 0) ∧ (0 < T 2 0 → 1 ≤ T 2 3 ∧ 30 ≤ T 2 4)
  ∧ (∀ p, T 5 p ≤ 4) ∧ (∀ p, T 6 p ≤ 9) ∧ (∀ p, T 7 p < 2 ^ T 2 1) ∧ (∀ p, T 2 1 ≤ p → T 7 p = 0) ∧ (∀ a b, (T 7 a).testBit b = (T 7 b).testBit a) ∧ (∀ a, (T 7 a).testBit a = false)
  ∧ (∀ d, 1 ≤ T 8 d ∧ T 8 d ≤ 99) ∧ (∀ d, 1 ≤ T 9 d ∧ T 9 d ≤ 240) ∧ (∀ d, T 10 d ≤ 29) ∧ (∀ d, T 11 d ≤ T 2 0) ∧ (∀ i, T 3 i < T 2 0 ∨ T 3 i = 0)
def WB (T W : zN2) : Prop :=
  W 0 0 ≤ 29 ∧ (W 0 1 < T 2 0 ∨ W 0 1 = 0) ∧ W 0 2 ≤ 8 ∧ W 0 3 ≤ 9 ∧ W 0 4 < 1024 ∧ (∀ p, W 1 p ≤ 999) ∧ (∀ p, W 2 p ≤ 4) ∧ (∀ p q, W (4 + p) q ≤ 8) ∧ W 0 4 < 2 ^ T 2 2
/-- the class's town -/
def XT (T : zN2) (μ : zMem) : Prop :=
  (μ 2 0 = zi (T 2 0) ∧ μ 2 1 = zi (T 2 1) ∧ μ 2 2 = zi (T 2 2) ∧ μ 2 3 = zi (T 2 3) ∧ μ 2 4 = zi (T 2 4) ∧ μ 2 5 = zi (T 2 5))
  ∧ (∀ i, i < T 2 5 → μ 3 i = zi (T 3 i)) ∧ (∀ p, p < 9 → μ 7 p = zi (T 7 p)) ∧ (∀ p, p < T 2 1 → μ 5 p = zi (T 5 p) ∧ μ 6 p = zi (T 6 p))
  ∧ (∀ d, d < T 2 2 → μ 8 d = zi (T 8 d) ∧ μ 9 d = zi (T 9 d) ∧ μ 10 d = zi (T 10 d) ∧ μ 11 d = (if T 11 d = 0 then zN1 else zi (T 11 d - 1)))
/-- a scene of the class -/
def XS (T W : zN2) (k : Nat) (μ : zMem) : Prop :=
  (μ k 1 = zi (W 0 0) ∧ μ k 2 = zi (W 0 1) ∧ μ k 3 = zi (W 0 2) ∧ μ k 4 = zi (W 0 3) ∧ μ k 5 = zi (W 0 4))
  ∧ (∀ p, p < W 0 3 → μ (k + 2) p = zi (W 1 p) ∧ μ (k + 3) p = zi (W 2 p) ∧ ∀ q, q < T 2 0 → μ (k + 1) (p * 4 + q) = zi (W (4 + p) q))
/-- the reference's town (without gap and LED, which it changes) -/
def MT (T : zN2) (μ : zMem) : Prop :=
  (μ 4 0 = zi (T 2 0) ∧ μ 4 1 = zi (T 2 1) ∧ μ 4 2 = zi (T 2 2) ∧ μ 4 4 = zi (T 2 4) ∧ μ 4 5 = zi (T 2 5))
  ∧ (∀ i, i < T 2 5 → μ 47 i = zi (T 3 i)) ∧ (∀ p, p < 9 → μ 49 p = zi (T 7 p)) ∧ (∀ p, p < T 2 1 → μ (15 + p) 5 = zi (T 6 p))
  ∧ (∀ d, d < T 2 2 → μ (36 + d) 0 = zi (T 8 d) ∧ μ (36 + d) 1 = zi (T 9 d) ∧ μ (36 + d) 2 = zi (T 10 d) ∧ μ (36 + d) 3 = (if T 11 d = 0 then zN1 else zi (T 11 d - 1)))
/-- the reference's scene -/
def MS (T W : zN2) (μ : zMem) : Prop :=
  (μ 0 20 = zi (W 0 0) ∧ (μ 0 30 = zN1 ∧ W 0 1 = tS T (W 0 0) ∨ μ 0 30 = zi (W 0 1)) ∧ μ 4 3 = zi (W 0 2))
  ∧ (∀ p, p < W 0 3 → μ 91 p = zi (W 1 p) ∧ ∀ q, q < T 2 0 → μ (51 + p) q = zi (W (4 + p) q)) ∧ (∀ p, p < T 2 1 → μ (15 + p) 4 = zi (W 2 p))
  ∧ (∀ d, d < 10 → μ 92 d = zi (if (W 0 4).testBit d = true then 1 else 0))
theorem tA_lt {T W : zN2} {d : Nat} (hT : TB T) (hW : WB T W) (h : d < T 2 2) : tA T W d < T 2 0 := by
  unfold TB at hT; unfold WB at hW; unfold tA
  have h1 := hT.2.2.2.2.2.2.1
  have h2 : T 11 d ≤ T 2 0 := hT.2.2.2.2.2.2.2.2.2.2.2.2.2.2.2.2.2.1 d
  have h3 := hW.2.1
  by_cases e : T 2 0 = 0
  · have := h1 e; omega
  · by_cases e' : T 11 d = 0
    · rw [if_pos e']; omega
    · rw [if_neg e']; omega
theorem kin_lt {T : zN2} (hT : TB T) (p : Nat) : T 7 p < 256 := by
  have h1 := hT.2.1
  have h2 := hT.2.2.2.2.2.2.2.2.2.2.1 p
  have h3 : 2 ^ T 2 1 ≤ 2 ^ 8 := Nat.pow_le_pow_right (by decide) h1
  omega
theorem x_isOpen {T W : zN2} {k : Nat} {μ : zMem} (hW : WB T W) (hS : XS T W k μ) {d : Nat} (hd : d < 32) : f5_isOpen k (zi d) μ = some (0, zi (if (W 0 4).testBit d = true then 1 else 0), μ) := by
  have ho : W 0 4 < 2147483648 := by have := hW.2.2.2.2.1; omega
  unfold f5_isOpen
  rw [hS.1.2.2.2.2]
  simp (disch := omega) only [zlet_e, zlit, zbit0]
  cases (W 0 4).testBit d
  · simp only [zbl_0, if_true, if_false, Bool.false_eq_true]
  · simp only [zbl_1, if_true, if_false, Bool.true_eq_false]
theorem x_areKin {T : zN2} {μ : zMem} (hT : TB T) (hX : XT T μ) {a b : Nat} (ha : a < 9) (hb : b < 32) : f7_areKin (zi a) (zi b) μ = some (0, zi (if (T 7 a).testBit b = true then 1 else 0), μ) := by
  have ho := kin_lt hT a
  unfold f7_areKin
  simp (disch := omega) only [zlet_e, zlit, zin_i, zi_cl]
  rw [hX.2.2.1 a ha]
  simp (disch := omega) only [zlit, zbit0]
  cases (T 7 a).testBit b
  · simp only [zbl_0, if_true, if_false, Bool.false_eq_true]
  · simp only [zbl_1, if_true, if_false, Bool.true_eq_false]
theorem tb_10 {T : zN2} (hT : TB T) (d : Nat) : T 10 d ≤ 29 := hT.2.2.2.2.2.2.2.2.2.2.2.2.2.2.2.2.1 d
theorem tb_9 {T : zN2} (hT : TB T) (d : Nat) : 1 ≤ T 9 d ∧ T 9 d ≤ 240 := hT.2.2.2.2.2.2.2.2.2.2.2.2.2.2.2.1 d
theorem tb_8 {T : zN2} (hT : TB T) (d : Nat) : 1 ≤ T 8 d ∧ T 8 d ≤ 99 := hT.2.2.2.2.2.2.2.2.2.2.2.2.2.2.1 d
theorem tb_11 {T : zN2} (hT : TB T) (d : Nat) : T 11 d ≤ T 2 0 := hT.2.2.2.2.2.2.2.2.2.2.2.2.2.2.2.2.2.1 d
theorem tb_3 {T : zN2} (hT : TB T) (i : Nat) : T 3 i < T 2 0 ∨ T 3 i = 0 := hT.2.2.2.2.2.2.2.2.2.2.2.2.2.2.2.2.2.2 i
theorem tb_sym {T : zN2} (hT : TB T) (a b : Nat) : (T 7 a).testBit b = (T 7 b).testBit a := hT.2.2.2.2.2.2.2.2.2.2.2.2.1 a b
theorem tb_irr {T : zN2} (hT : TB T) (a : Nat) : (T 7 a).testBit a = false := hT.2.2.2.2.2.2.2.2.2.2.2.2.2.1 a
theorem tb_5 {T : zN2} (hT : TB T) (p : Nat) : T 5 p ≤ 4 := hT.2.2.2.2.2.2.2.2.1 p
theorem tb_6 {T : zN2} (hT : TB T) (p : Nat) : T 6 p ≤ 9 := hT.2.2.2.2.2.2.2.2.2.1 p
theorem x_isTooLate {T W : zN2} {k : Nat} {μ : zMem} (hT : TB T) (hW : WB T W) (hX : XT T μ) (hS : XS T W k μ) {d : Nat} (hd : d < T 2 2) : f5_isTooLate k (zi d) μ = some (0, zi (if T 10 d < W 0 0 then 1 else 0), μ) := by
  have hD := hT.2.2.1
  have h1 := tb_10 hT d
  have h2 := hW.1
  unfold f5_isTooLate
  simp (disch := omega) only [zlet_e, zlit, zin_i, zi_cl, (hX.2.2.2.2 d hd).2.2.1, hS.1.1, zi_le]
  by_cases h : T 10 d < W 0 0
  · rw [if_neg (by omega), if_pos h]; exact zbl_1
  · rw [if_pos (by omega), if_neg h]; exact zbl_0
theorem x_questionOf {T W : zN2} {k : Nat} {μ : zMem} (hT : TB T) (hX : XT T μ) (hS : XS T W k μ) {d : Nat} (hd : d < T 2 2) : f5_questionOf k (zi d) μ = some (0, zi (tA T W d), μ) := by
  have hD := hT.2.2.1
  have hA := hT.1
  have h1 := tb_11 hT d
  unfold f5_questionOf tA
  simp (disch := omega) only [zlet_e, ↓zneg1, zlit, zin_i, zi_cl, (hX.2.2.2.2 d hd).2.2.2, hS.1.2.1]
  by_cases h : T 11 d = 0
  · simp only [if_pos h, if_true]
  · simp (disch := omega) only [if_neg h, zi_nN1, if_false]
theorem wb_th {T W : zN2} (hW : WB T W) (p q : Nat) : W (4 + p) q ≤ 8 := hW.2.2.2.2.2.2.2.1 p q
theorem wb_1 {T W : zN2} (hW : WB T W) (p : Nat) : W 1 p ≤ 999 := hW.2.2.2.2.2.1 p
theorem wb_2 {T W : zN2} (hW : WB T W) (p : Nat) : W 2 p ≤ 4 := hW.2.2.2.2.2.2.1 p
theorem x_thought {T W : zN2} {k : Nat} {μ : zMem} (hT : TB T) (hW : WB T W) (hS : XS T W k μ) {p q : Nat} (hp : p < W 0 3) (hq : q < T 2 0) : f5_thought k (zi p) (zi q) μ = some (0, zi (W (4 + p) q), μ) := by
  have hA := hT.1
  have hP := hW.2.2.2.1
  unfold f5_thought
  simp (disch := omega) only [zlit, zi_mul, zi_add, zin_i, zi_cl, (hS.2 p hp).2.2 q hq]
theorem x_putThought {T W : zN2} {k : Nat} {μ : zMem} {v : Int32} (hT : TB T) (hW : WB T W) {p q : Nat} (hp : p < W 0 3) (hq : q < T 2 0) : f5_putThought k (zi p) (zi q) v μ = some (0, zi 0, zset μ (k + 1) (p * 4 + q) v) := by
  have hA := hT.1
  have hP := hW.2.2.2.1
  unfold f5_putThought
  simp (disch := omega) only [zlit, zi_mul, zi_add, zin_i, zi_cl, zlet_e]
theorem x_apart {T W : zN2} {k : Nat} {μ : zMem} (hT : TB T) (hW : WB T W) (hS : XS T W k μ) {a b q : Nat} (ha : a < W 0 3) (hb : b < W 0 3) (hq : q < T 2 0) : f5_apart k (zi a) (zi b) (zi q) μ = some (0, zi (zd (W (4 + a) q) (W (4 + b) q)), μ) := by
  have hA := hT.1
  have hP := hW.2.2.2.1
  have h1 := wb_th hW a q
  have h2 := wb_th hW b q
  unfold f5_apart
  simp (disch := omega) only [zlit, zi_mul, zi_add, zin_i, zi_cl, zlet_e, (hS.2 a ha).2.2 q hq, (hS.2 b hb).2.2 q hq, zabs_sub]
theorem x_errs {T W : zN2} {k : Nat} {μ : zMem} (hT : TB T) (hW : WB T W) (hX : XT T μ) (hS : XS T W k μ) {d a b : Nat} (hd : d < T 2 2) (ha : a < W 0 3) (hb : b < W 0 3) : f5_errs k (zi d) (zi a) (zi b) μ = some (0, zi (tE T W d a b), μ) := by
  have hD := hT.2.2.1
  have hP := hW.2.2.2.1
  have hA := tA_lt hT hW hd
  have hA4 := hT.1
  have h9 := tb_9 hT d
  have hla := wb_1 hW a
  have hlb := wb_1 hW b
  have hg := hW.2.2.1
  have hz : zd (W (4 + a) (tA T W d)) (W (4 + b) (tA T W d)) ≤ 8 := by
    have := wb_th hW a (tA T W d)
    have := wb_th hW b (tA T W d)
    unfold zd; omega
  unfold f5_errs tE
  simp (disch := omega) only [x_isOpen hW hS, bnd0_ok, x_isTooLate hT hW hX hS hd, x_areKin hT hX, zlet_e, zlit, zi_eq, zin_i, zi_cl]
  cases (W 0 4).testBit d
  · simp only [if_true, if_false, ite_true, ite_false, Bool.false_eq_true, Bool.true_eq_false, reduceIte, z10, z01]
    by_cases h2 : T 10 d < W 0 0
    · simp only [if_pos h2, if_true, if_false, ite_true, ite_false, Bool.false_eq_true, Bool.true_eq_false, reduceIte, z10, z01]
    · simp only [if_neg h2, if_true, if_false, ite_true, ite_false, Bool.false_eq_true, Bool.true_eq_false, reduceIte, z10, z01]
      by_cases h3 : a = b
      · simp only [if_pos h3, h3, true_or, if_true]
      · simp only [if_neg h3, h3, false_or]
        cases (T 7 a).testBit b
        · simp (disch := omega) only [if_true, if_false, ite_true, ite_false, Bool.false_eq_true, Bool.true_eq_false, reduceIte, z10, z01, (hX.2.2.2.2 d hd).2.1, (hS.2 a ha).1, (hS.2 b hb).1, zmin_i, zi_le]
          by_cases h4 : W 1 a < T 9 d ∨ W 1 b < T 9 d
          · rw [if_pos h4, if_neg (by omega)]
          · rw [if_neg h4, if_pos (by omega)]
            simp (disch := omega) only [x_questionOf hT hX hS hd, bnd0_ok, x_apart hT hW hS ha hb hA, hS.1.2.2.1, zi_le]
            by_cases h5 : zd (W (4 + a) (tA T W d)) (W (4 + b) (tA T W d)) < W 0 2
            · rw [if_neg (by omega), if_pos h5]
            · rw [if_pos (by omega), if_neg h5]
        · simp only [if_true, if_false, ite_true, ite_false, Bool.false_eq_true, Bool.true_eq_false, reduceIte, z10, z01, Nat.one_ne_zero]
  · simp only [if_true, if_false, ite_true, ite_false, Bool.false_eq_true, Bool.true_eq_false, reduceIte, z10, z01, Nat.one_ne_zero]
