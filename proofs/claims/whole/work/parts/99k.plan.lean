/-! THE PURE SIDE, 50: TODAY, the class's values -/
def mxOf (S : Nat → Prop) (v : Nat) : Prop := S v ∧ ∀ u, S u → u ≤ v
theorem mxOf_add {S S' : Nat → Prop} {v u : Nat} (h : mxOf S v) (hS : ∀ w, S' w ↔ S w ∨ w = u) : mxOf S' (max v u) := by
  refine ⟨?_, fun w hw => ?_⟩
  · rw [hS]
    by_cases e : u ≤ v
    · rw [Nat.max_eq_left e]; exact Or.inl h.1
    · rw [Nat.max_eq_right (by omega)]; exact Or.inr rfl
  · rcases (hS w).1 hw with q | q
    · have := h.2 w q; omega
    · omega
theorem mxOf_iff {S S' : Nat → Prop} {v : Nat} (h : mxOf S v) (hS : ∀ w, S' w ↔ S w) : mxOf S' v := ⟨(hS v).2 h.1, fun u hu => h.2 u ((hS u).1 hu)⟩
theorem mxOf_eq {S : Nat → Prop} {v v' : Nat} (h : mxOf S v) (h' : mxOf S v') : v = v' := Nat.le_antisymm (h'.2 v h.1) (h.2 v' h'.1)
/-- two of a group for a DOOR -/
def fit (T W : zN2) (d g a b : Nat) : Prop := tO T W d a b ∧ g.testBit a = true ∧ g.testBit b = true
/-- a group without two -/
def wo2 (g a b : Nat) : Nat := g ^^^ 2 ^ a ^^^ 2 ^ b
theorem wo2_lt {g a b : Nat} (hab : a ≠ b) (ha : g.testBit a = true) (hb : g.testBit b = true) : wo2 g a b < g := by
  unfold wo2
  have h1 := xor_lt ha
  have h2 : (g ^^^ 2 ^ a).testBit b = true := by rw [xor_bit, hb, decide_eq_false hab]; rfl
  have h3 := xor_lt h2
  omega
/-- the values that a group may take with a DOOR -/
def oV (T W : zN2) (V : Nat → Nat) (d g : Nat) (u : Nat) : Prop := u = V g ∨ ∃ a b, fit T W d g a b ∧ u = V (wo2 g a b) + (T 8 d * 1024 - 2 ^ d)
theorem and_two {g a b : Nat} : g &&& (2 ^ a ||| 2 ^ b) = 2 ^ a ||| 2 ^ b ↔ g.testBit a = true ∧ g.testBit b = true := by
  have ta : (2 ^ a ||| 2 ^ b).testBit a = true := by rw [Nat.testBit_or, Nat.testBit_two_pow_self, Bool.true_or]
  have tb : (2 ^ a ||| 2 ^ b).testBit b = true := by rw [Nat.testBit_or, Nat.testBit_two_pow_self (n := b), Bool.or_true]
  constructor
  · intro h
    constructor
    · have := congrArg (fun x => x.testBit a) h
      rw [Nat.testBit_and, ta, Bool.and_true] at this
      exact this
    · have := congrArg (fun x => x.testBit b) h
      rw [Nat.testBit_and, tb, Bool.and_true] at this
      exact this
  · rintro ⟨h1, h2⟩
    refine Nat.eq_of_testBit_eq (fun i => ?_)
    rw [Nat.testBit_and, Nat.testBit_or, Nat.testBit_two_pow, Nat.testBit_two_pow]
    by_cases e1 : a = i
    · subst e1; rw [h1, Bool.true_and]
    · by_cases e2 : b = i
      · subst e2; rw [h2, Bool.true_and]
      · rw [decide_eq_false e1, decide_eq_false e2, Bool.or_false, Bool.and_false]
theorem xor_two {g a b : Nat} (hab : a ≠ b) : g ^^^ (2 ^ a ||| 2 ^ b) = wo2 g a b := by
  unfold wo2
  refine Nat.eq_of_testBit_eq (fun i => ?_)
  rw [Nat.testBit_xor, Nat.testBit_xor, Nat.testBit_xor, Nat.testBit_or, Nat.testBit_two_pow, Nat.testBit_two_pow]
  by_cases e1 : a = i
  · rw [decide_eq_true e1, decide_eq_false (fun e : b = i => hab (e1.trans e.symm))]
    cases g.testBit i <;> rfl
  · rw [decide_eq_false e1]
    cases g.testBit i <;> cases decide (b = i) <;> rfl
theorem tb2_lt {c : Nat} (h1 : c / 10 < c % 10) (h2 : c % 10 < 9) : tb2 c < 512 :=
  Nat.or_lt_two_pow (n := 9) (Nat.pow_lt_pow_right (by decide) (by omega)) (Nat.pow_lt_pow_right (by decide) h2)
theorem x_offer70 {T W : zN2} {d g : Nat} (hT : TB T) (hW : WB T W) (hd : d < T 2 2) {V : Nat → Nat} (hV : ∀ h, V h < 2000000) (hgn : T 8 d * 1024 - 2 ^ d < 2000000) (hg : g < 2 ^ W 0 3) (K : Int32 → zRes) {μ : zMem} (hw : xTw T W d μ) (h52 : ∀ h, h < g → μ 52 h = zi (V h)) :
    ∃ v', f2_offer_L70 (zi (T 8 d * 1024 - 2 ^ d)) (zi (d * 36 + cn (pO T W d) 90)) (zi g) μ K zF (zi (V g)) (zi (d * 36)) = K (zi v') ∧ mxOf (oV T W V d g) v' := by
  have hP := hW.2.2.2.1
  have hD := hT.2.2.1
  have hG : 2 ^ W 0 3 ≤ 512 := pw9 hP
  have h36 := pO_36 hW (d := d)
  obtain ⟨x, e1, e2⟩ := zloopE (L := fun n i (x : Nat) => f2_offer_L70 (zi (T 8 d * 1024 - 2 ^ d)) (zi (d * 36 + cn (pO T W d) 90)) (zi g) μ K n (zi x) (zi (d * 36 + i))) (N := cn (pO T W d) 90) (o := fun x => K (zi x))
    (fun i x => mxOf (fun u => u = V g ∨ ∃ c, pO T W d c = true ∧ cn (pO T W d) c < i ∧ fit T W d g (c / 10) (c % 10) ∧ u = V (wo2 g (c / 10) (c % 10)) + (T 8 d * 1024 - 2 ^ d)) x)
    (fun n x hx => by
      show f2_offer_L70 _ (zi (d * 36 + cn (pO T W d) 90)) (zi g) μ K (n + 1) (zi x) (zi (d * 36 + cn (pO T W d) 90)) = _
      rw [f2_offer_L70, if_pos (Int32.le_refl _)])
    (fun n i x hi hx => by
      obtain ⟨c, c1, c2, c3⟩ := cn_ex 90 hi
      have hb := pO_bd hW c2
      have hO := pO_tO c2
      have hab : c / 10 ≠ c % 10 := by omega
      have ht := tb2_lt hb.1 hb.2.2.1
      have h50 : μ 50 (d * 36 + i) = zi (tb2 c) := by rw [← c3]; exact hw.2 c c2
      have z1 : zi (d * 36 + i) + (1 : Int32) = zi (d * 36 + (i + 1)) := zi_add (d * 36 + i) 1
      have hle : ¬ zi (d * 36 + cn (pO T W d) 90) ≤ zi (d * 36 + i) := by rw [zi_le (by omega) (by omega)]; omega
      have hgt : g &&& tb2 c ≤ g := Nat.and_le_left
      have hx5 : x < 5000000 := by
        rcases hx.1 with q | ⟨c', -, -, -, q⟩
        · have := hV g; omega
        · have := hV (wo2 g (c' / 10) (c' % 10)); omega
      have hcase : ∀ u : Nat, u < i + 1 ↔ u < i ∨ u = i := fun u => by omega
      by_cases hf : g &&& tb2 c = tb2 c
      · have hf2 := and_two.1 hf
        have hfit : fit T W d g (c / 10) (c % 10) := ⟨hO, hf2.1, hf2.2⟩
        have hlt := wo2_lt hab hf2.1 hf2.2
        have hvw := hV (wo2 g (c / 10) (c % 10))
        have ew : zi g ^^^ zi (tb2 c) = zi (wo2 g (c / 10) (c % 10)) := by rw [zi_xor]; exact congrArg zi (xor_two hab)
        refine ⟨max x (V (wo2 g (c / 10) (c % 10)) + (T 8 d * 1024 - 2 ^ d)), ?_, mxOf_add hx (fun w => ?_)⟩
        · show f2_offer_L70 (zi (T 8 d * 1024 - 2 ^ d)) (zi (d * 36 + cn (pO T W d) 90)) (zi g) μ K (n + 1) (zi x) (zi (d * 36 + i)) = f2_offer_L70 (zi (T 8 d * 1024 - 2 ^ d)) (zi (d * 36 + cn (pO T W d) 90)) (zi g) μ K n (zi (max x (V (wo2 g (c / 10) (c % 10)) + (T 8 d * 1024 - 2 ^ d)))) (zi (d * 36 + (i + 1)))
          rw [f2_offer_L70, if_neg hle, zin_i (by omega) (by omega), zlet_e, zlet_e, zi_cl (by omega), h50, if_pos (show zi g &&& zi (tb2 c) = zi (tb2 c) from by rw [zi_and, hf]), ew, zin_i (by omega) (by omega), zi_cl (by omega), h52 _ hlt, zi_add, z1]
          by_cases hu : V (wo2 g (c / 10) (c % 10)) + (T 8 d * 1024 - 2 ^ d) ≤ x
          · rw [if_pos (show zi (V (wo2 g (c / 10) (c % 10)) + (T 8 d * 1024 - 2 ^ d)) ≤ zi x from by rw [zi_le (by omega) (by omega)]; exact hu), Nat.max_eq_left hu]
          · rw [if_neg (show ¬ zi (V (wo2 g (c / 10) (c % 10)) + (T 8 d * 1024 - 2 ^ d)) ≤ zi x from by rw [zi_le (by omega) (by omega)]; exact hu), zin_i (by omega) (by omega), zlet_e, Nat.max_eq_right (by omega)]
        · constructor
          · rintro (q | ⟨c', q0, q1, q2, q3⟩)
            · exact Or.inl (Or.inl q)
            · rcases (hcase _).1 q1 with q | q
              · exact Or.inl (Or.inr ⟨c', q0, q, q2, q3⟩)
              · have := cn_inj q0 c2 (q.trans c3.symm)
                exact Or.inr (by rw [q3, this])
          · rintro ((q | ⟨c', q0, q1, q2, q3⟩) | q)
            · exact Or.inl q
            · exact Or.inr ⟨c', q0, by omega, q2, q3⟩
            · exact Or.inr ⟨c, c2, by omega, hfit, q⟩
      · have hnf : ¬ fit T W d g (c / 10) (c % 10) := fun q => hf (and_two.2 ⟨q.2.1, q.2.2⟩)
        refine ⟨x, ?_, mxOf_iff hx (fun w => ?_)⟩
        · show f2_offer_L70 (zi (T 8 d * 1024 - 2 ^ d)) (zi (d * 36 + cn (pO T W d) 90)) (zi g) μ K (n + 1) (zi x) (zi (d * 36 + i)) = f2_offer_L70 (zi (T 8 d * 1024 - 2 ^ d)) (zi (d * 36 + cn (pO T W d) 90)) (zi g) μ K n (zi x) (zi (d * 36 + (i + 1)))
          rw [f2_offer_L70, if_neg hle, zin_i (by omega) (by omega), zlet_e, zlet_e, zi_cl (by omega), h50, if_neg (show ¬ zi g &&& zi (tb2 c) = zi (tb2 c) from by rw [zi_and, zi_eq (by omega) (by omega)]; exact hf), z1]
        · constructor
          · rintro (q | ⟨c', q0, q1, q2, q3⟩)
            · exact Or.inl q
            · rcases (hcase _).1 q1 with q | q
              · exact Or.inr ⟨c', q0, q, q2, q3⟩
              · have := cn_inj q0 c2 (q.trans c3.symm)
                exact absurd (this ▸ q2) hnf
          · rintro (q | ⟨c', q0, q1, q2, q3⟩)
            · exact Or.inl q
            · exact Or.inr ⟨c', q0, by omega, q2, q3⟩)
    (cn (pO T W d) 90) 0 (V g) zF (by omega) (by unfold zF; omega) ⟨Or.inl rfl, fun u hu => by
      rcases hu with q | ⟨c', -, q, -⟩
      · omega
      · exact absurd q (Nat.not_lt_zero _)⟩
  refine ⟨x, e1, mxOf_iff e2 (fun u => ?_)⟩
  constructor
  · rintro (q | ⟨a, b, q1, q2⟩)
    · exact Or.inl q
    · have hp := pO_of hW q1.1
      have hb10 : b < 10 := by have := q1.1.2.1; omega
      refine Or.inr ⟨10 * a + b, hp, cn_lt hp (pO_bd hW hp).2.2.2, ?_⟩
      rw [show (10 * a + b) / 10 = a by omega, show (10 * a + b) % 10 = b by omega]
      exact ⟨q1, q2⟩
  · rintro (q | ⟨c', q0, q1, q2, q3⟩)
    · exact Or.inl q
    · exact Or.inr ⟨_, _, q2, q3⟩
