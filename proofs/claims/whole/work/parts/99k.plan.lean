/-! THE PURE SIDE, 50: TODAY, the class's values -/
def mxOf (S : Nat → Prop) (v : Nat) : Prop := S v ∧ ∀ u, S u → u ≤ v
theorem mxOf_add {S S' : Nat → Prop} {v u : Nat} (h : mxOf S v) (hS : ∀ w, S' w ↔ S w ∨ w = u) : mxOf S' (max v u) := by
  refine ⟨?_, fun w hw => ?_⟩
  · rw [hS]
    by_cases e : u ≤ v
    · rw [Nat.max_eq_left e]; exact Or.inl h.1
    · rw [Nat.max_eq_right (by omega)]; exact Or.inr rfl
  · rcases (hS w).1 hw with q | q
    · have := h.2 w q; omega
    · omega
theorem mxOf_iff {S S' : Nat → Prop} {v : Nat} (h : mxOf S v) (hS : ∀ w, S' w ↔ S w) : mxOf S' v := ⟨(hS v).2 h.1, fun u hu => h.2 u ((hS u).1 hu)⟩
theorem mxOf_eq {S : Nat → Prop} {v v' : Nat} (h : mxOf S v) (h' : mxOf S v') : v = v' := Nat.le_antisymm (h'.2 v h.1) (h.2 v' h'.1)
/-- two of a group for a DOOR -/
def fit (T W : zN2) (d g a b : Nat) : Prop := tO T W d a b ∧ g.testBit a = true ∧ g.testBit b = true
/-- a group without two -/
def wo2 (g a b : Nat) : Nat := g ^^^ 2 ^ a ^^^ 2 ^ b
theorem wo2_lt {g a b : Nat} (hab : a ≠ b) (ha : g.testBit a = true) (hb : g.testBit b = true) : wo2 g a b < g := by
  unfold wo2
  have h1 := xor_lt ha
  have h2 : (g ^^^ 2 ^ a).testBit b = true := by rw [xor_bit, hb, decide_eq_false hab]; rfl
  have h3 := xor_lt h2
  omega
/-- the values that a group may take with a DOOR -/
def oV (T W : zN2) (V : Nat → Nat) (d g : Nat) (u : Nat) : Prop := u = V g ∨ ∃ a b, fit T W d g a b ∧ u = V (wo2 g a b) + (T 8 d * 1024 - 2 ^ d)
theorem x_offer86 {T W : zN2} {d g a : Nat} (hW : WB T W) {V : Nat → Nat} (hV : ∀ h, V h < 2000000) (hgn : T 8 d * 1024 - 2 ^ d < 2000000) (ha : a < W 0 3) (hg : g < 2 ^ W 0 3) (hga : g.testBit a = true) {S : Nat → Prop} {v : Nat} (hv : mxOf S v) (hS : ∀ u, S u → u < 5000000) (K : Int32 → zMem → zRes) {μ : zMem} (h49 : μ 49 4 = zi (W 0 3)) (h51 : ∀ h, h < g → μ 51 h = zi (V h)) :
    ∃ v', f2_offer_L86 (zi (T 8 d * 1024 - 2 ^ d)) (zi g) (zi a) (zi (bset (fO T W d a) (W 0 3) &&& g)) K zF (zi v) (zi (a + 1)) μ = K (zi v') μ ∧ mxOf (fun u => S u ∨ ∃ b, fit T W d g a b ∧ u = V (wo2 g a b) + (T 8 d * 1024 - 2 ^ d)) v' := by
  have hP := hW.2.2.2.1
  have hG : 2 ^ W 0 3 ≤ 512 := pw9 hP
  have hbs := bset_lt (fO T W d a) (W 0 3)
  have hand : bset (fO T W d a) (W 0 3) &&& g < 2 ^ W 0 3 := Nat.lt_of_le_of_lt Nat.and_le_left hbs
  have hbit : ∀ b, b < W 0 3 → ((bset (fO T W d a) (W 0 3) &&& g).testBit b = true ↔ fit T W d g a b) := fun b hb => by
    rw [Nat.testBit_and, bset_bit, decide_eq_true hb, Bool.true_and, Bool.and_eq_true, fO_iff]
    exact ⟨fun q => ⟨q.1, hga, q.2⟩, fun q => ⟨q.1, q.2.2⟩⟩
  have h0 : bset (fO T W d a) (W 0 3) &&& g = 0 → ∀ b, ¬ fit T W d g a b := fun q b hf => by
    have := (hbit b hf.1.2.1).2 hf
    rw [q, Nat.zero_testBit] at this
    exact absurd this (by decide)
  have h := zloopQ (L := fun n i (x : Nat) => f2_offer_L86 (zi (T 8 d * 1024 - 2 ^ d)) (zi g) (zi a) (zi (bset (fO T W d a) (W 0 3) &&& g)) K n (zi x) (zi i) μ) (N := W 0 3)
    (fun r => ∃ v', r = K (zi v') μ ∧ mxOf (fun u => S u ∨ ∃ b, fit T W d g a b ∧ u = V (wo2 g a b) + (T 8 d * 1024 - 2 ^ d)) v')
    (fun i x => mxOf (fun u => S u ∨ ∃ b, b < i ∧ fit T W d g a b ∧ u = V (wo2 g a b) + (T 8 d * 1024 - 2 ^ d)) x)
    (fun n x hx => by
      refine ⟨x, ?_, mxOf_iff hx (fun u => ?_)⟩
      · show f2_offer_L86 (zi (T 8 d * 1024 - 2 ^ d)) (zi g) (zi a) (zi (bset (fO T W d a) (W 0 3) &&& g)) K (n + 1) (zi x) (zi (W 0 3)) μ = _
        rw [f2_offer_L86, h49, if_pos (Int32.le_refl _)]
        split <;> rfl
      · constructor
        · rintro (q | ⟨b, q1, q2⟩)
          · exact Or.inl q
          · exact Or.inr ⟨b, q1.1.2.1, q1, q2⟩
        · rintro (q | ⟨b, q0, q1, q2⟩)
          · exact Or.inl q
          · exact Or.inr ⟨b, q1, q2⟩)
    (fun n i x hi hx => by
      have z1 : zi i + (1 : Int32) = zi (i + 1) := zi_add i 1
      have hle : ¬ zi (W 0 3) ≤ zi i := by rw [zi_le (by omega) (by omega)]; omega
      have hx5 : x < 5000000 := by
        rcases hx.1 with q | ⟨b, -, -, q⟩
        · exact hS x q
        · have := hV (wo2 g a b); omega
      by_cases e0 : bset (fO T W d a) (W 0 3) &&& g = 0
      · left
        refine ⟨x, ?_, mxOf_iff hx (fun u => ?_)⟩
        · show f2_offer_L86 (zi (T 8 d * 1024 - 2 ^ d)) (zi g) (zi a) (zi (bset (fO T W d a) (W 0 3) &&& g)) K (n + 1) (zi x) (zi i) μ = _
          rw [f2_offer_L86, if_pos (show zi (bset (fO T W d a) (W 0 3) &&& g) = (0 : Int32) from by rw [e0]; rfl)]
        · constructor
          · rintro (q | ⟨b, q1, q2⟩)
            · exact Or.inl q
            · exact absurd q1 (h0 e0 b)
          · rintro (q | ⟨b, q0, q1, q2⟩)
            · exact Or.inl q
            · exact Or.inr ⟨b, q1, q2⟩
      · right
        have ne0 : ¬ zi (bset (fO T W d a) (W 0 3) &&& g) = (0 : Int32) := by rw [show (0 : Int32) = zi 0 from rfl, zi_eq (by omega) (by omega)]; exact e0
        have hb0 : (zshr (zi (bset (fO T W d a) (W 0 3) &&& g)) (zi i) &&& (1 : Int32) = 0) = ((bset (fO T W d a) (W 0 3) &&& g).testBit i = false) := zbit0 (by omega) (by omega)
        by_cases hb : (bset (fO T W d a) (W 0 3) &&& g).testBit i = true
        · have hf := (hbit i hi).1 hb
          have hab : a ≠ i := by have := hf.1.1; omega
          have hlt := wo2_lt hab hf.2.1 hf.2.2
          have hvw := hV (wo2 g a i)
          refine ⟨max x (V (wo2 g a i) + (T 8 d * 1024 - 2 ^ d)), ?_, mxOf_add hx (fun w => ?_)⟩
          · show f2_offer_L86 (zi (T 8 d * 1024 - 2 ^ d)) (zi g) (zi a) (zi (bset (fO T W d a) (W 0 3) &&& g)) K (n + 1) (zi x) (zi i) μ = _
            have ew : zi g ^^^ zshl (1 : Int32) (zi a) ^^^ zshl (1 : Int32) (zi i) = zi (wo2 g a i) := by
              rw [show zshl (1 : Int32) (zi a) = zi (2 ^ a) from zshl1 (by omega), show zshl (1 : Int32) (zi i) = zi (2 ^ i) from zshl1 (by omega), zi_xor, zi_xor]; rfl
            rw [f2_offer_L86, if_neg ne0, h49, if_neg hle, zlet_e, if_neg (by rw [hb0, hb]; decide), ew, zin_i (by omega) (by omega), zlet_e, zi_cl (by omega), h51 _ hlt, zi_add, zmax_i (by omega) (by omega), z1]
          · constructor
            · rintro (q | ⟨b, q0, q1, q2⟩)
              · exact Or.inl (Or.inl q)
              · by_cases eb : b = i
                · exact Or.inr (by rw [q2, eb])
                · exact Or.inl (Or.inr ⟨b, by omega, q1, q2⟩)
            · rintro ((q | ⟨b, q0, q1, q2⟩) | q)
              · exact Or.inl q
              · exact Or.inr ⟨b, by omega, q1, q2⟩
              · exact Or.inr ⟨i, by omega, hf, q⟩
        · refine ⟨x, ?_, mxOf_iff hx (fun u => ?_)⟩
          · show f2_offer_L86 (zi (T 8 d * 1024 - 2 ^ d)) (zi g) (zi a) (zi (bset (fO T W d a) (W 0 3) &&& g)) K (n + 1) (zi x) (zi i) μ = _
            rw [f2_offer_L86, if_neg ne0, h49, if_neg hle, zlet_e, if_pos (by rw [hb0]; exact (Bool.not_eq_true _).mp hb), z1]
          · constructor
            · rintro (q | ⟨b, q0, q1, q2⟩)
              · exact Or.inl q
              · have : b ≠ i := fun e => hb ((hbit i hi).2 (e ▸ q1))
                exact Or.inr ⟨b, by omega, q1, q2⟩
            · rintro (q | ⟨b, q0, q1, q2⟩)
              · exact Or.inl q
              · exact Or.inr ⟨b, by omega, q1, q2⟩)
    (W 0 3 - (a + 1)) (a + 1) v zF (by omega) (by unfold zF; omega) (mxOf_iff hv (fun u => ⟨fun q => q.elim id (fun r => by obtain ⟨b, q0, q1, -⟩ := r; have := q1.1.1; omega), Or.inl⟩))
  exact h
theorem x_offer42 {T W : zN2} {d g : Nat} (hT : TB T) (hW : WB T W) (hd : d < T 2 2) {V : Nat → Nat} (hV : ∀ h, V h < 2000000) (hgn : T 8 d * 1024 - 2 ^ d < 2000000) (hg : g < 2 ^ W 0 3) (K : Int32 → zMem → zRes) {μ : zMem} (h49 : μ 49 4 = zi (W 0 3)) (h50 : ∀ a, a < W 0 3 → μ 50 (d * 9 + a) = zi (bset (fO T W d a) (W 0 3))) (h51 : ∀ h, h < g → μ 51 h = zi (V h)) :
    ∃ v', f2_offer_L42 (zi d) (zi (T 8 d * 1024 - 2 ^ d)) (zi g) K zF (zi (V g)) (zi 0) μ = K (zi v') μ ∧ mxOf (oV T W V d g) v' := by
  have hP := hW.2.2.2.1
  have hD := hT.2.2.1
  have hG : 2 ^ W 0 3 ≤ 512 := pw9 hP
  obtain ⟨x, e1, e2⟩ := zloopE (L := fun n i (x : Nat) => f2_offer_L42 (zi d) (zi (T 8 d * 1024 - 2 ^ d)) (zi g) K n (zi x) (zi i) μ) (N := W 0 3) (o := fun x => K (zi x) μ)
    (fun i x => mxOf (fun u => u = V g ∨ ∃ a b, a < i ∧ fit T W d g a b ∧ u = V (wo2 g a b) + (T 8 d * 1024 - 2 ^ d)) x)
    (fun n x hx => by
      show f2_offer_L42 (zi d) (zi (T 8 d * 1024 - 2 ^ d)) (zi g) K (n + 1) (zi x) (zi (W 0 3)) μ = _
      rw [f2_offer_L42, h49, if_pos (Int32.le_refl _)])
    (fun n i x hi hx => by
      have z1 : zi i + (1 : Int32) = zi (i + 1) := zi_add i 1
      have hle : ¬ zi (W 0 3) ≤ zi i := by rw [zi_le (by omega) (by omega)]; omega
      have hgb : (zshr (zi g) (zi i) &&& (1 : Int32) = 0) = (g.testBit i = false) := zbit0 (by omega) (by omega)
      have ei : zi d * (9 : Int32) + zi i = zi (d * 9 + i) := by rw [show (9 : Int32) = zi 9 from rfl, zi_mul, zi_add]
      by_cases hga : g.testBit i = true
      · obtain ⟨v', a1, a2⟩ := x_offer86 (T := T) (W := W) (d := d) (g := g) (a := i) hW hV hgn hi hg hga hx (fun u hu => by
          rcases hu with q | ⟨a, b, -, -, q⟩
          · have := hV g; omega
          · have := hV (wo2 g a b); omega) (fun (x4_26 : Int32) (μ27 : zMem) => f2_offer_L42 (zi d) (zi (T 8 d * 1024 - 2 ^ d)) (zi g) K n x4_26 (zi i + (1 : Int32)) μ27) h49 h51
        refine ⟨v', ?_, mxOf_iff a2 (fun u => ?_)⟩
        · show f2_offer_L42 (zi d) (zi (T 8 d * 1024 - 2 ^ d)) (zi g) K (n + 1) (zi x) (zi i) μ = f2_offer_L42 (zi d) (zi (T 8 d * 1024 - 2 ^ d)) (zi g) K n (zi v') (zi (i + 1)) μ
          rw [f2_offer_L42, h49, if_neg hle, zlet_e, if_neg (by rw [hgb, hga]; decide), ei, zin_i (by omega) (by omega), zi_cl (by omega), h50 i hi, zi_and]
          show zlet _ _ = _
          rw [zlet_e, zlet_e, ← z1]
          rw [← z1] at a1
          exact a1
        · constructor
          · rintro (q | ⟨a, b, q0, q1, q2⟩)
            · exact Or.inl (Or.inl q)
            · by_cases ea : a = i
              · subst ea; exact Or.inr ⟨b, q1, q2⟩
              · exact Or.inl (Or.inr ⟨a, b, by omega, q1, q2⟩)
          · rintro ((q | ⟨a, b, q0, q1, q2⟩) | ⟨b, q1, q2⟩)
            · exact Or.inl q
            · exact Or.inr ⟨a, b, by omega, q1, q2⟩
            · exact Or.inr ⟨i, b, by omega, q1, q2⟩
      · refine ⟨x, ?_, mxOf_iff hx (fun u => ?_)⟩
        · show f2_offer_L42 (zi d) (zi (T 8 d * 1024 - 2 ^ d)) (zi g) K (n + 1) (zi x) (zi i) μ = f2_offer_L42 (zi d) (zi (T 8 d * 1024 - 2 ^ d)) (zi g) K n (zi x) (zi (i + 1)) μ
          rw [f2_offer_L42, h49, if_neg hle, zlet_e, if_pos (by rw [hgb]; exact (Bool.not_eq_true _).mp hga)]
          show zlet _ _ = _
          rw [zlet_e, zlet_e, show zF = 999999 + 1 from rfl, f2_offer_L86, if_pos (show (0 : Int32) = 0 from rfl), z1]
        · constructor
          · rintro (q | ⟨a, b, q0, q1, q2⟩)
            · exact Or.inl q
            · have : a ≠ i := fun e => hga (e ▸ q1.2.1)
              exact Or.inr ⟨a, b, by omega, q1, q2⟩
          · rintro (q | ⟨a, b, q0, q1, q2⟩)
            · exact Or.inl q
            · exact Or.inr ⟨a, b, by omega, q1, q2⟩)
    (W 0 3) 0 (V g) zF (by omega) (by unfold zF; omega) ⟨Or.inl rfl, fun u hu => by
      rcases hu with q | ⟨a, b, q0, -⟩
      · omega
      · omega⟩
  refine ⟨x, e1, mxOf_iff e2 (fun u => ?_)⟩
  constructor
  · rintro (q | ⟨a, b, q1, q2⟩)
    · exact Or.inl q
    · exact Or.inr ⟨a, b, Nat.lt_trans q1.1.1 q1.1.2.1, q1, q2⟩
  · rintro (q | ⟨a, b, q0, q1, q2⟩)
    · exact Or.inl q
    · exact Or.inr ⟨a, b, q1, q2⟩
