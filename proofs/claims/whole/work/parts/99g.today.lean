/-! THE PURE SIDE, 46: TODAY, a DOOR added to the reference's table -/
theorem pw9 {d : Nat} (h : d ≤ 9) : 2 ^ d ≤ 512 := Nat.pow_le_pow_right (n := 2) (by decide) h
theorem pw10 {d : Nat} (h : d ≤ 10) : 2 ^ d ≤ 1024 := Nat.pow_le_pow_right (n := 2) (by decide) h
/-- a table H with a DOOR d added by the pairs of Q -/
def aH (H : Nat → Nat → Prop) (d : Nat) (Q : Nat → Prop) (s' g' : Nat) : Prop := H s' g' ∨ ∃ p s g, Q p ∧ s < 2 ^ d ∧ H s g ∧ g &&& p = 0 ∧ s' = s ||| 2 ^ d ∧ g' = g ||| p
theorem or_ne {s s0 d : Nat} (hs : s < 2 ^ d) : s ≠ s0 ||| 2 ^ d := by
  intro q
  have t1 : (s0 ||| 2 ^ d).testBit d = true := by rw [Nat.testBit_or, Nat.testBit_two_pow_self, Bool.or_true]
  rw [← q, Nat.testBit_lt_two_pow hs] at t1
  exact absurd t1 (by decide)
theorem aH_low {H : Nat → Nat → Prop} {d : Nat} {Q : Nat → Prop} {s g : Nat} (hs : s < 2 ^ d) : aH H d Q s g ↔ H s g := by
  constructor
  · rintro (h | ⟨p, s0, g0, -, -, -, -, h, -⟩)
    · exact h
    · exact absurd h (or_ne hs)
  · exact Or.inl
theorem aH_aH {H : Nat → Nat → Prop} {d : Nat} {Q Q' Q'' : Nat → Prop} (hQ : ∀ p, Q'' p ↔ Q p ∨ Q' p) {s g : Nat} : aH (aH H d Q) d Q' s g ↔ aH H d Q'' s g := by
  constructor
  · rintro ((h | ⟨p, s0, g0, h1, h2, h3, h4⟩) | ⟨p, s0, g0, h1, h2, h3, h4⟩)
    · exact Or.inl h
    · exact Or.inr ⟨p, s0, g0, (hQ p).2 (Or.inl h1), h2, h3, h4⟩
    · exact Or.inr ⟨p, s0, g0, (hQ p).2 (Or.inr h1), h2, (aH_low h2).1 h3, h4⟩
  · rintro (h | ⟨p, s0, g0, h1, h2, h3, h4⟩)
    · exact Or.inl (Or.inl h)
    · rcases (hQ p).1 h1 with h1 | h1
      · exact Or.inl (Or.inr ⟨p, s0, g0, h1, h2, h3, h4⟩)
      · exact Or.inr ⟨p, s0, g0, h1, h2, (aH_low h2).2 h3, h4⟩
theorem aH_iff {H : Nat → Nat → Prop} {d : Nat} {Q Q' : Nat → Prop} (hQ : ∀ p, Q p ↔ Q' p) {s g : Nat} : aH H d Q s g ↔ aH H d Q' s g := by
  rw [show Q = Q' from funext (fun p => propext (hQ p))]
theorem aH_none {H : Nat → Nat → Prop} {d : Nat} {Q : Nat → Prop} (hQ : ∀ p, ¬ Q p) {s g : Nat} : aH H d Q s g ↔ H s g := by
  constructor
  · rintro (h | ⟨p, s0, g0, h1, -⟩)
    · exact h
    · exact absurd h1 (hQ p)
  · exact Or.inl
theorem m_adds45 {P D d p : Nat} (hP : P ≤ 9) (hD : D ≤ 10) (hd : d < D) (hp : p < 2 ^ P) {H : Nat → Nat → Prop} (hH : ∀ s g, H s g → g < 2 ^ P) (K : zMem → zRes) {m : zMem} (hm : mH (2 ^ D) (2 ^ P) H m) :
    ∃ m', f9_adds_L45 (zi d) (zi P) (zi p) K zF (zi 0) m = K m' ∧ mH (2 ^ D) (2 ^ P) (aH H d (fun q => q = p)) m' ∧ zfr (fun k => 101 ≤ k ∧ k < 1125) m m' := by
  have hN : 2 ^ D ≤ 1024 := Nat.pow_le_pow_right (n := 2) (by decide) hD
  have hdD : 2 ^ d ≤ 2 ^ D := Nat.pow_le_pow_right (by decide) (by omega)
  have hd1 : 2 ^ d ≤ 512 := pw9 (by omega)
  have e' : zshl (1 : Int32) (zi d) = zi (2 ^ d) := zshl1 (by omega)
  obtain ⟨x, e1, e2, e3⟩ := zloopE (L := fun n i (x : zMem) => f9_adds_L45 (zi d) (zi P) (zi p) K n (zi i) x) (N := 2 ^ d) (o := fun x => K x)
    (fun i x => mH (2 ^ D) (2 ^ P) (fun s' g' => H s' g' ∨ ∃ s g, s < i ∧ H s g ∧ g &&& p = 0 ∧ s' = s ||| 2 ^ d ∧ g' = g ||| p) x ∧ zfr (fun k => 101 ≤ k ∧ k < 1125) m x)
    (fun n x _ => by rw [f9_adds_L45, e', if_pos (Int32.le_refl _)])
    (fun n i x hi hx => by
      obtain ⟨y, a1, a2, a3⟩ := m_adds56 (P := P) (D := D) (d := d) (s := i) (p := p) hP hD hd hi hp (fun (μ28 : zMem) => f9_adds_L45 (zi d) (zi P) (zi p) K n (zi i + (1 : Int32)) μ28) hx.1
      have z1 : zi i + (1 : Int32) = zi (i + 1) := zi_add i 1
      have hb := bor_lt (o := i) (d := d) (n := D) (by omega) hd
      refine ⟨y, ?_, mH_congr a2 (fun s' g' _ _ => ?_), hx.2.trans (a3.mono (fun k hk => by omega))⟩
      · rw [f9_adds_L45, e', if_neg (show ¬ zi (2 ^ d) ≤ zi i from by rw [zi_le (by omega) (by omega)]; omega), ← z1]
        exact a1
      · constructor
        · rintro ((q | ⟨s, g, q1, q2⟩) | ⟨q1, g, q2, q3, q4, q5⟩)
          · exact Or.inl q
          · exact Or.inr ⟨s, g, by omega, q2⟩
          · rcases q3 with q3 | ⟨s0, g0, -, -, -, q6, -⟩
            · exact Or.inr ⟨i, g, by omega, q3, q4, q1, q5⟩
            · exact absurd q6 (or_ne hi)
        · rintro (q | ⟨s, g, q1, q2, q3, q4, q5⟩)
          · exact Or.inl (Or.inl q)
          · by_cases es : s = i
            · subst es
              exact Or.inr ⟨q4, g, hH _ _ q2, Or.inl q2, q3, q5⟩
            · exact Or.inl (Or.inr ⟨s, g, by omega, q2, q3, q4, q5⟩))
    (2 ^ d) 0 m zF (by omega) (by unfold zF; omega) ⟨mH_congr hm (fun s' g' _ _ => ⟨fun q => Or.inl q, fun q => q.elim id (fun r => by obtain ⟨_, g, q2, _⟩ := r; omega)⟩), fun _ _ => rfl⟩
  refine ⟨x, e1, mH_congr e2 (fun s' g' _ _ => ?_), e3⟩
  constructor
  · rintro (q | ⟨s, g, q1, q2⟩)
    · exact Or.inl q
    · exact Or.inr ⟨p, s, g, rfl, q1, q2⟩
  · rintro (q | ⟨p', s, g, q0, q1, q2⟩)
    · exact Or.inl q
    · subst q0
      exact Or.inr ⟨s, g, q1, q2⟩
/-- two can open a DOOR -/
def tO (T W : zN2) (d a b : Nat) : Prop := a < b ∧ b < W 0 3 ∧ tE T W d a b = 0
theorem two_lt {a b P : Nat} (ha : a < P) (hb : b < P) : 2 ^ a ||| 2 ^ b < 2 ^ P := Nat.or_lt_two_pow (Nat.pow_lt_pow_right (by decide) ha) (Nat.pow_lt_pow_right (by decide) hb)
theorem MT_had {T : zN2} {μ μ' : zMem} (h : zfr (fun k => 101 ≤ k ∧ k < 1125) μ μ') (hT : TB T) (hM : MT T μ) : MT T μ' :=
  MT_fr h (by omega) (by omega) (by omega) (fun p _ => by omega) (fun d _ => by omega) hT hM
theorem MS_had {T W : zN2} {μ μ' : zMem} (h : zfr (fun k => 101 ≤ k ∧ k < 1125) μ μ') (hT : TB T) (hW : WB T W) (hS : MS T W μ) : MS T W μ' :=
  MS_at (congrFun (h 0 (by omega)) 20) (congrFun (h 0 (by omega)) 30) (congrFun (h 4 (by omega)) 3) (h 91 (by omega)) (h 92 (by omega)) (fun p _ => h (51 + p) (by omega)) (fun p _ => congrFun (h (15 + p) (by omega)) 4) hT hW hS
theorem aH_lt {H : Nat → Nat → Prop} {d P : Nat} {Q : Nat → Prop} (hH : ∀ s g, H s g → g < 2 ^ P) (hQ : ∀ p, Q p → p < 2 ^ P) (s g : Nat) (h : aH H d Q s g) : g < 2 ^ P := by
  rcases h with h | ⟨p, s0, g0, h1, -, h3, -, -, h4⟩
  · exact hH s g h
  · rw [h4]; exact Nat.or_lt_two_pow (hH _ _ h3) (hQ p h1)
theorem m_adds12 {T W : zN2} {d a : Nat} (hT : TB T) (hW : WB T W) (hd : d < T 2 2) (ha : a < W 0 3) {H : Nat → Nat → Prop} (hH : ∀ s g, H s g → g < 2 ^ W 0 3) (K : zMem → zRes) {m : zMem} (hM : MT T m) (hS : MS T W m) (hm : mH (2 ^ T 2 2) (2 ^ W 0 3) H m) :
    ∃ m', f9_adds_L12 (zi d) (zi (W 0 3)) (zi a) K zF (zi (a + 1)) m = K m' ∧ mH (2 ^ T 2 2) (2 ^ W 0 3) (aH H d (fun p => ∃ b, tO T W d a b ∧ p = 2 ^ a ||| 2 ^ b)) m' ∧ zfr (fun k => 101 ≤ k ∧ k < 1125) m m' := by
  have hP := hW.2.2.2.1
  have hD := hT.2.2.1
  obtain ⟨x, e1, e2, e3⟩ := zloopE (L := fun n i (x : zMem) => f9_adds_L12 (zi d) (zi (W 0 3)) (zi a) K n (zi i) x) (N := W 0 3) (o := fun x => K x)
    (fun i x => mH (2 ^ T 2 2) (2 ^ W 0 3) (aH H d (fun p => ∃ b, b < i ∧ tO T W d a b ∧ p = 2 ^ a ||| 2 ^ b)) x ∧ zfr (fun k => 101 ≤ k ∧ k < 1125) m x ∧ a < i)
    (fun n x _ => by rw [f9_adds_L12, if_pos (Int32.le_refl _)])
    (fun n i x hi hx => by
      obtain ⟨hx1, hx2, hai⟩ := hx
      have z1 : zi i + (1 : Int32) = zi (i + 1) := zi_add i 1
      have hM' := MT_had hx2 hT hM
      have hS' := MS_had hx2 hT hW hS
      rw [f9_adds_L12, if_neg (show ¬ zi (W 0 3) ≤ zi i from by rw [zi_le (by omega) (by omega)]; omega), m_canBe hT hW hM' hS' hd ha hi, bnd0_ok, zlet_e]
      by_cases h0 : tE T W d a i = 0
      · rw [if_pos h0, if_neg (show ¬ zi 1 = (0 : Int32) from by decide), zlet_e]
        have e' : zshl (1 : Int32) (zi a) ||| zshl (1 : Int32) (zi i) = zi (2 ^ a ||| 2 ^ i) := by
          rw [show zshl (1 : Int32) (zi a) = zi (2 ^ a) from zshl1 (by omega), show zshl (1 : Int32) (zi i) = zi (2 ^ i) from zshl1 (by omega), zi_or]
        rw [e']
        have hH' := aH_lt (d := d) (Q := fun p => ∃ b, b < i ∧ tO T W d a b ∧ p = 2 ^ a ||| 2 ^ b) hH (fun p hp => by
          obtain ⟨b, q1, q2, q3⟩ := hp
          rw [q3]; exact two_lt ha q2.2.1)
        obtain ⟨y, a1, a2, a3⟩ := m_adds45 (P := W 0 3) (D := T 2 2) (d := d) (p := 2 ^ a ||| 2 ^ i) hP hD hd (two_lt ha hi) hH' (fun (μ29 : zMem) => f9_adds_L12 (zi d) (zi (W 0 3)) (zi a) K n (zi i + (1 : Int32)) μ29) hx1
        refine ⟨y, ?_, mH_congr a2 (fun s' g' _ _ => aH_aH (fun p => ?_)), hx2.trans a3, by omega⟩
        · rw [← z1]; exact a1
        · constructor
          · rintro ⟨b, q1, q2, q3⟩
            by_cases eb : b = i
            · exact Or.inr (by rw [q3, eb])
            · exact Or.inl ⟨b, by omega, q2, q3⟩
          · rintro (⟨b, q1, q2⟩ | q)
            · exact ⟨b, by omega, q2⟩
            · exact ⟨i, by omega, ⟨hai, hi, h0⟩, q⟩
      · rw [if_neg h0, if_pos (show zi 0 = (0 : Int32) from rfl), z1]
        refine ⟨x, rfl, mH_congr hx1 (fun s' g' _ _ => aH_iff (fun p => ?_)), hx2, by omega⟩
        constructor
        · rintro ⟨b, q1, q2⟩
          exact ⟨b, by omega, q2⟩
        · rintro ⟨b, q1, q2, q3⟩
          refine ⟨b, ?_, q2, q3⟩
          have : b ≠ i := fun eb => h0 (eb ▸ q2.2.2)
          omega)
    (W 0 3 - (a + 1)) (a + 1) m zF (by omega) (by unfold zF; omega) ⟨mH_congr hm (fun s' g' _ _ => (aH_none (fun p hp => by
      obtain ⟨b, q1, q2, -⟩ := hp
      have := q2.1
      omega)).symm), fun _ _ => rfl, by omega⟩
  refine ⟨x, e1, mH_congr e2 (fun s' g' _ _ => aH_iff (fun p => ?_)), e3.1⟩
  constructor
  · rintro ⟨b, q1, q2⟩
    exact ⟨b, q2⟩
  · rintro ⟨b, q1, q2⟩
    exact ⟨b, q1.2.1, q1, q2⟩
theorem m_adds {T W : zN2} {d : Nat} (hT : TB T) (hW : WB T W) (hd : d < T 2 2) {H : Nat → Nat → Prop} (hH : ∀ s g, H s g → g < 2 ^ W 0 3) {m : zMem} (hM : MT T m) (hS : MS T W m) (hm : mH (2 ^ T 2 2) (2 ^ W 0 3) H m) :
    ∃ m', f9_adds (zi d) (zi (W 0 3)) m = some (0, zi 0, m') ∧ mH (2 ^ T 2 2) (2 ^ W 0 3) (aH H d (fun p => ∃ a b, tO T W d a b ∧ p = 2 ^ a ||| 2 ^ b)) m' ∧ zfr (fun k => 101 ≤ k ∧ k < 1125) m m' := by
  have hP := hW.2.2.2.1
  obtain ⟨x, e1, e2, e3⟩ := zloopE (L := fun n i (x : zMem) => f9_adds_L2 (zi d) (zi (W 0 3)) (fun (μ31 : zMem) => some (0, 0, μ31)) n (zi i) x) (N := W 0 3) (o := fun x => some (0, 0, x))
    (fun i x => mH (2 ^ T 2 2) (2 ^ W 0 3) (aH H d (fun p => ∃ a b, a < i ∧ tO T W d a b ∧ p = 2 ^ a ||| 2 ^ b)) x ∧ zfr (fun k => 101 ≤ k ∧ k < 1125) m x)
    (fun n x _ => by rw [f9_adds_L2, if_pos (Int32.le_refl _)])
    (fun n i x hi hx => by
      obtain ⟨hx1, hx2⟩ := hx
      have z1 : zi i + (1 : Int32) = zi (i + 1) := zi_add i 1
      have hH' := aH_lt (d := d) (Q := fun p => ∃ a b, a < i ∧ tO T W d a b ∧ p = 2 ^ a ||| 2 ^ b) hH (fun p hp => by
          obtain ⟨a, b, q1, q2, q3⟩ := hp
          rw [q3]; exact two_lt (Nat.lt_trans q2.1 q2.2.1) q2.2.1)
      obtain ⟨y, a1, a2, a3⟩ := m_adds12 (T := T) (W := W) (d := d) (a := i) hT hW hd hi hH' (fun (μ30 : zMem) => f9_adds_L2 (zi d) (zi (W 0 3)) (fun (μ31 : zMem) => some (0, 0, μ31)) n (zi i + (1 : Int32)) μ30) (MT_had hx2 hT hM) (MS_had hx2 hT hW hS) hx1
      refine ⟨y, ?_, mH_congr a2 (fun s' g' _ _ => aH_aH (fun p => ?_)), hx2.trans a3⟩
      · rw [f9_adds_L2, if_neg (show ¬ zi (W 0 3) ≤ zi i from by rw [zi_le (by omega) (by omega)]; omega), zlet_e, ← z1]
        rw [← z1] at a1
        exact a1
      · constructor
        · rintro ⟨a, b, q1, q2, q3⟩
          by_cases ea : a = i
          · exact Or.inr ⟨b, ea ▸ q2, by rw [q3, ea]⟩
          · exact Or.inl ⟨a, b, by omega, q2, q3⟩
        · rintro (⟨a, b, q1, q2⟩ | ⟨b, q1, q2⟩)
          · exact ⟨a, b, by omega, q2⟩
          · exact ⟨i, b, by omega, q1, q2⟩)
    (W 0 3) 0 m zF (by omega) (by unfold zF; omega) ⟨mH_congr hm (fun s' g' _ _ => (aH_none (fun p hp => by
      obtain ⟨a, b, q1, -⟩ := hp
      omega)).symm), fun _ _ => rfl⟩
  refine ⟨x, e1, mH_congr e2 (fun s' g' _ _ => aH_iff (fun p => ?_)), e3⟩
  constructor
  · rintro ⟨a, b, q1, q2⟩
    exact ⟨a, b, q2⟩
  · rintro ⟨a, b, q1, q2⟩
    exact ⟨a, b, Nat.lt_trans q1.1 q1.2.1, q1, q2⟩
