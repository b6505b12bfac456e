/-! THE PURE SIDE, 49: TODAY, the class's mates -/
def fO (T W : zN2) (d a b : Nat) : Bool := decide (a < b ∧ b < W 0 3 ∧ tE T W d a b = 0)
theorem fO_iff {T W : zN2} {d a b : Nat} : fO T W d a b = true ↔ tO T W d a b := decide_eq_true_iff
theorem bset_0 {f : Nat → Bool} : ∀ n, (∀ i, i < n → f i = false) → bset f n = 0
  | 0, _ => rfl
  | n + 1, h => by
    rw [bset, bset_0 n (fun i hi => h i (by omega)), h n (by omega), if_neg (by decide)]; rfl
/-- whether something was found -/
def fnd (v : Int32) (p : Prop) : Prop := (v = zi 1 ∧ p) ∨ (v = zi 0 ∧ ¬ p)
theorem fnd_iff {v : Int32} {p q : Prop} (h : fnd v p) (hq : p ↔ q) : fnd v q := by
  rcases h with ⟨h1, h2⟩ | ⟨h1, h2⟩
  · exact Or.inl ⟨h1, hq.1 h2⟩
  · exact Or.inr ⟨h1, fun q => h2 (hq.2 q)⟩
theorem x_mates38 {T W : zN2} {d a : Nat} (hT : TB T) (hW : WB T W) (hd : d < T 2 2) (ha : a < W 0 3) {v : Int32} {p : Prop} (hv : fnd v p) (K : Int32 → zMem → zRes) {μ : zMem} (hX : XT T μ) (hS : XS T W 28 μ) (h49 : μ 49 4 = zi (W 0 3)) (h50 : μ 50 (d * 9 + a) = zi 0) :
    ∃ v' μ', f2_findMates_L38 (zi d) (zi a) K zF v (zi (a + 1)) μ = K v' μ' ∧ fnd v' (p ∨ ∃ b, tO T W d a b) ∧ μ' 50 (d * 9 + a) = zi (bset (fO T W d a) (W 0 3)) ∧ (∀ j, j ≠ d * 9 + a → μ' 50 j = μ 50 j) ∧ zfr (fun k => k = 50) μ μ' := by
  have hP := hW.2.2.2.1
  have hD := hT.2.2.1
  obtain ⟨⟨v', μ'⟩, e1, e2, e3, e4, e5, -⟩ := zloopE (L := fun n i (s : Int32 × zMem) => f2_findMates_L38 (zi d) (zi a) K n s.1 (zi i) s.2) (N := W 0 3) (o := fun s => K s.1 s.2)
    (fun i s => fnd s.1 (p ∨ ∃ b, b < i ∧ tO T W d a b) ∧ s.2 50 (d * 9 + a) = zi (bset (fO T W d a) i) ∧ (∀ j, j ≠ d * 9 + a → s.2 50 j = μ 50 j) ∧ zfr (fun k => k = 50) μ s.2 ∧ a < i)
    (fun n s hs => by
      show f2_findMates_L38 (zi d) (zi a) K (n + 1) s.1 (zi (W 0 3)) s.2 = _
      rw [f2_findMates_L38, hs.2.2.2.1 49 (by decide), h49, if_pos (Int32.le_refl _)])
    (fun n i s hi hs => by
      obtain ⟨v1, μ1⟩ := s
      obtain ⟨s1, s2, s3, s4, s5⟩ := hs
      dsimp only at s1 s2 s3 s4 s5
      have z1 : zi i + (1 : Int32) = zi (i + 1) := zi_add i 1
      have hX' : XT T μ1 := XT_of (fun key hk => s4 key (by omega)) hX
      have hS' : XS T W 28 μ1 := XS_of (fun key h1 h2 => s4 key (by omega)) hS
      have hlt := tE_lt (T := T) (W := W) (d := d) (a := a) (b := i)
      have ei : zi d * (9 : Int32) + zi a = zi (d * 9 + a) := by rw [show (9 : Int32) = zi 9 from rfl, zi_mul, zi_add]
      have hle : ¬ zi (W 0 3) ≤ zi i := by rw [zi_le (by omega) (by omega)]; omega
      by_cases h0 : tE T W d a i = 0
      · have hO : tO T W d a i := ⟨s5, hi, h0⟩
        refine ⟨(zi 1, zset μ1 50 (d * 9 + a) (zi (bset (fO T W d a) (i + 1)))), ?_, Or.inl ⟨rfl, Or.inr ⟨i, by omega, hO⟩⟩, ?_, fun j hj => ?_, s4.set rfl, by omega⟩
        · show f2_findMates_L38 (zi d) (zi a) K (n + 1) v1 (zi i) μ1 = f2_findMates_L38 (zi d) (zi a) K n (zi 1) (zi (i + 1)) (zset μ1 50 (d * 9 + a) (zi (bset (fO T W d a) (i + 1))))
          rw [f2_findMates_L38, s4 49 (by decide), h49, if_neg hle, x_errs hT hW hX' hS' hd ha hi, bnd0_ok, zlet_e, h0, if_pos (show zi 0 = (0 : Int32) from rfl), ei, zin_i (by omega) (by omega), zin_i (by omega) (by omega), zlet_e, zi_cl (by omega), s2, show zshl (1 : Int32) (zi i) = zi (2 ^ i) from zshl1 (by omega), zi_or, z1]
          have eb : bset (fO T W d a) (i + 1) = bset (fO T W d a) i ||| 2 ^ i := by rw [bset, if_pos (fO_iff.2 hO)]
          rw [eb]; rfl
        · show zset μ1 50 (d * 9 + a) (zi (bset (fO T W d a) (i + 1))) 50 (d * 9 + a) = _
          exact zset_eq
        · show zset μ1 50 (d * 9 + a) (zi (bset (fO T W d a) (i + 1))) 50 j = _
          rw [zset_nj hj]; exact s3 j hj
      · have hO : ¬ tO T W d a i := fun q => h0 q.2.2
        refine ⟨(v1, μ1), ?_, fnd_iff s1 ?_, ?_, s3, s4, by omega⟩
        · show f2_findMates_L38 (zi d) (zi a) K (n + 1) v1 (zi i) μ1 = f2_findMates_L38 (zi d) (zi a) K n v1 (zi (i + 1)) μ1
          rw [f2_findMates_L38, s4 49 (by decide), h49, if_neg hle, x_errs hT hW hX' hS' hd ha hi, bnd0_ok, zlet_e, if_neg (show ¬ zi (tE T W d a i) = (0 : Int32) from by rw [show (0 : Int32) = zi 0 from rfl, zi_eq (by omega) (by omega)]; exact h0), z1]
        · constructor
          · rintro (q | ⟨b, q1, q2⟩)
            · exact Or.inl q
            · exact Or.inr ⟨b, by omega, q2⟩
          · rintro (q | ⟨b, q1, q2⟩)
            · exact Or.inl q
            · have : b ≠ i := fun e => hO (e ▸ q2)
              exact Or.inr ⟨b, by omega, q2⟩
        · show μ1 50 (d * 9 + a) = _
          rw [s2, show bset (fO T W d a) (i + 1) = bset (fO T W d a) i from by
            have : fO T W d a i = false := by
              cases hf : fO T W d a i
              · rfl
              · exact absurd (fO_iff.1 hf) hO
            rw [bset, this]; exact Nat.or_zero _])
    (W 0 3 - (a + 1)) (a + 1) (v, μ) zF (by omega) (by unfold zF; omega) ⟨fnd_iff hv ⟨Or.inl, fun q => q.elim id (fun r => by obtain ⟨b, q1, q2⟩ := r; have := q2.1; omega)⟩, by
      show μ 50 (d * 9 + a) = _
      rw [bset_0 (f := fO T W d a) (a + 1) (fun i hi => decide_eq_false (fun q => by have := q.1; omega))]; exact h50, fun _ _ => rfl, fun _ _ => rfl, by omega⟩
  refine ⟨v', μ', e1, fnd_iff e2 ⟨fun q => q.elim Or.inl (fun r => by obtain ⟨b, q1, q2⟩ := r; exact Or.inr ⟨b, q2⟩), fun q => q.elim Or.inl (fun r => by obtain ⟨b, q2⟩ := r; exact Or.inr ⟨b, q2.2.1, q2⟩)⟩, e3, e4, e5⟩
theorem x_mates23 {T W : zN2} {d : Nat} (hT : TB T) (hW : WB T W) (hd : d < T 2 2) (K : Int32 → zMem → zRes) {μ : zMem} (hX : XT T μ) (hS : XS T W 28 μ) (h49 : μ 49 4 = zi (W 0 3)) (h50 : ∀ a, a < W 0 3 → μ 50 (d * 9 + a) = zi 0) :
    ∃ v' μ', f2_findMates_L23 (zi d) K zF (zi 0) (zi 0) μ = K v' μ' ∧ fnd v' (∃ a b, tO T W d a b) ∧ (∀ a, a < W 0 3 → μ' 50 (d * 9 + a) = zi (bset (fO T W d a) (W 0 3))) ∧ (∀ j, (∀ a, a < W 0 3 → j ≠ d * 9 + a) → μ' 50 j = μ 50 j) ∧ zfr (fun k => k = 50) μ μ' := by
  have hP := hW.2.2.2.1
  have hD := hT.2.2.1
  obtain ⟨⟨v', μ'⟩, e1, e2, e3, e4, e5⟩ := zloopE (L := fun n i (s : Int32 × zMem) => f2_findMates_L23 (zi d) K n s.1 (zi i) s.2) (N := W 0 3) (o := fun s => K s.1 s.2)
    (fun i s => fnd s.1 (∃ a b, a < i ∧ tO T W d a b) ∧ (∀ a, a < i → s.2 50 (d * 9 + a) = zi (bset (fO T W d a) (W 0 3))) ∧ (∀ j, (∀ a, a < i → j ≠ d * 9 + a) → s.2 50 j = μ 50 j) ∧ zfr (fun k => k = 50) μ s.2)
    (fun n s hs => by
      show f2_findMates_L23 (zi d) K (n + 1) s.1 (zi (W 0 3)) s.2 = _
      rw [f2_findMates_L23, hs.2.2.2 49 (by decide), h49, if_pos (Int32.le_refl _)])
    (fun n i s hi hs => by
      obtain ⟨v1, μ1⟩ := s
      obtain ⟨s1, s2, s3, s4⟩ := hs
      dsimp only at s1 s2 s3 s4
      have z1 : zi i + (1 : Int32) = zi (i + 1) := zi_add i 1
      have hX' : XT T μ1 := XT_of (fun key hk => s4 key (by omega)) hX
      have hS' : XS T W 28 μ1 := XS_of (fun key h1 h2 => s4 key (by omega)) hS
      have hle : ¬ zi (W 0 3) ≤ zi i := by rw [zi_le (by omega) (by omega)]; omega
      obtain ⟨v2, μ2, b1, b2, b3, b4, b5⟩ := x_mates38 hT hW hd hi s1 (fun (x3_26 : Int32) (μ27 : zMem) => f2_findMates_L23 (zi d) K n x3_26 (zi i + (1 : Int32)) μ27) hX' hS' (by rw [s4 49 (by decide)]; exact h49) (by rw [s3 _ (fun a ha => by omega)]; exact h50 i hi)
      refine ⟨(v2, μ2), ?_, fnd_iff b2 ?_, fun a ha => ?_, fun j hj => ?_, s4.trans b5⟩
      · show f2_findMates_L23 (zi d) K (n + 1) v1 (zi i) μ1 = f2_findMates_L23 (zi d) K n v2 (zi (i + 1)) μ2
        rw [f2_findMates_L23, s4 49 (by decide), h49, if_neg hle, zlet_e, ← z1]
        rw [← z1] at b1
        exact b1
      · constructor
        · rintro (⟨a, b, q1, q2⟩ | ⟨b, q2⟩)
          · exact ⟨a, b, by omega, q2⟩
          · exact ⟨i, b, by omega, q2⟩
        · rintro ⟨a, b, q1, q2⟩
          by_cases ea : a = i
          · exact Or.inr ⟨b, ea ▸ q2⟩
          · exact Or.inl ⟨a, b, by omega, q2⟩
      · show μ2 50 (d * 9 + a) = _
        by_cases ea : a = i
        · subst ea; exact b3
        · rw [b4 _ (by omega)]; exact s2 a (by omega)
      · show μ2 50 j = _
        rw [b4 _ (hj i (by omega))]; exact s3 j (fun a ha => hj a (by omega)))
    (W 0 3) 0 (zi 0, μ) zF (by omega) (by unfold zF; omega) ⟨Or.inr ⟨rfl, fun q => by obtain ⟨a, b, q1, -⟩ := q; omega⟩, fun a ha => absurd ha (by omega), fun _ _ => rfl, fun _ _ => rfl⟩
  refine ⟨v', μ', e1, fnd_iff e2 ⟨fun q => by obtain ⟨a, b, -, q2⟩ := q; exact ⟨a, b, q2⟩, fun q => by obtain ⟨a, b, q2⟩ := q; exact ⟨a, b, Nat.lt_trans q2.1 q2.2.1, q2⟩⟩, e3, e4, e5⟩
theorem x_findMates {T W : zN2} {d : Nat} (hT : TB T) (hW : WB T W) (hd : d < T 2 2) {μ : zMem} (hX : XT T μ) (hS : XS T W 28 μ) (h49 : μ 49 4 = zi (W 0 3)) (h50 : ∀ a, a < W 0 3 → μ 50 (d * 9 + a) = zi 0) :
    ∃ v' μ', f2_findMates (zi d) μ = some (0, v', μ') ∧ fnd v' (∃ a b, tO T W d a b) ∧ (∀ a, a < W 0 3 → μ' 50 (d * 9 + a) = zi (bset (fO T W d a) (W 0 3))) ∧ (∀ j, (∀ a, a < W 0 3 → j ≠ d * 9 + a) → μ' 50 j = μ 50 j) ∧ zfr (fun k => k = 50) μ μ' := by
  have hP := hW.2.2.2.1
  have hD := hT.2.2.1
  have none : (¬ ∃ a b, tO T W d a b) → ∃ v' μ', (some (0, (0 : Int32), μ) : zRes) = some (0, v', μ') ∧ fnd v' (∃ a b, tO T W d a b) ∧ (∀ a, a < W 0 3 → μ' 50 (d * 9 + a) = zi (bset (fO T W d a) (W 0 3))) ∧ (∀ j, (∀ a, a < W 0 3 → j ≠ d * 9 + a) → μ' 50 j = μ 50 j) ∧ zfr (fun k => k = 50) μ μ' := fun hno =>
    ⟨zi 0, μ, rfl, Or.inr ⟨rfl, hno⟩, fun a ha => by
      rw [h50 a ha, bset_0 (W 0 3) (fun i _ => by
        cases hf : fO T W d a i
        · rfl
        · exact absurd ⟨a, i, fO_iff.1 hf⟩ hno)], fun _ _ => rfl, fun _ _ => rfl⟩
  unfold f2_findMates
  rw [x_isOpen hW hS (show d < 32 by omega), bnd0_ok, zlet_e]
  by_cases h1 : (W 0 4).testBit d = true
  · rw [if_pos h1, if_neg (show ¬ zi 1 = (0 : Int32) from by decide)]
    exact none (fun q => by
      obtain ⟨a, b, q1⟩ := q
      have := (tE_0 q1.2.2).1
      rw [h1] at this; exact absurd this (by decide))
  · rw [if_neg h1, if_pos (show zi 0 = (0 : Int32) from rfl), x_isTooLate hT hW hX hS hd, bnd0_ok]
    by_cases h2 : T 10 d < W 0 0
    · rw [if_pos h2, if_neg (show ¬ zi 1 = (0 : Int32) from by decide)]
      exact none (fun q => by
        obtain ⟨a, b, q1⟩ := q
        have := (tE_0 q1.2.2).2.1
        omega)
    · rw [if_neg h2, if_pos (show zi 0 = (0 : Int32) from rfl)]
      obtain ⟨v', μ', a1, a2, a3⟩ := x_mates23 hT hW hd (fun (x3_28 : Int32) (μ29 : zMem) => zbl x3_28 (some (0, x3_28, μ29))) hX hS h49 h50
      refine ⟨v', μ', a1.trans ?_, a2, a3⟩
      show zbl v' _ = _
      rcases a2 with ⟨rfl, -⟩ | ⟨rfl, -⟩
      · exact zbl_1
      · exact zbl_0
