/-! THE PURE SIDE, 45: TODAY, a pair added to one row -/
theorem m_adds56 {P D d s p : Nat} (hP : P ≤ 9) (hD : D ≤ 10) (hd : d < D) (hs : s < 2 ^ d) (hp : p < 2 ^ P) {H : Nat → Nat → Prop} (K : zMem → zRes) {m : zMem} (hm : mH (2 ^ D) (2 ^ P) H m) :
    ∃ m', f9_adds_L56 (zi d) (zi P) (zi p) (zi s) K zF (zi 0) m = K m' ∧ mH (2 ^ D) (2 ^ P) (fun s' g' => H s' g' ∨ (s' = s ||| 2 ^ d ∧ ∃ g, g < 2 ^ P ∧ H s g ∧ g &&& p = 0 ∧ g' = g ||| p)) m' ∧ zfr (fun k => k = 101 + (s ||| 2 ^ d)) m m' := by
  have hG : 2 ^ P ≤ 512 := Nat.pow_le_pow_right (n := 2) (by decide) hP
  have hN : 2 ^ D ≤ 1024 := Nat.pow_le_pow_right (n := 2) (by decide) hD
  have hsD : s < 2 ^ D := Nat.lt_of_lt_of_le hs (Nat.pow_le_pow_right (by decide) (by omega))
  have hsd : s ||| 2 ^ d < 2 ^ D := bor_lt hsD hd
  have hne : s ≠ s ||| 2 ^ d := by
    intro q
    have t1 : (s ||| 2 ^ d).testBit d = true := by rw [Nat.testBit_or, Nat.testBit_two_pow_self, Bool.or_true]
    rw [← q, Nat.testBit_lt_two_pow hs] at t1
    exact absurd t1 (by decide)
  obtain ⟨x, e1, e2, e3⟩ := zloopE (L := fun n i (x : zMem) => f9_adds_L56 (zi d) (zi P) (zi p) (zi s) K n (zi i) x) (N := 2 ^ P) (o := fun x => K x)
    (fun i x => mH (2 ^ D) (2 ^ P) (fun s' g' => H s' g' ∨ (s' = s ||| 2 ^ d ∧ ∃ g, g < i ∧ H s g ∧ g &&& p = 0 ∧ g' = g ||| p)) x ∧ zfr (fun k => k = 101 + (s ||| 2 ^ d)) m x)
    (fun n x _ => by
      have e : zshl (1 : Int32) (zi P) = zi (2 ^ P) := zshl1 (by omega)
      rw [f9_adds_L56, e, if_pos (Int32.le_refl _)])
    (fun n i x hi hx => by
      obtain ⟨hx1, hx2⟩ := hx
      have e : zshl (1 : Int32) (zi P) = zi (2 ^ P) := zshl1 (by omega)
      have e' : zshl (1 : Int32) (zi d) = zi (2 ^ d) := zshl1 (by omega)
      have z1 : zi i + (1 : Int32) = zi (i + 1) := zi_add i 1
      have hor : i ||| p < 2 ^ P := Nat.or_lt_two_pow hi hp
      have hxs : x (101 + s) = m (101 + s) := hx2 (101 + s) (by omega)
      obtain ⟨v1, v2⟩ := hm s i hsD hi
      have hq : (i &&& p = 0) = (zi (i &&& p) = (0 : Int32)) := (zi_eq (b := 0) (by have := Nat.and_le_left (n := i) (m := p); omega) (by decide)).symm
      have skip : ¬ (H s i ∧ i &&& p = 0) → mH (2 ^ D) (2 ^ P) (fun s' g' => H s' g' ∨ (s' = s ||| 2 ^ d ∧ ∃ g, g < i + 1 ∧ H s g ∧ g &&& p = 0 ∧ g' = g ||| p)) x := fun hno => mH_congr hx1 (fun s' g' _ _ => by
        constructor
        · rintro (q | ⟨q1, g, q2, q3⟩)
          · exact Or.inl q
          · exact Or.inr ⟨q1, g, by omega, q3⟩
        · rintro (q | ⟨q1, g, q2, q3⟩)
          · exact Or.inl q
          · refine Or.inr ⟨q1, g, ?_, q3⟩
            have : g ≠ i := fun eg => hno ⟨eg ▸ q3.1, eg ▸ q3.2.1⟩
            omega)
      rw [f9_adds_L56, e, e', if_neg (show ¬ zi (2 ^ P) ≤ zi i from by rw [zi_le (by omega) (by omega)]; omega), zin_i (by omega) (by omega), zin_i (by omega) (by omega), zlet_e, zi_cl (by omega), zi_cl (by omega), hxs, zi_and, zi_or, zi_or]
      by_cases h1 : H s i
      · rw [if_neg (show ¬ m (101 + s) i = 0 from by rw [v2.2 h1]; decide)]
        by_cases h2 : i &&& p = 0
        · refine ⟨zset x (101 + (s ||| 2 ^ d)) (i ||| p) (zi 1), ?_, mH_congr (mH_set hx1) (fun s' g' _ _ => ?_), fun k hk => by rw [zset_nk hk]; exact hx2 k hk⟩
          · rw [if_pos (hq ▸ h2), zin_i (by omega) (by omega), zin_i (by omega) (by omega), zlet_e, zi_cl (by omega), zi_cl (by omega), z1]; rfl
          · constructor
            · rintro ((q | ⟨q1, g, q2, q3⟩) | ⟨q1, q2⟩)
              · exact Or.inl q
              · exact Or.inr ⟨q1, g, by omega, q3⟩
              · exact Or.inr ⟨q1, i, by omega, h1, h2, q2⟩
            · rintro (q | ⟨q1, g, q2, q3, q4, q5⟩)
              · exact Or.inl (Or.inl q)
              · by_cases eg : g = i
                · exact Or.inr ⟨q1, by rw [q5, eg]⟩
                · exact Or.inl (Or.inr ⟨q1, g, by omega, q3, q4, q5⟩)
        · refine ⟨x, ?_, skip (fun q => h2 q.2), hx2⟩
          rw [if_neg (fun q => h2 (hq ▸ q)), z1]
      · refine ⟨x, ?_, skip (fun q => h1 q.1), hx2⟩
        rw [if_pos (show m (101 + s) i = 0 from v1.elim id (fun q => absurd (v2.1 q) h1)), z1])
    (2 ^ P) 0 m zF (by omega) (by unfold zF; omega) ⟨mH_congr hm (fun s' g' _ _ => ⟨fun q => Or.inl q, fun q => q.elim id (fun r => by obtain ⟨_, g, q2, _⟩ := r; omega)⟩), fun _ _ => rfl⟩
  exact ⟨x, e1, e2, e3⟩
