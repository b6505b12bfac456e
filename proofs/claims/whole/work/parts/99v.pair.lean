/-! THE PURE SIDE, 61: who opens a DOOR, in the reference; pair -/
/-- the PERSONS that aren't used -/
def cpl (P u : Nat) : Nat := (2 ^ P - 1) ^^^ u
theorem cpl_bit {P u i : Nat} (hu : u < 2 ^ P) : (cpl P u).testBit i = true ↔ i < P ∧ u.testBit i = false := by
  unfold cpl
  rw [Nat.testBit_xor, Nat.testBit_two_pow_sub_one]
  by_cases h : i < P
  · rw [decide_eq_true h]
    cases u.testBit i
    · exact ⟨fun _ => ⟨h, rfl⟩, fun _ => rfl⟩
    · exact ⟨fun q => absurd q (by decide), fun q => absurd q.2 (by decide)⟩
  · rw [decide_eq_false h, Nat.testBit_lt_two_pow (Nat.lt_of_lt_of_le hu (Nat.pow_le_pow_right (by decide) (by omega)))]
    exact ⟨fun q => absurd q (by decide), fun q => absurd q.1 h⟩
theorem cpl_lt {P u : Nat} (hu : u < 2 ^ P) : cpl P u < 2 ^ P := Nat.xor_lt_two_pow (by have := Nat.two_pow_pos P; omega) hu
theorem cpl_or {P u a b : Nat} (hu : u < 2 ^ P) (hab : a ≠ b) (ha : (cpl P u).testBit a = true) (hb : (cpl P u).testBit b = true) : cpl P (u ||| (2 ^ a ||| 2 ^ b)) = wo2 (cpl P u) a b := by
  have ha' := ((cpl_bit hu).1 ha).1
  have hb' := ((cpl_bit hu).1 hb).1
  apply Nat.eq_of_testBit_eq
  intro i
  rw [Bool.eq_iff_iff, wo2_bit hab ha hb, cpl_bit hu, cpl_bit (Nat.or_lt_two_pow hu (two_lt ha' hb')), Nat.testBit_or, Bool.or_eq_false_iff]
  constructor
  · rintro ⟨h1, h2, h3⟩
    refine ⟨⟨h1, h2⟩, fun e => ?_, fun e => ?_⟩
    · rw [two_bit.2 (Or.inl e)] at h3; exact absurd h3 (by decide)
    · rw [two_bit.2 (Or.inr e)] at h3; exact absurd h3 (by decide)
  · rintro ⟨⟨h1, h2⟩, h3, h4⟩
    refine ⟨h1, h2, ?_⟩
    cases e : (2 ^ a ||| 2 ^ b).testBit i
    · rfl
    · exact ((two_bit.1 e).elim h3 h4).elim
theorem dis_cpl {P u a b : Nat} (hu : u < 2 ^ P) (ha : a < P) (hb : b < P) : u &&& (2 ^ a ||| 2 ^ b) = 0 ↔ (cpl P u).testBit a = true ∧ (cpl P u).testBit b = true := by
  rw [dis_iff, cpl_bit hu, cpl_bit hu]
  constructor
  · intro h
    refine ⟨⟨ha, ?_⟩, hb, ?_⟩
    · cases e : u.testBit a
      · rfl
      · exact (h a e (two_bit.2 (Or.inl rfl))).elim
    · cases e : u.testBit b
      · rfl
      · exact (h b e (two_bit.2 (Or.inr rfl))).elim
  · rintro ⟨⟨-, h1⟩, -, h2⟩ i h3 h4
    rcases two_bit.1 h4 with e | e
    · rw [e, h1] at h3; exact absurd h3 (by decide)
    · rw [e, h2] at h3; exact absurd h3 (by decide)
/-- what a call of canAll answers -/
def cQ (T W : zN2) (s k d u : Nat) (μ : zMem) (r : zRes) : Prop := (¬ sO T W s k d (cpl (T 2 1) u) ∧ r = some (0, zi 0, μ)) ∨ (sO T W s k d (cpl (T 2 1) u) ∧ r = some (0, zi 1, μ))
theorem m_canAll62 {T W : zN2} {s k d u a : Nat} {μ : zMem} (hT : TB T) (hW : WB T W) (hP : W 0 3 = T 2 1) (hM : MT T μ) (hS : MS T W μ) (hd : d < T 2 2) (ha : a < T 2 1) (hu : u < 2 ^ T 2 1)
    (F : Int32 → Int32 → Int32 → zMem → zRes) (hF : ∀ u', u' < 2 ^ T 2 1 → cQ T W s k (d + 1) u' μ (F (zi s) (zi (d + 1)) (zi u') μ)) (K K' : zMem → zRes) :
    ((¬ ∃ b, fp T W s k d (cpl (T 2 1) u) a b) ∧ f9_canAll_L62 F (zi s) (zi u) (zi d) (zi a) K K' zF (zi (a + 1)) μ = K μ) ∨ ((∃ b, fp T W s k d (cpl (T 2 1) u) a b) ∧ f9_canAll_L62 F (zi s) (zi u) (zi d) (zi a) K K' zF (zi (a + 1)) μ = K' μ) := by
  have hPP := hT.2.1
  have hD := hT.2.2.1
  obtain ⟨hp1, hp2⟩ := pow_p hT
  have z1' : ∀ A, zin (1 : Int32) 6 A = A := fun A => zin_i (i := 1) (by decide) (by decide)
  have n1 : (1 : Int32).toNatClampNeg = 1 := by decide
  have zd1 : zi d + (1 : Int32) = zi (d + 1) := zi_add d 1
  have h := zloopQ (L := fun n i (_ : Unit) => f9_canAll_L62 F (zi s) (zi u) (zi d) (zi a) K K' n (zi i) μ) (N := T 2 1)
    (fun r => ((¬ ∃ b, fp T W s k d (cpl (T 2 1) u) a b) ∧ r = K μ) ∨ ((∃ b, fp T W s k d (cpl (T 2 1) u) a b) ∧ r = K' μ))
    (fun i _ => (∀ b, b < i → ¬ fp T W s k d (cpl (T 2 1) u) a b) ∧ a < i)
    (fun n _ hs' => by
      refine Or.inl ⟨fun q => ?_, ?_⟩
      · obtain ⟨b, q1⟩ := q
        exact hs'.1 b (by have := q1.1.1.2.1; omega) q1
      · show f9_canAll_L62 F (zi s) (zi u) (zi d) (zi a) K K' (n + 1) (zi (T 2 1)) μ = _
        rw [f9_canAll_L62, z1', n1, hM.1.2.1, if_pos (Int32.le_refl _)])
    (fun n i _ hi hs' => by
      obtain ⟨hs', hai⟩ := hs'
      have z1 : zi i + (1 : Int32) = zi (i + 1) := zi_add i 1
      have et : zshl (1 : Int32) (zi a) ||| zshl (1 : Int32) (zi i) = zi (2 ^ a ||| 2 ^ i) := by
        rw [show zshl (1 : Int32) (zi a) = zi (2 ^ a) from zshl1 (by omega), show zshl (1 : Int32) (zi i) = zi (2 ^ i) from zshl1 (by omega), zi_or]
      have hand : u &&& (2 ^ a ||| 2 ^ i) ≤ u := Nat.and_le_left
      have hq : ∀ A, f9_canAll_L62 F (zi s) (zi u) (zi d) (zi a) K K' (n + 1) (zi i) μ = A ↔ (if u &&& (2 ^ a ||| 2 ^ i) = 0 then (if tE T W d a i = 0 then bnd0 (F (zi s) (zi (d + 1)) (zi (u ||| (2 ^ a ||| 2 ^ i))) μ) (fun (v21 : Int32) (μ22 : zMem) => if v21 = 0 then f9_canAll_L62 F (zi s) (zi u) (zi d) (zi a) K K' n (zi (i + 1)) μ22 else K' μ22) else f9_canAll_L62 F (zi s) (zi u) (zi d) (zi a) K K' n (zi (i + 1)) μ) else f9_canAll_L62 F (zi s) (zi u) (zi d) (zi a) K K' n (zi (i + 1)) μ) = A := fun A => by
        rw [f9_canAll_L62, z1', n1, hM.1.2.1, if_neg (show ¬ zi (T 2 1) ≤ zi i from by rw [zi_le (by omega) (by omega)]; omega), zlet_e, zlet_e, et, zi_and, zi_or, zd1, z1]
        by_cases c1 : u &&& (2 ^ a ||| 2 ^ i) = 0
        · rw [if_pos (show zi (u &&& (2 ^ a ||| 2 ^ i)) = (0 : Int32) from by rw [c1]; rfl), if_pos c1, m_canBe hT hW hM hS hd (by omega) (by omega), bnd0_ok]
          by_cases c2 : tE T W d a i = 0
          · rw [if_pos c2, if_pos c2, if_neg (show ¬ zi 1 = (0 : Int32) from by decide)]
          · rw [if_neg c2, if_neg c2, if_pos (show zi 0 = (0 : Int32) from rfl)]
        · rw [if_neg (show ¬ zi (u &&& (2 ^ a ||| 2 ^ i)) = (0 : Int32) from by rw [show (0 : Int32) = zi 0 from rfl, zi_eq (by omega) (by omega)]; exact c1), if_neg c1]
      have skip : ¬ fp T W s k d (cpl (T 2 1) u) a i → (∀ b, b < i + 1 → ¬ fp T W s k d (cpl (T 2 1) u) a b) ∧ a < i + 1 := fun hno => ⟨fun b hb => by
        by_cases eb : b = i
        · rw [eb]; exact hno
        · exact hs' b (by omega), by omega⟩
      have dc := dis_cpl (P := T 2 1) (u := u) (a := a) (b := i) hu ha hi
      by_cases c1 : u &&& (2 ^ a ||| 2 ^ i) = 0
      · by_cases c2 : tE T W d a i = 0
        · have hbits := dc.1 c1
          have hfit : fit T W d (cpl (T 2 1) u) a i := ⟨⟨hai, by omega, c2⟩, hbits⟩
          have ec := cpl_or hu (show a ≠ i by omega) hbits.1 hbits.2
          rcases hF (u ||| (2 ^ a ||| 2 ^ i)) (Nat.or_lt_two_pow hu (two_lt ha hi)) with ⟨k1, k2⟩ | ⟨k1, k2⟩
          · right
            refine ⟨(), (hq _).2 ?_, skip (fun q => k1 (by rw [ec]; exact q.2))⟩
            rw [if_pos c1, if_pos c2, k2, bnd0_ok, if_pos (show zi 0 = (0 : Int32) from rfl)]
          · left
            refine Or.inr ⟨⟨i, hfit, by rw [← ec]; exact k1⟩, (hq _).2 ?_⟩
            rw [if_pos c1, if_pos c2, k2, bnd0_ok, if_neg (show ¬ zi 1 = (0 : Int32) from by decide)]
        · right
          refine ⟨(), (hq _).2 ?_, skip (fun q => c2 q.1.1.2.2)⟩
          rw [if_pos c1, if_neg c2]
      · right
        refine ⟨(), (hq _).2 ?_, skip (fun q => c1 (dc.2 q.1.2))⟩
        rw [if_neg c1])
    (T 2 1 - (a + 1)) (a + 1) () zF (by omega) (by unfold zF; omega) ⟨fun b hb q => by have := q.1.1.1; omega, by omega⟩
  exact h
theorem m_canAll45 {T W : zN2} {s k d u : Nat} {μ : zMem} (hT : TB T) (hW : WB T W) (hP : W 0 3 = T 2 1) (hM : MT T μ) (hS : MS T W μ) (hd : d < T 2 2) (hu : u < 2 ^ T 2 1)
    (F : Int32 → Int32 → Int32 → zMem → zRes) (hF : ∀ u', u' < 2 ^ T 2 1 → cQ T W s k (d + 1) u' μ (F (zi s) (zi (d + 1)) (zi u') μ)) (K K' : zMem → zRes) :
    ((¬ ∃ a b, fp T W s k d (cpl (T 2 1) u) a b) ∧ f9_canAll_L45 F (zi s) (zi u) (zi d) K K' zF (zi 0) μ = K μ) ∨ ((∃ a b, fp T W s k d (cpl (T 2 1) u) a b) ∧ f9_canAll_L45 F (zi s) (zi u) (zi d) K K' zF (zi 0) μ = K' μ) := by
  have hPP := hT.2.1
  have z1' : ∀ A, zin (1 : Int32) 6 A = A := fun A => zin_i (i := 1) (by decide) (by decide)
  have n1 : (1 : Int32).toNatClampNeg = 1 := by decide
  have h := zloopQ (L := fun n i (_ : Unit) => f9_canAll_L45 F (zi s) (zi u) (zi d) K K' n (zi i) μ) (N := T 2 1)
    (fun r => ((¬ ∃ a b, fp T W s k d (cpl (T 2 1) u) a b) ∧ r = K μ) ∨ ((∃ a b, fp T W s k d (cpl (T 2 1) u) a b) ∧ r = K' μ))
    (fun i _ => ∀ a b, a < i → ¬ fp T W s k d (cpl (T 2 1) u) a b)
    (fun n _ hs' => by
      refine Or.inl ⟨fun q => ?_, ?_⟩
      · obtain ⟨a, b, q1⟩ := q
        exact hs' a b (by have := q1.1.1.2.1; have := q1.1.1.1; omega) q1
      · show f9_canAll_L45 F (zi s) (zi u) (zi d) K K' (n + 1) (zi (T 2 1)) μ = _
        rw [f9_canAll_L45, z1', n1, hM.1.2.1, if_pos (Int32.le_refl _)])
    (fun n i _ hi hs' => by
      have z1 : zi i + (1 : Int32) = zi (i + 1) := zi_add i 1
      have hq : f9_canAll_L45 F (zi s) (zi u) (zi d) K K' (n + 1) (zi i) μ = f9_canAll_L62 F (zi s) (zi u) (zi d) (zi i) (fun (μ25 : zMem) => f9_canAll_L45 F (zi s) (zi u) (zi d) K K' n (zi (i + 1)) μ25) (fun (μ26 : zMem) => K' μ26) zF (zi (i + 1)) μ := by
        rw [f9_canAll_L45, z1', n1, hM.1.2.1, if_neg (show ¬ zi (T 2 1) ≤ zi i from by rw [zi_le (by omega) (by omega)]; omega), zlet_e, z1]
      rcases m_canAll62 hT hW hP hM hS hd hi hu F hF (fun (μ25 : zMem) => f9_canAll_L45 F (zi s) (zi u) (zi d) K K' n (zi (i + 1)) μ25) (fun (μ26 : zMem) => K' μ26) with ⟨c1, c2⟩ | ⟨⟨b, c1⟩, c2⟩
      · right
        refine ⟨(), hq.trans c2, fun a b ha => ?_⟩
        by_cases ea : a = i
        · rw [ea]; exact fun q => c1 ⟨b, q⟩
        · exact hs' a b (by omega)
      · exact Or.inl (Or.inr ⟨⟨i, b, c1⟩, hq.trans c2⟩))
    (T 2 1) 0 () zF (by omega) (by unfold zF; omega) (fun a b ha => absurd ha (by omega))
  exact h
theorem m_canAll3 {T : zN2} {s : Nat} {μ : zMem} (hT : TB T) (hM : MT T μ) (hs : s < 1024) (F : Int32 → Int32 → Int32 → zMem → zRes) (K : Int32 → zRes) {d : Nat} (hd : d ≤ T 2 2) :
    ∃ d', d ≤ d' ∧ d' ≤ T 2 2 ∧ (∀ e, d ≤ e → e < d' → s.testBit e = false) ∧ (d' = T 2 2 ∨ s.testBit d' = true) ∧ f9_canAll_L3 F (zi s) μ K zF (zi d) = K (zi d') := by
  have hD := hT.2.2.1
  have z2' : ∀ A, zin (2 : Int32) 6 A = A := fun A => zin_i (i := 2) (by decide) (by decide)
  have n2 : (2 : Int32).toNatClampNeg = 2 := by decide
  have h := zloopQ (L := fun n i (_ : Unit) => f9_canAll_L3 F (zi s) μ K n (zi i)) (N := T 2 2)
    (fun r => ∃ d', d ≤ d' ∧ d' ≤ T 2 2 ∧ (∀ e, d ≤ e → e < d' → s.testBit e = false) ∧ (d' = T 2 2 ∨ s.testBit d' = true) ∧ r = K (zi d'))
    (fun i _ => d ≤ i ∧ ∀ e, d ≤ e → e < i → s.testBit e = false)
    (fun n _ hs' => ⟨T 2 2, hs'.1, Nat.le_refl _, hs'.2, Or.inl rfl, by
      show f9_canAll_L3 F (zi s) μ K (n + 1) (zi (T 2 2)) = _
      rw [f9_canAll_L3, z2', n2, hM.1.2.2.1, if_pos (Int32.le_refl _)]⟩)
    (fun n i _ hi hs' => by
      have z1 : zi i + (1 : Int32) = zi (i + 1) := zi_add i 1
      have hb : (zshr (zi s) (zi i) &&& (1 : Int32) = 0) = (s.testBit i = false) := zbit0 (by omega) (by omega)
      by_cases c : s.testBit i = true
      · left
        refine ⟨i, hs'.1, by omega, hs'.2, Or.inr c, ?_⟩
        show f9_canAll_L3 F (zi s) μ K (n + 1) (zi i) = _
        rw [f9_canAll_L3, z2', n2, hM.1.2.2.1, if_neg (show ¬ zi (T 2 2) ≤ zi i from by rw [zi_le (by omega) (by omega)]; omega), if_neg (by rw [hb, c]; decide)]
      · right
        refine ⟨(), ?_, by omega, fun e h1 h2 => ?_⟩
        · show f9_canAll_L3 F (zi s) μ K (n + 1) (zi i) = _
          rw [f9_canAll_L3, z2', n2, hM.1.2.2.1, if_neg (show ¬ zi (T 2 2) ≤ zi i from by rw [zi_le (by omega) (by omega)]; omega), if_pos (by rw [hb]; exact (Bool.not_eq_true _).mp c), z1]
        · by_cases ee : e = i
          · rw [ee]; exact (Bool.not_eq_true _).mp c
          · exact hs'.2 e h1 (by omega))
    (T 2 2 - d) d () zF (by omega) (by unfold zF; omega) ⟨Nat.le_refl _, fun e h1 h2 => absurd h2 (by omega)⟩
  exact h
theorem sO_skip {T W : zN2} {s g : Nat} : ∀ j k d, (∀ e, d ≤ e → e < d + j → s.testBit e = false) → (sO T W s (j + k) d g ↔ sO T W s k (d + j) g)
  | 0, k, d, _ => by rw [Nat.zero_add, Nat.add_zero]
  | j + 1, k, d, h => by
    rw [show j + 1 + k = (j + k) + 1 by omega]
    show (if s.testBit d = true then _ else _) ↔ _
    rw [if_neg (by rw [h d (Nat.le_refl _) (by omega)]; decide), sO_skip j k (d + 1) (fun e h1 h2 => h e (by omega) (by omega)), show d + 1 + j = d + (j + 1) by omega]
theorem m_canAll {T W : zN2} {s : Nat} {μ : zMem} (hT : TB T) (hW : WB T W) (hP : W 0 3 = T 2 1) (hM : MT T μ) (hS : MS T W μ) (hs : s < 1024) : ∀ (n k d u : Nat), d + k = T 2 2 → k < n → u < 2 ^ T 2 1 → cQ T W s k d u μ (f9_canAll n (zi s) (zi d) (zi u) μ)
  | 0, k, d, u, _, h2, _ => absurd h2 (by omega)
  | n + 1, k, d, u, h1, h2, h3 => by
    have hD := hT.2.2.1
    have z2' : ∀ A, zin (2 : Int32) 6 A = A := fun A => zin_i (i := 2) (by decide) (by decide)
    have n2 : (2 : Int32).toNatClampNeg = 2 := by decide
    obtain ⟨d', a1, a2, a3, a4, a5⟩ := m_canAll3 (d := d) hT hM hs (f9_canAll n) (fun (x4_35 : Int32) => (fun (x4_1 : Int32) => zin (2 : Int32) 6 (if x4_1 = (μ 4 (2 : Int32).toNatClampNeg) then some (0, (1 : Int32), μ) else f9_canAll_L45 (f9_canAll n) (zi s) (zi u) x4_1 (fun (μ27 : zMem) => some (0, (0 : Int32), μ27)) (fun (μ28 : zMem) => some (0, (1 : Int32), μ28)) zF (0 : Int32) μ)) x4_35) (by omega)
    have hq : f9_canAll (n + 1) (zi s) (zi d) (zi u) μ = if d' = T 2 2 then some (0, zi 1, μ) else f9_canAll_L45 (f9_canAll n) (zi s) (zi u) (zi d') (fun (μ27 : zMem) => some (0, (0 : Int32), μ27)) (fun (μ28 : zMem) => some (0, (1 : Int32), μ28)) zF (zi 0) μ := by
      rw [f9_canAll, f9_canAllB, zlet_e]
      refine a5.trans ?_
      show zin _ _ _ = _
      rw [z2', n2, hM.1.2.2.1]
      by_cases c : d' = T 2 2
      · rw [if_pos (by rw [c]), if_pos c]; rfl
      · rw [if_neg (by rw [zi_eq (by omega) (by omega)]; exact c), if_neg c]; rfl
    rw [hq]
    have sk := sO_skip (T := T) (W := W) (s := s) (g := cpl (T 2 1) u) (d' - d) (T 2 2 - d') d (fun e h1 h2 => a3 e h1 (by omega))
    rw [show d' - d + (T 2 2 - d') = k by omega, show d + (d' - d) = d' by omega] at sk
    unfold cQ
    rw [sk]
    by_cases c : d' = T 2 2
    · rw [if_pos c]
      refine Or.inr ⟨?_, rfl⟩
      rw [c, Nat.sub_self]; trivial
    · rw [if_neg c]
      have hb := a4.resolve_left c
      have eO : sO T W s (T 2 2 - d') d' (cpl (T 2 1) u) ↔ ∃ a b, fp T W s (T 2 2 - (d' + 1)) d' (cpl (T 2 1) u) a b := by
        rw [show T 2 2 - d' = (T 2 2 - (d' + 1)) + 1 by omega]
        show (if s.testBit d' = true then _ else _) ↔ _
        rw [if_pos hb]; exact Iff.rfl
      rw [eO]
      exact m_canAll45 hT hW hP hM hS (show d' < T 2 2 by omega) h3 (f9_canAll n) (fun u' hu' => m_canAll hT hW hP hM hS hs n (T 2 2 - (d' + 1)) (d' + 1) u' (by omega) (by omega) hu') _ _
