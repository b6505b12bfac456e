/-! THE PURE SIDE, 83: a TOWN's draft keeps its bounds -/
theorem DB_per {D : zN2} {f : Nat → Nat} {l : Nat} (h : DB D) (hP : D 2 1 < 8) (hl : l ≤ 4) (hf : ∀ j, f j ≤ 8) : DB (dPer D f l) := by
  obtain ⟨⟨a1, a2, a3, a4, a5, a6, a7, a8, a9, b1, b2, b3, b4, b5, b6, b7, b8, b9, c1⟩, hq, hv, hz⟩ := h
  have r2 : ∀ j, j ≠ 1 → dPer D f l 2 j = D 2 j := fun j hj => by unfold dPer; rw [if_neg (by omega), if_neg (by omega), if_neg (by omega)]
  have r : ∀ k j, k ≠ 2 → k ≠ 5 → k < 20 → dPer D f l k j = D k j := fun k j h1 h2 h3 => by unfold dPer; rw [if_neg (by omega), if_neg (by omega), if_neg (by omega)]
  have r1 : dPer D f l 2 1 = D 2 1 + 1 := rfl
  refine ⟨⟨?_, ?_, ?_, ?_, ?_, ?_, ?_, ?_, fun p => ?_, fun p => ?_, fun p => ?_, fun p hp => ?_, fun a b => ?_, fun a => ?_, fun d => ?_, fun d => ?_, fun d => ?_, fun d => ?_, fun i => ?_⟩, ?_, fun p q => ?_, fun p hp => ?_⟩
  · rw [r2 0 (by decide)]; exact a1
  · rw [r1]; omega
  · rw [r2 2 (by decide)]; exact a3
  · rw [r2 3 (by decide)]; exact a4
  · rw [r2 4 (by decide)]; exact a5
  · rw [r2 5 (by decide)]; exact a6
  · rw [r2 0 (by decide)]; omega
  · rw [r2 0 (by decide), r2 3 (by decide), r2 4 (by decide)]; exact a8
  · show (if 5 = 2 ∧ p = 1 then D 2 1 + 1 else if 5 = 5 ∧ p = D 2 1 then l else if 5 = 20 + D 2 1 then f p else D 5 p) ≤ 4
    rw [if_neg (by omega)]
    by_cases e : p = D 2 1
    · rw [if_pos ⟨rfl, e⟩]; exact hl
    · rw [if_neg (fun q => e q.2), if_neg (by omega)]; exact a9 p
  · rw [r 6 p (by decide) (by decide) (by decide)]; exact b1 p
  · rw [r 7 p (by decide) (by decide) (by decide), r1]
    exact Nat.lt_of_lt_of_le (b2 p) (Nat.pow_le_pow_right (by decide) (by omega))
  · rw [r 7 p (by decide) (by decide) (by decide)]; exact b3 p (by rw [r1] at hp; omega)
  · rw [r 7 a (by decide) (by decide) (by decide), r 7 b (by decide) (by decide) (by decide)]; exact b4 a b
  · rw [r 7 a (by decide) (by decide) (by decide)]; exact b5 a
  · rw [r 8 d (by decide) (by decide) (by decide)]; exact b6 d
  · rw [r 9 d (by decide) (by decide) (by decide)]; exact b7 d
  · rw [r 10 d (by decide) (by decide) (by decide)]; exact b8 d
  · rw [r 11 d (by decide) (by decide) (by decide), r2 0 (by decide)]; exact b9 d
  · rw [r 3 i (by decide) (by decide) (by decide), r2 0 (by decide)]; exact c1 i
  · rw [r2 0 (by decide)]; exact hq
  · unfold dPer
    rw [if_neg (by omega), if_neg (by omega)]
    by_cases e : 20 + p = 20 + D 2 1
    · rw [if_pos e]; exact hf q
    · rw [if_neg e]; exact hv p q
  · rw [r 6 p (by decide) (by decide) (by decide)]; exact hz p (by rw [r1] at hp; omega)
theorem DB_nk {D : zN2} {k j v : Nat} (h : DB D) (hk : k ≠ 2 ∧ k ≠ 3 ∧ k ≠ 5 ∧ k ≠ 7 ∧ k ≠ 8 ∧ k ≠ 9 ∧ k ≠ 10 ∧ k ≠ 11 ∧ k < 20) (h6 : k = 6 → v ≤ 9 ∧ j < D 2 1) : DB (nup D k j v) := by
  obtain ⟨⟨a1, a2, a3, a4, a5, a6, a7, a8, a9, b1, b2, b3, b4, b5, b6, b7, b8, b9, c1⟩, hq, hv, hz⟩ := h
  have r : ∀ k' i, k' ≠ k → nup D k j v k' i = D k' i := fun k' i hk' => by rw [nup_nk hk']
  refine ⟨?_, ?_, fun p q => ?_, fun p hp => ?_⟩
  · unfold TB
    simp only [r 2 _ (by omega), r 3 _ (by omega), r 5 _ (by omega), r 7 _ (by omega), r 8 _ (by omega), r 9 _ (by omega), r 10 _ (by omega), r 11 _ (by omega)]
    refine ⟨a1, a2, a3, a4, a5, a6, a7, a8, a9, fun p => ?_, b2, b3, b4, b5, b6, b7, b8, b9, c1⟩
    by_cases e : k = 6
    · subst e
      by_cases e2 : p = j
      · rw [e2, nup_eq]; exact (h6 rfl).1
      · rw [nup_nj e2]; exact b1 p
    · rw [r 6 p (by omega)]; exact b1 p
  · rw [r 2 0 (by omega)]; exact hq
  · rw [r (20 + p) q (by omega)]; exact hv p q
  · rw [r 2 1 (by omega)] at hp
    by_cases e : k = 6
    · subst e
      have := h6 rfl
      rw [nup_nj (by omega)]; exact hz p hp
    · rw [r 6 p (by omega)]; exact hz p hp
theorem DB_2 {D : zN2} {j v : Nat} (h : DB D) (hj : j = 3 ∧ 1 ≤ v ∧ v ≤ 8 ∨ j = 4 ∧ 30 ≤ v ∧ v ≤ 999) : DB (nup D 2 j v) := by
  obtain ⟨⟨a1, a2, a3, a4, a5, a6, a7, a8, a9, b1, b2, b3, b4, b5, b6, b7, b8, b9, c1⟩, hq, hv, hz⟩ := h
  have r : ∀ k i, k ≠ 2 → nup D 2 j v k i = D k i := fun k i hk => by rw [nup_nk hk]
  have r0 : nup D 2 j v 2 0 = D 2 0 := nup_nj (by omega)
  have r1 : nup D 2 j v 2 1 = D 2 1 := nup_nj (by omega)
  have r2 : nup D 2 j v 2 2 = D 2 2 := nup_nj (by omega)
  have r5 : nup D 2 j v 2 5 = D 2 5 := nup_nj (by omega)
  have r3 : 1 ≤ nup D 2 j v 2 3 ∧ nup D 2 j v 2 3 ≤ 8 := by
    rcases hj with ⟨rfl, h⟩ | ⟨rfl, h⟩
    · rw [nup_eq]; exact h
    · rw [nup_nj (by decide)]; exact ⟨(a8 hq).1, a4⟩
  have r4 : 30 ≤ nup D 2 j v 2 4 ∧ nup D 2 j v 2 4 ≤ 999 := by
    rcases hj with ⟨rfl, h⟩ | ⟨rfl, h⟩
    · rw [nup_nj (by decide)]; exact ⟨(a8 hq).2, a5⟩
    · rw [nup_eq]; exact h
  refine ⟨?_, ?_, fun p q => ?_, fun p hp => ?_⟩
  · unfold TB
    rw [r0, r1, r2, r5]
    simp only [r 3 _ (by omega), r 5 _ (by omega), r 6 _ (by omega), r 7 _ (by omega), r 8 _ (by omega), r 9 _ (by omega), r 10 _ (by omega), r 11 _ (by omega)]
    exact ⟨a1, a2, a3, r3.2, r4.2, a6, a7, fun _ => ⟨r3.1, r4.1⟩, a9, b1, b2, b3, b4, b5, b6, b7, b8, b9, c1⟩
  · rw [r0]; exact hq
  · rw [r (20 + p) q (by omega)]; exact hv p q
  · rw [r1] at hp; rw [r 6 p (by omega)]; exact hz p hp
theorem DB_kin {D : zN2} {p o : Nat} (h : DB D) (hp : p < D 2 1) (ho : o < D 2 1) (hne : o ≠ p) : DB (dKin D p o) := by
  obtain ⟨⟨a1, a2, a3, a4, a5, a6, a7, a8, a9, b1, b2, b3, b4, b5, b6, b7, b8, b9, c1⟩, hq, hv, hz⟩ := h
  have r : ∀ k i, k ≠ 7 → dKin D p o k i = D k i := fun k i hk => by unfold dKin; rw [nup_nk hk, nup_nk hk]
  have rb : ∀ a b, (dKin D p o 7 a).testBit b = ((D 7 a).testBit b || decide (a = o ∧ b = p) || decide (a = p ∧ b = o)) := fun a b => by
    unfold dKin
    by_cases e1 : a = o
    · subst e1
      rw [nup_eq, Nat.testBit_or, Nat.testBit_two_pow]
      simp [hne, eq_comm]
    · rw [nup_nj e1]
      by_cases e2 : a = p
      · subst e2
        rw [nup_eq, Nat.testBit_or, Nat.testBit_two_pow]
        simp [e1, eq_comm]
      · rw [nup_nj e2]
        simp [e1, e2]
  refine ⟨?_, ?_, fun p q => ?_, fun p hp => ?_⟩
  · unfold TB
    simp only [r 2 _ (by omega), r 3 _ (by omega), r 5 _ (by omega), r 6 _ (by omega), r 8 _ (by omega), r 9 _ (by omega), r 10 _ (by omega), r 11 _ (by omega)]
    refine ⟨a1, a2, a3, a4, a5, a6, a7, a8, a9, b1, fun a => ?_, fun a ha => ?_, fun a b => ?_, fun a => ?_, b6, b7, b8, b9, c1⟩
    · unfold dKin
      by_cases e1 : a = o
      · rw [e1, nup_eq]; exact Nat.or_lt_two_pow (b2 o) (Nat.pow_lt_pow_right (by decide) hp)
      · rw [nup_nj e1]
        by_cases e2 : a = p
        · rw [e2, nup_eq]; exact Nat.or_lt_two_pow (b2 p) (Nat.pow_lt_pow_right (by decide) ho)
        · rw [nup_nj e2]; exact b2 a
    · unfold dKin
      rw [nup_nj (by omega), nup_nj (by omega)]; exact b3 a ha
    · rw [rb, rb, b4 a b, show (decide (a = o ∧ b = p)) = decide (b = p ∧ a = o) from by simp [and_comm], show (decide (a = p ∧ b = o)) = decide (b = o ∧ a = p) from by simp [and_comm]]
      rw [Bool.or_assoc, Bool.or_assoc, Bool.or_comm (decide (b = p ∧ a = o))]
    · rw [rb, b5 a]
      simp only [Bool.false_or, Bool.or_eq_false_iff, decide_eq_false_iff_not]
      exact ⟨by omega, by omega⟩
  · rw [r 2 0 (by decide)]; exact hq
  · rw [r (20 + p) q (by omega)]; exact hv p q
  · rw [r 2 1 (by decide)] at hp; rw [r 6 p (by decide)]; exact hz p hp
theorem DB_door {D : zN2} {w m u b : Nat} (h : DB D) (hd : D 2 2 < 10) (hw : 1 ≤ w ∧ w ≤ 99) (hm : 1 ≤ m ∧ m ≤ 240) (hu : u ≤ 29) (hb : b ≤ D 2 0) : DB (dDoor D w m u b) := by
  obtain ⟨⟨a1, a2, a3, a4, a5, a6, a7, a8, a9, b1, b2, b3, b4, b5, b6, b7, b8, b9, c1⟩, hq, hv, hz⟩ := h
  have r : ∀ k j, ¬ (k = 2 ∧ j = 2) → k ≠ 8 → k ≠ 9 → k ≠ 10 → k ≠ 11 → dDoor D w m u b k j = D k j := fun k j h1 h2 h3 h4 h5 => by unfold dDoor; rw [if_neg h1, if_neg (fun q => h2 q.1), if_neg (fun q => h3 q.1), if_neg (fun q => h4 q.1), if_neg (fun q => h5 q.1)]
  have r2 : ∀ j, j ≠ 2 → dDoor D w m u b 2 j = D 2 j := fun j hj => r 2 j (by omega) (by decide) (by decide) (by decide) (by decide)
  have rd : ∀ d, dDoor D w m u b 8 d = (if d = D 2 2 then w else D 8 d) ∧ dDoor D w m u b 9 d = (if d = D 2 2 then m else D 9 d) ∧ dDoor D w m u b 10 d = (if d = D 2 2 then u else D 10 d) ∧ dDoor D w m u b 11 d = (if d = D 2 2 then b else D 11 d) := fun d => by
    simp [dDoor]
  refine ⟨?_, ?_, fun p q => ?_, fun p hp => ?_⟩
  · unfold TB
    simp only [r2 0 (by decide), r2 1 (by decide), r2 3 (by decide), r2 4 (by decide), r2 5 (by decide), r 3 _ (by omega) (by decide) (by decide) (by decide) (by decide), r 5 _ (by omega) (by decide) (by decide) (by decide) (by decide), r 6 _ (by omega) (by decide) (by decide) (by decide) (by decide), r 7 _ (by omega) (by decide) (by decide) (by decide) (by decide)]
    refine ⟨a1, a2, ?_, a4, a5, a6, by omega, a8, a9, b1, b2, b3, b4, b5, fun d => ?_, fun d => ?_, fun d => ?_, fun d => ?_, c1⟩
    · show D 2 2 + 1 ≤ 10
      omega
    · rw [(rd d).1]; by_cases e : d = D 2 2
      · rw [if_pos e]; exact hw
      · rw [if_neg e]; exact b6 d
    · rw [(rd d).2.1]; by_cases e : d = D 2 2
      · rw [if_pos e]; exact hm
      · rw [if_neg e]; exact b7 d
    · rw [(rd d).2.2.1]; by_cases e : d = D 2 2
      · rw [if_pos e]; exact hu
      · rw [if_neg e]; exact b8 d
    · rw [(rd d).2.2.2]; by_cases e : d = D 2 2
      · rw [if_pos e]; exact hb
      · rw [if_neg e]; exact b9 d
  · rw [r2 0 (by decide)]; exact hq
  · rw [r (20 + p) q (by omega) (by omega) (by omega) (by omega) (by omega)]; exact hv p q
  · rw [r2 1 (by decide)] at hp; rw [r 6 p (by omega) (by decide) (by decide) (by decide) (by decide)]; exact hz p hp
theorem DB_sl {D : zN2} {n : Nat} {f : Nat → Nat} (h : DB D) (hn : n ≤ 7) (hf : ∀ j, f j < D 2 0 ∨ f j = 0) : DB (dSl D n f) := by
  obtain ⟨⟨a1, a2, a3, a4, a5, a6, a7, a8, a9, b1, b2, b3, b4, b5, b6, b7, b8, b9, c1⟩, hq, hv, hz⟩ := h
  have r : ∀ k j, ¬ (k = 2 ∧ j = 5) → k ≠ 3 → dSl D n f k j = D k j := fun k j h1 h2 => by unfold dSl; rw [if_neg h1, if_neg h2]
  have r2 : ∀ j, j ≠ 5 → dSl D n f 2 j = D 2 j := fun j hj => r 2 j (by omega) (by decide)
  refine ⟨?_, ?_, fun p q => ?_, fun p hp => ?_⟩
  · unfold TB
    simp only [r2 0 (by decide), r2 1 (by decide), r2 2 (by decide), r2 3 (by decide), r2 4 (by decide), r 5 _ (by omega) (by decide), r 6 _ (by omega) (by decide), r 7 _ (by omega) (by decide), r 8 _ (by omega) (by decide), r 9 _ (by omega) (by decide), r 10 _ (by omega) (by decide), r 11 _ (by omega) (by decide)]
    exact ⟨a1, a2, a3, a4, a5, hn, by omega, a8, a9, b1, b2, b3, b4, b5, b6, b7, b8, b9, hf⟩
  · rw [r2 0 (by decide)]; exact hq
  · rw [r (20 + p) q (by omega) (by omega)]; exact hv p q
  · rw [r2 1 (by decide)] at hp; rw [r 6 p (by omega) (by decide)]; exact hz p hp
theorem aDig_df {c : Nat → Nat} {N G few most a b e : Nat} (h : a ≤ N) (hr : aDig c N G few most a = .inr (b, e)) (hG : 0 < G) (j : Nat) : dF c b (e - b) j < G := by
  obtain ⟨h1, h2, h3, h4, h5⟩ := aDig_r h hr
  unfold dF
  by_cases e' : j < e - b
  · rw [if_pos e']; exact (h5 j e').2.2
  · rw [if_neg e']; exact hG
theorem DB_rest {c : Nat → Nat} {N k a e : Nat} {D D' : zN2} (h : DB D) (ha : a ≤ N) (hP : k = 2 → D 2 1 < 8) (hd : k = 5 → D 2 2 < 10) (hr : aRest c N D k a = .inr (e, D')) : DB D' ∧ e ≤ N := by
  have hT := h.1
  have hq := h.2.1
  unfold aRest at hr
  by_cases h2 : k = 2
  · rw [if_pos h2] at hr
    unfold aPer at hr
    rcases h1 : aDig c N 9 (D 2 0) (D 2 0) a with q | ⟨b, e1⟩
    · rw [h1] at hr; exact absurd hr (by simp)
    · rw [h1] at hr
      obtain ⟨g1, g2, g3, g4, g5⟩ := aDig_r ha h1
      simp only at hr
      rcases h3 : aNum c N 0 5 1000000 e1 with q | ⟨v, e2⟩
      · rw [h3] at hr; exact absurd hr (by simp)
      · rw [h3] at hr
        obtain ⟨i1, i2, i3, i4, i5⟩ := aNum_r g2 h3
        simp only [Sum.inr.injEq, Prod.mk.injEq] at hr
        obtain ⟨rfl, rfl⟩ := hr
        have := aDig_df ha h1 (by decide)
        rw [show e1 - b = D 2 0 from by omega] at this
        exact ⟨DB_per h (hP h2) (by omega) (fun j => by have := this j; omega), i5⟩
  rw [if_neg h2] at hr
  by_cases h3 : k = 3
  · rw [if_pos h3] at hr
    unfold aFei at hr
    rcases h1 : aNum c N 0 (D 2 1) 1000000 a with q | ⟨p, e1⟩
    · rw [h1] at hr; exact absurd hr (by simp)
    · rw [h1] at hr
      obtain ⟨g1, g2, g3, g4, g5⟩ := aNum_r ha h1
      simp only at hr
      rcases h3 : aNum c N 0 10 1000000 e1 with q | ⟨v, e2⟩
      · rw [h3] at hr; exact absurd hr (by simp)
      · rw [h3] at hr
        obtain ⟨i1, i2, i3, i4, i5⟩ := aNum_r g5 h3
        simp only [Sum.inr.injEq, Prod.mk.injEq] at hr
        obtain ⟨rfl, rfl⟩ := hr
        exact ⟨DB_nk h (by decide) (fun _ => ⟨by omega, g2⟩), i5⟩
  rw [if_neg h3] at hr
  by_cases h4 : k = 4
  · rw [if_pos h4] at hr
    unfold aKin at hr
    rcases h1 : aNum c N 0 (D 2 1) 1000000 a with q | ⟨p, e1⟩
    · rw [h1] at hr; exact absurd hr (by simp)
    · rw [h1] at hr
      obtain ⟨g1, g2, g3, g4, g5⟩ := aNum_r ha h1
      simp only at hr
      rcases h3 : aNum c N 0 (D 2 1) p e1 with q | ⟨v, e2⟩
      · rw [h3] at hr; exact absurd hr (by simp)
      · rw [h3] at hr
        obtain ⟨i1, i2, i3, i4, i5⟩ := aNum_r g5 h3
        simp only [Sum.inr.injEq, Prod.mk.injEq] at hr
        obtain ⟨rfl, rfl⟩ := hr
        exact ⟨DB_kin h g2 i2 i3, i5⟩
  rw [if_neg h4] at hr
  by_cases h5 : k = 5
  · rw [if_pos h5] at hr
    unfold aDoor at hr
    rcases h1 : aNum c N 1 100 1000000 a with q | ⟨w, e1⟩
    · rw [h1] at hr; exact absurd hr (by simp)
    rw [h1] at hr
    obtain ⟨g1, g2, g3, g4, g5⟩ := aNum_r ha h1
    simp only at hr
    rcases h3 : aNum c N 1 241 1000000 e1 with q | ⟨m, e2⟩
    · rw [h3] at hr; exact absurd hr (by simp)
    rw [h3] at hr
    obtain ⟨i1, i2, i3, i4, i5⟩ := aNum_r g5 h3
    simp only at hr
    rcases h6 : aNum c N 0 30 1000000 e2 with q | ⟨u, e3⟩
    · rw [h6] at hr; exact absurd hr (by simp)
    rw [h6] at hr
    obtain ⟨j1, j2, j3, j4, j5⟩ := aNum_r i5 h6
    simp only at hr
    have kb := bl9_sp (c := c) j5
    rcases h7 : aAbo c N D e3 with q | ⟨b, e4⟩
    · rw [h7] at hr; exact absurd hr (by simp)
    rw [h7] at hr
    simp only [Sum.inr.injEq, Prod.mk.injEq] at hr
    obtain ⟨rfl, rfl⟩ := hr
    have hb : b ≤ D 2 0 ∧ e4 ≤ N := by
      unfold aAbo at h7
      by_cases c1 : (decide (bl9 c N e3 < N) && isD c (bl9 c N e3)) = true
      · rw [if_pos c1] at h7
        rcases h8 : aNum c N 0 (D 2 0) 1000000 (bl9 c N e3) with q | ⟨v, e5⟩
        · rw [h8] at h7; exact absurd h7 (by simp)
        · rw [h8] at h7
          simp only [Sum.inr.injEq, Prod.mk.injEq] at h7
          obtain ⟨l1, l2, l3, l4, l5⟩ := aNum_r kb.2 h8
          omega
      · rw [if_neg c1] at h7
        simp only [Sum.inr.injEq, Prod.mk.injEq] at h7
        omega
    exact ⟨DB_door h (hd h5) ⟨g1, by omega⟩ ⟨i1, by omega⟩ (by omega) hb.1, hb.2⟩
  rw [if_neg h5] at hr
  by_cases h6 : k = 6
  · rw [if_pos h6] at hr
    unfold aGap at hr
    rcases h1 : aNum c N 1 9 1000000 a with q | ⟨p, e1⟩
    · rw [h1] at hr; exact absurd hr (by simp)
    · rw [h1] at hr
      obtain ⟨g1, g2, g3, g4, g5⟩ := aNum_r ha h1
      simp only [Sum.inr.injEq, Prod.mk.injEq] at hr
      obtain ⟨rfl, rfl⟩ := hr
      exact ⟨DB_2 h (Or.inl ⟨rfl, g1, by omega⟩), g5⟩
  rw [if_neg h6] at hr
  by_cases h7 : k = 7
  · rw [if_pos h7] at hr
    unfold aDay at hr
    rcases h1 : aNum c N 30 1000 1000000 a with q | ⟨p, e1⟩
    · rw [h1] at hr; exact absurd hr (by simp)
    · rw [h1] at hr
      obtain ⟨g1, g2, g3, g4, g5⟩ := aNum_r ha h1
      simp only [Sum.inr.injEq, Prod.mk.injEq] at hr
      obtain ⟨rfl, rfl⟩ := hr
      exact ⟨DB_2 h (Or.inr ⟨rfl, g1, by omega⟩), g5⟩
  rw [if_neg h7] at hr
  unfold aSla at hr
  rcases h1 : aDig c N (D 2 0) 1 7 a with q | ⟨b, e1⟩
  · rw [h1] at hr; exact absurd hr (by simp)
  · rw [h1] at hr
    obtain ⟨g1, g2, g3, g4, g5⟩ := aDig_r ha h1
    simp only [Sum.inr.injEq, Prod.mk.injEq] at hr
    obtain ⟨rfl, rfl⟩ := hr
    exact ⟨DB_sl h g4 (fun j => Or.inl (aDig_df ha h1 hq j)), g2⟩
