/-! THE PURE SIDE, 84: a TOWN's text, the class reads a clause and all clauses -/
theorem wK_le {c : Nat → Nat} {b l : Nat} : wK c b l ≤ 8 := by unfold wK; (repeat' split) <;> omega
def aClause (c : Nat → Nat) (N n : Nat) (D : zN2) (a : Nat) : aS :=
  if wK c a (we9 c N a - a) < 2 then .inl (1, a)
  else if n = 40 ∨ (wK c a (we9 c N a - a) = 2 ∧ D 2 1 = 8) ∨ (wK c a (we9 c N a - a) = 5 ∧ D 2 2 = 10) then .inl (3, a)
  else match aRest c N D (wK c a (we9 c N a - a)) (we9 c N a) with
    | .inl q => .inl q
    | .inr (e, D') => match aSemi c N e with
      | .inl q => .inl q
      | .inr (_, e2) => .inr (e2, D')
theorem aSemi_r {c : Nat → Nat} {N a v e : Nat} (h : a ≤ N) (hr : aSemi c N a = .inr (v, e)) : e ≤ N := by
  have := bl9_sp (c := c) h
  unfold aSemi at hr
  by_cases h1 : bl9 c N a < N ∧ c (bl9 c N a) = 59
  · rw [if_pos h1] at hr
    simp only [Sum.inr.injEq, Prod.mk.injEq] at hr
    omega
  · rw [if_neg h1] at hr; exact absurd hr (by simp)
theorem aClause_r {c : Nat → Nat} {N n a e : Nat} {D D' : zN2} (h : DB D) (ha : a ≤ N) (hr : aClause c N n D a = .inr (e, D')) : DB D' ∧ e ≤ N ∧ n ≠ 40 := by
  have hw := we9_sp (c := c) ha
  have hP := h.1.2.1
  have hd := h.1.2.2.1
  unfold aClause at hr
  by_cases h1 : wK c a (we9 c N a - a) < 2
  · rw [if_pos h1] at hr; exact absurd hr (by simp)
  rw [if_neg h1] at hr
  by_cases h2 : n = 40 ∨ (wK c a (we9 c N a - a) = 2 ∧ D 2 1 = 8) ∨ (wK c a (we9 c N a - a) = 5 ∧ D 2 2 = 10)
  · rw [if_pos h2] at hr; exact absurd hr (by simp)
  rw [if_neg h2] at hr
  rcases h3 : aRest c N D (wK c a (we9 c N a - a)) (we9 c N a) with q | ⟨e1, D1⟩
  · rw [h3] at hr; exact absurd hr (by simp)
  · rw [h3] at hr
    obtain ⟨g1, g2⟩ := DB_rest h hw.2.1 (by omega) (by omega) h3
    simp only at hr
    rcases h4 : aSemi c N e1 with q | ⟨v, e2⟩
    · rw [h4] at hr; exact absurd hr (by simp)
    · rw [h4] at hr
      simp only [Sum.inr.injEq, Prod.mk.injEq] at hr
      obtain ⟨rfl, rfl⟩ := hr
      exact ⟨g1, aSemi_r g2 h4, by omega⟩
theorem x_clause {c : Nat → Nat} {N a n : Nat} {D : zN2} {μ : zMem} (hc : tx c N μ) (hA : xA N a μ) (h4 : μ 22 4 = zi 0) (hB : DB D) (hD : XD D μ) (hn : n ≤ 40) : ∃ x μ', f3_readClause (zi n) μ = some (0, x, μ') ∧ xO (aClause c N n D a) x μ μ' := by
  have b0 : ∀ A, zbl (zi 0) A = A := fun A => zbl_0
  have b1 : ∀ A, zbl (zi 1) A = A := fun A => zbl_1
  have z0 : zi 0 = (0 : Int32) := rfl
  have hw := we9_sp (c := c) hA.2.2
  have hP := hB.1.2.1
  have hd := hB.1.2.2.1
  have hk := wK_le (c := c) (b := a) (l := we9 c N a - a)
  unfold f3_readClause aClause
  rw [zlet_e, hA.2.1, x_readWord hc hA, bnd0_ok]
  simp only [zlet_e]
  generalize hK : wK c a (we9 c N a - a) = k at hk ⊢
  have q : ∀ m, m < 9 → (zi k = zi m) = (k = m) := fun m hm => zi_eq (by omega) (by omega)
  have hD1 : XD D (zset μ 22 3 (zi (we9 c N a))) := XD_22 hD
  have w1 : ∀ m, bnd0 (f3_wrong (zi m) (zi a) (zset μ 22 3 (zi (we9 c N a)))) (fun (v4 : Int32) (μ5 : zMem) => zbl v4 (some (0, v4, μ5))) = some (0, zi 0, zset (zset (zset μ 22 3 (zi (we9 c N a))) 22 4 (zi m)) 22 5 (zi a)) := fun m => by
    rw [x_wrong, bnd0_ok, b0]
  have e12 : zset μ 22 3 (zi (we9 c N a)) 12 = μ 12 := zset_nk (by decide)
  simp only [show (zi k = (0 : Int32)) = (k = 0) from q 0 (by decide), show (zi k = (1 : Int32)) = (k = 1) from q 1 (by decide), show (zi k = (2 : Int32)) = (k = 2) from q 2 (by decide), show (zi k = (5 : Int32)) = (k = 5) from q 5 (by decide), e12, hD.1.2.1, hD.1.2.2.1, show ((40 : Int32) ≤ zi n) = (40 ≤ n) from zi_le (a := 40) (by decide) (by omega), show ((8 : Int32) ≤ zi (D 2 1)) = (8 ≤ D 2 1) from zi_le (a := 8) (by decide) (by omega), show (zi (D 2 2) < (10 : Int32)) = (D 2 2 < 10) from zi_lt (b := 10) (by omega) (by decide)]
  have e1 : k < 2 → ∃ x μ', (if k = 0 then bnd0 (f3_wrong (1 : Int32) (zi a) (zset μ 22 3 (zi (we9 c N a)))) (fun (v4 : Int32) (μ5 : zMem) => zbl v4 (some (0, v4, μ5))) else bnd0 (f3_wrong (1 : Int32) (zi a) (zset μ 22 3 (zi (we9 c N a)))) (fun (v4 : Int32) (μ5 : zMem) => zbl v4 (some (0, v4, μ5)))) = some (0, x, μ') ∧ xO (.inl (1, a)) x μ μ' := fun _ => by
    refine ⟨zi 0, _, ?_, xO_w (μ1 := μ) rfX.refl rfl ⟨zi (we9 c N a), rfl⟩⟩
    split <;> exact w1 1
  by_cases h1 : k < 2
  · obtain ⟨x, μ', i1, i2⟩ := e1 h1
    rw [if_pos h1]
    refine ⟨x, μ', ?_, i2⟩
    rw [← i1]
    by_cases k0 : k = 0
    · rw [if_pos k0, if_pos k0]
    · rw [if_neg k0, if_neg k0, if_pos (by omega)]
  rw [if_neg h1, if_neg (show ¬ k = 0 from by omega), if_neg (show ¬ k = 1 from by omega), if_neg (show ¬ (1 : Int32) = 0 from by decide), if_pos (show True from trivial)]
  by_cases h2 : n = 40 ∨ (k = 2 ∧ D 2 1 = 8) ∨ (k = 5 ∧ D 2 2 = 10)
  · rw [if_pos h2]
    refine ⟨zi 0, _, ?_, xO_w (μ1 := μ) (k := 3) (p := a) rfX.refl rfl ⟨zi (we9 c N a), rfl⟩⟩
    rw [← w1 3]
    by_cases n4 : 40 ≤ n
    · rw [if_pos n4]; rfl
    · rw [if_neg n4]
      by_cases k2 : k = 2
      · rw [if_pos k2, if_pos (by omega)]; rfl
      · rw [if_neg k2, if_pos (by omega), if_neg (by omega)]; rfl
  rw [if_neg h2, if_neg (show ¬ 40 ≤ n from by omega)]
  have hA1 : xA N (we9 c N a) (zset μ 22 3 (zi (we9 c N a))) := xA_s hA hw.2.1
  have h41 : zset μ 22 3 (zi (we9 c N a)) 22 4 = zi 0 := by rw [zset_nj (by decide)]; exact h4
  obtain ⟨x, μ1, i1, i2⟩ := x_rest (k := k) (tx_22 hc) hA1 h41 hB hD1 hk (by omega) (by omega)
  rw [i1, bnd0_ok]
  have go : ∃ x' μ', (if x = 0 then zbl (0 : Int32) (some (0, (0 : Int32), μ1)) else bnd0 (f3_readSemicolon μ1) (fun (v23 : Int32) (μ24 : zMem) => if v23 = 0 then zbl (0 : Int32) (some (0, (0 : Int32), μ24)) else zbl (1 : Int32) (some (0, (1 : Int32), μ24)))) = some (0, x', μ') ∧ xO (match aRest c N D k (we9 c N a) with
    | .inl q => .inl q
    | .inr (e, D') => match aSemi c N e with
      | .inl q => .inl q
      | .inr (_, e2) => .inr (e2, D')) x' μ μ' := by
    obtain ⟨f1, i2⟩ := i2
    have f0 : rfX μ μ1 := rfX_s.trans f1
    rcases h3 : aRest c N D k (we9 c N a) with ⟨k', p⟩ | ⟨e, D'⟩
    · rw [h3] at i2
      rw [if_pos (show x = (0 : Int32) from i2.1)]
      exact ⟨zi 0, μ1, b0 _, f0, rfl, i2.2.1, i2.2.2⟩
    · rw [h3] at i2
      obtain ⟨j1, j2, j3, j4⟩ := i2
      obtain ⟨g1, g2⟩ := DB_rest hB hw.2.1 (by omega) (by omega) h3
      rw [j1, if_neg (show ¬ zi 1 = (0 : Int32) from by decide)]
      obtain ⟨y, μ2, s1, s2⟩ := x_semi (c := c) (N := N) (a := e) (f0.tx hc) ⟨by rw [f0.2]; exact hA.1, j3, g2⟩
      rw [s1, bnd0_ok]
      dsimp only
      rcases h5 : aSemi c N e with ⟨k', p⟩ | ⟨v, e2⟩
      · rw [h5] at s2
        rw [if_pos (show y = (0 : Int32) from s2.1)]
        exact ⟨zi 0, μ2, b0 _, xO_w f0 rfl s2.2⟩
      · rw [h5] at s2
        rw [s2.1, if_neg (show ¬ zi 1 = (0 : Int32) from by decide), s2.2]
        exact ⟨zi 1, _, b1 _, f0.set (by decide) (by decide), rfl, XD_22 j2, zset_eq, by rw [zset_nj (by decide)]; exact j4⟩
  by_cases k2 : k = 2
  · rw [if_pos k2, if_neg (show ¬ 8 ≤ D 2 1 from by omega), if_neg (show ¬ k = 5 from by omega)]
    exact go
  · rw [if_neg k2]
    by_cases k5 : k = 5
    · rw [if_pos k5, if_pos (show D 2 2 < 10 from by omega)]
      exact go
    · rw [if_neg k5]
      exact go
/-- all clauses behind the first -/
def aLoop (c : Nat → Nat) (N : Nat) : Nat → Nat → Nat → zN2 → aS
  | 0, _, a, D => .inr (a, D)
  | f + 1, n, a, D => if bl9 c N a = N then .inr (N, D) else match aClause c N n D (bl9 c N a) with
    | .inl q => .inl q
    | .inr (e, D') => aLoop c N f (n + 1) e D'
def xE (r : aS) (μ μ' : zMem) : Prop := rfX μ μ' ∧ match r with
  | .inl (k, p) => μ' 22 4 = zi k ∧ μ' 22 5 = zi p
  | .inr (_, D') => XD D' μ' ∧ μ' 22 4 = zi 0 ∧ DB D'
theorem x_loop {c : Nat → Nat} {N : Nat} (K : zMem → zRes) : ∀ f n a D (μ : zMem) (F : Nat), n + f = 41 → f + 1 ≤ F → tx c N μ → xA N a μ → μ 22 4 = zi 0 → DB D → XD D μ →
    ∃ μ', f3_readTown_L42 K F (zi 1) (zi n) μ = K μ' ∧ xE (aLoop c N f n a D) μ μ'
  | 0, n, a, D, μ, F, hn, hF, hc, hA, h4, hB, hD => by
    obtain ⟨F', rfl⟩ : ∃ F', F = F' + 1 := ⟨F - 1, by omega⟩
    rw [f3_readTown_L42, if_neg (show ¬ zi 1 = (0 : Int32) from by decide), if_pos (show (40 : Int32) < zi n from by rw [show (40 : Int32) = zi 40 from rfl, zi_lt (by decide) (by omega)]; omega)]
    exact ⟨μ, rfl, rfX.refl, hD, h4, hB⟩
  | f + 1, n, a, D, μ, F, hn, hF, hc, hA, h4, hB, hD => by
    obtain ⟨F', rfl⟩ : ∃ F', F = F' + 2 := ⟨F - 2, by omega⟩
    have hN := hc.1
    have kb := bl9_sp (c := c) hA.2.2
    rw [f3_readTown_L42, if_neg (show ¬ zi 1 = (0 : Int32) from by decide), if_neg (show ¬ (40 : Int32) < zi n from by rw [show (40 : Int32) = zi 40 from rfl, zi_lt (by decide) (by omega)]; omega), x_blanks hc hA, bnd0_ok, zlet_e, zlet_e]
    show ∃ μ', (if zset μ 22 3 (zi (bl9 c N a)) 22 2 ≤ zset μ 22 3 (zi (bl9 c N a)) 22 3 then f3_readTown_L42 K (F' + 1) (0 : Int32) (zi n + (1 : Int32)) (zset μ 22 3 (zi (bl9 c N a))) else bnd0 (f3_readClause (zi n) (zset μ 22 3 (zi (bl9 c N a)))) (fun (v24 : Int32) (μ25 : zMem) => if v24 = 0 then f3_readTown_L42 K (F' + 1) (0 : Int32) (zi n + (1 : Int32)) μ25 else f3_readTown_L42 K (F' + 1) (1 : Int32) (zi n + (1 : Int32)) μ25)) = _ ∧ _
    have hA1 : xA N (bl9 c N a) (zset μ 22 3 (zi (bl9 c N a))) := xA_s hA kb.2
    have h41 : zset μ 22 3 (zi (bl9 c N a)) 22 4 = zi 0 := by rw [zset_nj (by decide)]; exact h4
    have end0 : ∀ x (m : zMem), f3_readTown_L42 K (F' + 1) (0 : Int32) x m = K m := fun x m => by rw [f3_readTown_L42, if_pos rfl]
    rw [zset_eq, hA1.1, end0, show zi n + (1 : Int32) = zi (n + 1) from zi_add n 1]
    unfold aLoop
    by_cases hb : bl9 c N a = N
    · rw [if_pos (show zi N ≤ zi (bl9 c N a) from by rw [zi_le (by omega) (by omega)]; omega), if_pos hb]
      exact ⟨_, rfl, rfX_s, XD_22 hD, h41, hB⟩
    · rw [if_neg (show ¬ zi N ≤ zi (bl9 c N a) from by rw [zi_le (by omega) (by omega)]; omega), if_neg hb]
      obtain ⟨x, μ1, i1, f1, i2⟩ := x_clause (n := n) (tx_22 hc) hA1 h41 hB (XD_22 hD) (by omega)
      rw [i1, bnd0_ok]
      have f0 : rfX μ μ1 := rfX_s.trans f1
      rcases h3 : aClause c N n D (bl9 c N a) with ⟨k', p⟩ | ⟨e, D'⟩
      · rw [h3] at i2
        rw [i2.1, if_pos (show zi 0 = (0 : Int32) from rfl), end0]
        exact ⟨μ1, rfl, f0, i2.2.1, i2.2.2⟩
      · rw [h3] at i2
        obtain ⟨g1, g2, g3⟩ := aClause_r hB kb.2 h3
        obtain ⟨j1, j2, j3, j4⟩ := i2
        rw [j1, if_neg (show ¬ zi 1 = (0 : Int32) from by decide)]
        obtain ⟨μ', l1, l2, l3⟩ := x_loop K f (n + 1) e D' μ1 (F' + 1) (by omega) (by omega) (f0.tx hc) ⟨by rw [f0.2]; exact hA.1, j3, g2⟩ j4 g1 j2
        exact ⟨μ', l1, f0.trans l2, l3⟩
