/-! THE PURE SIDE, 82: a TOWN's text, the class reads a DOOR, a GAP, a DAY -/
theorem x_numD {c : Nat → Nat} {N a lo H : Nat} {x2 : Int32} {μ0 μ : zMem} (hf : rfX μ0 μ) (hc : tx c N μ) (hA : xA N a μ) (h4 : μ 22 4 = zi 0) (hlo : lo < 1000000) (hx2 : ∀ v, v ≤ 100000 → (zi v ≤ x2) = (v < H)) :
    (∃ k p μ', aNum c N lo H 1000000 a = .inl (k, p) ∧ f3_readNumber (zi lo) x2 μ = some (0, zi 0, μ') ∧ rfX μ0 μ' ∧ μ' 22 4 = zi k ∧ μ' 22 5 = zi p ∧ ¬ zi k = (0 : Int32) ∧ μ' 12 = μ 12)
    ∨ (∃ v e, aNum c N lo H 1000000 a = .inr (v, e) ∧ f3_readNumber (zi lo) x2 μ = some (0, zi v, zset μ 22 3 (zi e)) ∧ lo ≤ v ∧ v < H ∧ v ≤ 100000 ∧ e ≤ N) := by
  obtain ⟨x, μ1, n1, n2⟩ := x_number hc hA h4 hlo hx2
  rcases hn : aNum c N lo H 1000000 a with ⟨k, p⟩ | ⟨v, e⟩
  · rw [hn] at n2
    have hk := (aNum_l hA.2.2 hn).1
    exact Or.inl ⟨k, p, μ1, rfl, by rw [n1, n2.1], hf.w n2.2, xW_4 n2.2, xW_5 n2.2, zne (by omega) (by omega), xW_k n2.2 (by decide)⟩
  · rw [hn] at n2
    obtain ⟨q1, q2, q3, q4, q5⟩ := aNum_r hA.2.2 hn
    exact Or.inr ⟨v, e, rfl, by rw [n1, n2.1, n2.2], q1, q2, q4, q5⟩
theorem x_door {c : Nat → Nat} {N a : Nat} {D : zN2} {μ : zMem} (hc : tx c N μ) (hA : xA N a μ) (h4 : μ 22 4 = zi 0) (hB : DB D) (hD : XD D μ) (hd : D 2 2 < 10) : ∃ x μ', f3_readDoor μ = some (0, x, μ') ∧ xO (aDoor c N D a) x μ μ' := by
  have hN := hc.1
  have hQ := hB.1.1
  have b0 : ∀ A, zbl (zi 0) A = A := fun A => zbl_0
  have b1 : ∀ A, zbl (zi 1) A = A := fun A => zbl_1
  have z0 : zi 0 = (0 : Int32) := rfl
  unfold f3_readDoor aDoor
  rw [zlet_e, hD.1.2.2.1]
  rcases x_numD (lo := 1) (H := 100) (x2 := (99 : Int32)) rfX.refl hc hA h4 (by decide) (hle rfl (by decide)) with ⟨k, p, μ', i1, i2, i3, i4, i5, i6, i7⟩ | ⟨w, e1, i1, i2, w1, w2, w3, w4⟩
  · rw [i1, show f3_readNumber (1 : Int32) (99 : Int32) μ = _ from i2, bnd0_ok, zin_i (by omega) (by omega), zlet_e, zset_nk (by decide), i4, if_neg i6]
    exact ⟨zi 0, _, rfl, i3.set (by decide) (by omega), rfl, by rw [zset_nk (by decide)]; exact i4, by rw [zset_nk (by decide)]; exact i5⟩
  rw [i1, show f3_readNumber (1 : Int32) (99 : Int32) μ = _ from i2, bnd0_ok, zin_i (by omega) (by omega), zlet_e, zset_nk (by decide), zset_nj (by decide), h4, if_pos z0, zi_cl (by omega)]
  have f1 : rfX μ (zset (zset μ 22 3 (zi e1)) 18 (D 2 2) (zi w)) := rfX_s.set (by decide) (by omega)
  have a1 : xA N e1 (zset (zset μ 22 3 (zi e1)) 18 (D 2 2) (zi w)) := ⟨by rw [f1.2]; exact hA.1, by rw [zset_nk (by decide), zset_eq], w4⟩
  have g1 : zset (zset μ 22 3 (zi e1)) 18 (D 2 2) (zi w) 22 4 = zi 0 := by rw [zset_nk (by decide), zset_nj (by decide)]; exact h4
  generalize hM1 : zset (zset μ 22 3 (zi e1)) 18 (D 2 2) (zi w) = M1 at f1 a1 g1 ⊢
  rcases x_numD (lo := 1) (H := 241) (x2 := (240 : Int32)) f1 (f1.tx hc) a1 g1 (by decide) (hle rfl (by decide)) with ⟨k, p, μ', i1, i2, i3, i4, i5, i6, i7⟩ | ⟨m, e2, i1, i2, m1, m2, m3, m4⟩
  · show ∃ x μ', bnd0 (f3_readNumber (1 : Int32) (240 : Int32) M1) _ = some (0, x, μ') ∧ xO (match aNum c N 1 241 1000000 e1 with | .inl q => .inl q | .inr (m, e2) => _) x μ μ'
    rw [i1, show f3_readNumber (1 : Int32) (240 : Int32) M1 = _ from i2, bnd0_ok, zin_i (by omega) (by omega), zlet_e, zset_nk (by decide), i4, if_neg i6]
    exact ⟨zi 0, _, rfl, i3.set (by decide) (by omega), rfl, by rw [zset_nk (by decide)]; exact i4, by rw [zset_nk (by decide)]; exact i5⟩
  show ∃ x μ', bnd0 (f3_readNumber (1 : Int32) (240 : Int32) M1) _ = some (0, x, μ') ∧ xO (match aNum c N 1 241 1000000 e1 with | .inl q => .inl q | .inr (m, e2) => _) x μ μ'
  rw [i1, show f3_readNumber (1 : Int32) (240 : Int32) M1 = _ from i2, bnd0_ok, zin_i (by omega) (by omega), zlet_e, zset_nk (by decide), zset_nj (by decide), g1, if_pos z0]
  have f2 : rfX μ (zset (zset M1 22 3 (zi e2)) 19 (D 2 2) (zi m)) := (f1.set (by decide) (by decide)).set (by decide) (by omega)
  have a2 : xA N e2 (zset (zset M1 22 3 (zi e2)) 19 (D 2 2) (zi m)) := ⟨by rw [f2.2]; exact hA.1, by rw [zset_nk (by decide), zset_eq], m4⟩
  have g2 : zset (zset M1 22 3 (zi e2)) 19 (D 2 2) (zi m) 22 4 = zi 0 := by rw [zset_nk (by decide), zset_nj (by decide)]; exact g1
  generalize hM2 : zset (zset M1 22 3 (zi e2)) 19 (D 2 2) (zi m) = M2 at f2 a2 g2 ⊢
  rcases x_numD (lo := 0) (H := 30) (x2 := (29 : Int32)) f2 (f2.tx hc) a2 g2 (by decide) (hle rfl (by decide)) with ⟨k, p, μ', i1, i2, i3, i4, i5, i6, i7⟩ | ⟨u, e3, i1, i2, u1, u2, u3, u4⟩
  · show ∃ x μ', bnd0 (f3_readNumber (0 : Int32) (29 : Int32) M2) _ = some (0, x, μ') ∧ xO (match aNum c N 0 30 1000000 e2 with | .inl q => .inl q | .inr (m, e2) => _) x μ μ'
    rw [i1, show f3_readNumber (0 : Int32) (29 : Int32) M2 = _ from i2, bnd0_ok, zin_i (by omega) (by omega), zlet_e, zset_nk (by decide), i4, if_neg i6]
    exact ⟨zi 0, _, rfl, i3.set (by decide) (by omega), rfl, by rw [zset_nk (by decide)]; exact i4, by rw [zset_nk (by decide)]; exact i5⟩
  show ∃ x μ', bnd0 (f3_readNumber (0 : Int32) (29 : Int32) M2) _ = some (0, x, μ') ∧ xO (match aNum c N 0 30 1000000 e2 with | .inl q => .inl q | .inr (m, e2) => _) x μ μ'
  rw [i1, show f3_readNumber (0 : Int32) (29 : Int32) M2 = _ from i2, bnd0_ok, zin_i (by omega) (by omega), zlet_e, zset_nk (by decide), zset_nj (by decide), g2, if_pos z0]
  have f3 : rfX μ (zset (zset M2 22 3 (zi e3)) 20 (D 2 2) (zi u)) := (f2.set (by decide) (by decide)).set (by decide) (by omega)
  have a3 : xA N e3 (zset (zset M2 22 3 (zi e3)) 20 (D 2 2) (zi u)) := ⟨by rw [f3.2]; exact hA.1, by rw [zset_nk (by decide), zset_eq], u4⟩
  have g3 : zset (zset M2 22 3 (zi e3)) 20 (D 2 2) (zi u) 22 4 = zi 0 := by rw [zset_nk (by decide), zset_nj (by decide)]; exact g2
  generalize hM3 : zset (zset M2 22 3 (zi e3)) 20 (D 2 2) (zi u) = M3 at f3 a3 g3 ⊢
  show ∃ x μ', bnd0 (f3_skipBlanks M3) _ = some (0, x, μ') ∧ xO (match aAbo c N D e3 with | .inl q => .inl q | .inr (m, e2) => _) x μ μ'
  have k1 := bl9_sp (c := c) u4
  have t3 := f3.tx hc
  have a4 : xA N (bl9 c N e3) (zset M3 22 3 (zi (bl9 c N e3))) := xA_s a3 k1.2
  have t4 : tx c N (zset M3 22 3 (zi (bl9 c N e3))) := tx_22 t3
  have f4 : rfX μ (zset M3 22 3 (zi (bl9 c N e3))) := f3.set (by decide) (by decide)
  have g4 : zset M3 22 3 (zi (bl9 c N e3)) 22 4 = zi 0 := by rw [zset_nj (by decide)]; exact g3
  rw [x_blanks t3 a3, bnd0_ok]
  show ∃ x μ', bnd0 (f3_standsDigit (zset M3 22 3 (zi (bl9 c N e3)))) _ = some (0, x, μ') ∧ _
  rw [x_standsDigit t4 a4, bnd0_ok, zlet_e]
  unfold aAbo
  have e12 : zset M3 22 3 (zi (bl9 c N e3)) 12 = μ 12 := by rw [← hM3, ← hM2, ← hM1]; rfl
  have e12' : M3 12 = μ 12 := by rw [← hM3, ← hM2, ← hM1]; rfl
  have xd : ∀ b e4, XD (dDoor D w m u b) (zset (zset (zset M3 22 3 (zi e4)) 21 (D 2 2) (abo b)) 12 2 (zi (D 2 2 + 1))) := fun b e4 => by
    rw [← hM3, ← hM2, ← hM1]
    obtain ⟨⟨D1, D2, D3, D4, D5, D6⟩, E2, E3, E4, E5⟩ := hD
    have r : ∀ k j, ¬ (k = 2 ∧ j = 2) → k ≠ 8 → k ≠ 9 → k ≠ 10 → k ≠ 11 → dDoor D w m u b k j = D k j := fun k j h1 h2 h3 h4 h5 => by unfold dDoor; rw [if_neg h1, if_neg (fun q => h2 q.1), if_neg (fun q => h3 q.1), if_neg (fun q => h4 q.1), if_neg (fun q => h5 q.1)]
    refine ⟨⟨?_, ?_, ?_, ?_, ?_, ?_⟩, fun i hi => ?_, fun p' hp' => ⟨?_, fun q hq => ?_⟩, fun p' hp' => ⟨?_, ?_⟩, fun d hd => ?_⟩
    · exact D1
    · exact D2
    · rfl
    · exact D4
    · exact D5
    · exact D6
    · rw [r 2 5 (by decide) (by decide) (by decide) (by decide) (by decide)] at hi
      exact E2 i hi
    · rw [r 2 1 (by decide) (by decide) (by decide) (by decide) (by decide)] at hp'
      exact (E3 p' hp').1
    · rw [r 2 1 (by decide) (by decide) (by decide) (by decide) (by decide)] at hp'
      rw [r 2 0 (by decide) (by decide) (by decide) (by decide) (by decide)] at hq
      rw [r (20 + p') q (by omega) (by omega) (by omega) (by omega) (by omega)]
      exact (E3 p' hp').2 q hq
    · exact (E4 p' hp').1
    · exact (E4 p' hp').2
    · have hd' : d < D 2 2 + 1 := hd
      by_cases ed : d = D 2 2
      · subst ed
        refine ⟨?_, ?_, ?_, ?_⟩
        · rw [show dDoor D w m u b 8 (D 2 2) = w from by simp [dDoor]]; simp [zset_at]
        · rw [show dDoor D w m u b 9 (D 2 2) = m from by simp [dDoor]]; simp [zset_at]
        · rw [show dDoor D w m u b 10 (D 2 2) = u from by simp [dDoor]]; simp [zset_at]
        · rw [show dDoor D w m u b 11 (D 2 2) = b from by simp [dDoor]]; simp [zset_at]
      · have := E5 d (by omega)
        refine ⟨?_, ?_, ?_, ?_⟩
        · rw [show dDoor D w m u b 8 d = D 8 d from by simp [dDoor, ed], ← this.1]; simp [zset_at, ed]
        · rw [show dDoor D w m u b 9 d = D 9 d from by simp [dDoor, ed], ← this.2.1]; simp [zset_at, ed]
        · rw [show dDoor D w m u b 10 d = D 10 d from by simp [dDoor, ed], ← this.2.2.1]; simp [zset_at, ed]
        · rw [show dDoor D w m u b 11 d = D 11 d from by simp [dDoor, ed], ← this.2.2.2]; simp [zset_at, ed]
  cases hdg : (decide (bl9 c N e3 < N) && isD c (bl9 c N e3))
  · rw [if_pos (show zi (b01 false) = (0 : Int32) from rfl), if_neg (by decide)]
    show ∃ x μ', zin (zi (D 2 2)) 10 _ = some (0, x, μ') ∧ _
    rw [zin_i (by omega) (by omega), zlet_e, zlet_e, zlet_e]
    rw [show zset (zset M3 22 3 (zi (bl9 c N e3))) 21 (D 2 2) (-1 : Int32) 12 2 + (1 : Int32) = zi (D 2 2 + 1) from by rw [zset_nk (by decide), e12, hD.1.2.2.1]; exact zi_add _ 1]
    have g5 : zset (zset (zset M3 22 3 (zi (bl9 c N e3))) 21 (D 2 2) (-1 : Int32)) 12 2 (zi (D 2 2 + 1)) 22 4 = zi 0 := by rw [zset_nk (by decide), zset_nk (by decide)]; exact g4
    dsimp only
    rw [g5, if_pos z0]
    exact ⟨zi 1, _, b1 _, (f4.set (by decide) (by omega)).set (by decide) (by omega), rfl, xd 0 _, by rw [zset_nk (by decide), zset_nk (by decide), zset_eq], g5⟩
  · rw [if_neg (show ¬ zi (b01 true) = (0 : Int32) from by decide), if_pos rfl]
    rcases x_numD (lo := 0) (H := D 2 0) (x2 := zi (D 2 0) - (1 : Int32)) f4 t4 a4 g4 (by decide) (hle rfl (by omega)) with ⟨k, p, μ', i1, i2, i3, i4, i5, i6, i7⟩ | ⟨v, e4, i1, i2, v1, v2, v3, v4⟩
    · rw [i1, e12, hD.1.1, show f3_readNumber (0 : Int32) (zi (D 2 0) - (1 : Int32)) (zset M3 22 3 (zi (bl9 c N e3))) = _ from i2, bnd0_ok]
      show ∃ x μ', zin (zi (D 2 2)) 10 _ = some (0, x, μ') ∧ _
      rw [zin_i (by omega) (by omega), zlet_e, zlet_e, zlet_e]
      dsimp only
      rw [zset_nk (show (22 : Nat) ≠ 12 from by decide), zset_nk (show (22 : Nat) ≠ 21 from by decide), i4, if_neg i6]
      exact ⟨zi 0, _, b0 _, (i3.set (by decide) (by omega)).set (by decide) (by omega), rfl, by rw [zset_nk (by decide), zset_nk (by decide)]; exact i4, by rw [zset_nk (by decide), zset_nk (by decide)]; exact i5⟩
    · rw [i1, e12, hD.1.1, show f3_readNumber (0 : Int32) (zi (D 2 0) - (1 : Int32)) (zset M3 22 3 (zi (bl9 c N e3))) = _ from i2, bnd0_ok]
      show ∃ x μ', zin (zi (D 2 2)) 10 _ = some (0, x, μ') ∧ _
      rw [zin_i (by omega) (by omega), zlet_e, zlet_e, zlet_e, zset_zset]
      rw [show zset (zset M3 22 3 (zi e4)) 21 (D 2 2) (zi v) 12 2 + (1 : Int32) = zi (D 2 2 + 1) from by rw [zset_nk (by decide), zset_nk (by decide), e12', hD.1.2.2.1]; exact zi_add _ 1]
      have g5 : zset (zset (zset M3 22 3 (zi e4)) 21 (D 2 2) (zi v)) 12 2 (zi (D 2 2 + 1)) 22 4 = zi 0 := by rw [zset_nk (by decide), zset_nk (by decide), zset_nj (by decide)]; exact g3
      dsimp only
      rw [g5, if_pos z0]
      refine ⟨zi 1, _, b1 _, ((f3.set (by decide) (by decide)).set (by decide) (by omega)).set (by decide) (by omega), rfl, ?_, by rw [zset_nk (by decide), zset_nk (by decide), zset_eq], g5⟩
      exact xd (v + 1) e4
theorem XD_nup {D : zN2} {μ : zMem} {j v : Nat} (hj : j = 3 ∨ j = 4) (hD : XD D μ) : XD (nup D 2 j v) (zset μ 12 j (zi v)) := by
  obtain ⟨⟨D1, D2, D3, D4, D5, D6⟩, E2, E3, E4, E5⟩ := hD
  have r : ∀ k i, k ≠ 2 → nup D 2 j v k i = D k i := fun k i hk => by rw [nup_nk hk]
  have r0 : nup D 2 j v 2 0 = D 2 0 := nup_nj (by omega)
  have r1 : nup D 2 j v 2 1 = D 2 1 := nup_nj (by omega)
  have r2 : nup D 2 j v 2 2 = D 2 2 := nup_nj (by omega)
  have r5 : nup D 2 j v 2 5 = D 2 5 := nup_nj (by omega)
  unfold XD
  rw [r0, r1, r2, r5]
  refine ⟨⟨?_, ?_, ?_, ?_, ?_, ?_⟩, fun i hi => ?_, fun p' hp' => ⟨?_, fun q hq => ?_⟩, fun p' hp' => ⟨?_, ?_⟩, fun d hd => ⟨?_, ?_, ?_, ?_⟩⟩
  · rw [zset_nj (by omega)]; exact D1
  · rw [zset_nj (by omega)]; exact D2
  · rw [zset_nj (by omega)]; exact D3
  · rcases hj with rfl | rfl
    · rw [zset_eq, nup_eq]
    · rw [zset_nj (by decide), nup_nj (by decide)]; exact D4
  · rcases hj with rfl | rfl
    · rw [zset_nj (by decide), nup_nj (by decide)]; exact D5
    · rw [zset_eq, nup_eq]
  · rw [zset_nj (by omega)]; exact D6
  · rw [r 3 i (by decide), zset_nk (by decide)]; exact E2 i hi
  · rw [r 5 p' (by decide), zset_nk (by decide)]; exact (E3 p' hp').1
  · rw [r (20 + p') q (by omega), zset_nk (by decide)]; exact (E3 p' hp').2 q hq
  · rw [r 6 p' (by decide), zset_nk (by decide)]; exact (E4 p' hp').1
  · rw [r 7 p' (by decide), zset_nk (by decide)]; exact (E4 p' hp').2
  · rw [r 8 d (by decide), zset_nk (by decide)]; exact (E5 d hd).1
  · rw [r 9 d (by decide), zset_nk (by decide)]; exact (E5 d hd).2.1
  · rw [r 10 d (by decide), zset_nk (by decide)]; exact (E5 d hd).2.2.1
  · rw [r 11 d (by decide), zset_nk (by decide)]; exact (E5 d hd).2.2.2
/-- what stands behind a clause's word -/
def aRest (c : Nat → Nat) (N : Nat) (D : zN2) (k a : Nat) : aS := if k = 2 then aPer c N D a else if k = 3 then aFei c N D a else if k = 4 then aKin c N D a else if k = 5 then aDoor c N D a else if k = 6 then aGap c N D a else if k = 7 then aDay c N D a else aSla c N D a
theorem x_rest {c : Nat → Nat} {N a k : Nat} {D : zN2} {μ : zMem} (hc : tx c N μ) (hA : xA N a μ) (h4 : μ 22 4 = zi 0) (hB : DB D) (hD : XD D μ) (hk : k ≤ 8) (hP : k = 2 → D 2 1 < 8) (hd : k = 5 → D 2 2 < 10) : ∃ x μ', f3_readRest (zi k) μ = some (0, x, μ') ∧ xO (aRest c N D k a) x μ μ' := by
  have b0 : ∀ A, zbl (zi 0) A = A := fun A => zbl_0
  have b1 : ∀ A, zbl (zi 1) A = A := fun A => zbl_1
  have z0 : zi 0 = (0 : Int32) := rfl
  have q : ∀ n, n < 9 → (zi k = zi n) = (k = n) := fun n hn => zi_eq (by omega) (by omega)
  have bb : ∀ {r : aS} {x : Int32} {μ1 : zMem} (A : zRes), xO r x μ μ1 → zbl x A = A := fun {r x μ1} A h => by
    obtain ⟨-, h⟩ := h
    rcases r with ⟨k, p⟩ | ⟨e, D'⟩
    · rw [h.1]; exact b0 _
    · rw [h.1]; exact b1 _
  unfold f3_readRest aRest
  rw [show (2 : Int32) = zi 2 from rfl, show (3 : Int32) = zi 3 from rfl, show (4 : Int32) = zi 4 from rfl, show (5 : Int32) = zi 5 from rfl, show (6 : Int32) = zi 6 from rfl, show (7 : Int32) = zi 7 from rfl]
  simp only [q 2 (by decide), q 3 (by decide), q 4 (by decide), q 5 (by decide), q 6 (by decide), q 7 (by decide)]
  by_cases h2 : k = 2
  · obtain ⟨x, μ', e, o⟩ := x_person hc hA h4 hB hD (hP h2)
    rw [if_pos h2, if_pos h2, e, bnd0_ok, bb _ o]
    exact ⟨x, μ', rfl, o⟩
  rw [if_neg h2, if_neg h2]
  by_cases h3 : k = 3
  · obtain ⟨x, μ', e, o⟩ := x_feigns hc hA h4 hB hD
    rw [if_pos h3, if_pos h3, e, bnd0_ok, bb _ o]
    exact ⟨x, μ', rfl, o⟩
  rw [if_neg h3, if_neg h3]
  by_cases h4' : k = 4
  · obtain ⟨x, μ', e, o⟩ := x_kin hc hA h4 hB hD
    rw [if_pos h4', if_pos h4', e, bnd0_ok, bb _ o]
    exact ⟨x, μ', rfl, o⟩
  rw [if_neg h4', if_neg h4']
  by_cases h5 : k = 5
  · obtain ⟨x, μ', e, o⟩ := x_door hc hA h4 hB hD (hd h5)
    rw [if_pos h5, if_pos h5, e, bnd0_ok, bb _ o]
    exact ⟨x, μ', rfl, o⟩
  rw [if_neg h5, if_neg h5]
  by_cases h6 : k = 6
  · rw [if_pos h6, if_pos h6]
    unfold aGap
    rcases x_numD (lo := 1) (H := 9) (x2 := (8 : Int32)) rfX.refl hc hA h4 (by decide) (hle rfl (by decide)) with ⟨k, p, μ', i1, i2, i3, i4, i5, i6, i7⟩ | ⟨w, e1, i1, i2, w1, w2, w3, w4⟩
    · rw [i1, show f3_readNumber (1 : Int32) (8 : Int32) μ = _ from i2, bnd0_ok, zlet_e, zlet_e]
      dsimp only
      rw [zset_nk (show (22 : Nat) ≠ 12 from by decide), i4, if_neg i6]
      exact ⟨zi 0, _, b0 _, i3.set (by decide) (by omega), rfl, by rw [zset_nk (by decide)]; exact i4, by rw [zset_nk (by decide)]; exact i5⟩
    · rw [i1, show f3_readNumber (1 : Int32) (8 : Int32) μ = _ from i2, bnd0_ok, zlet_e, zlet_e]
      dsimp only
      have g5 : zset (zset μ 22 3 (zi e1)) 12 3 (zi w) 22 4 = zi 0 := by rw [zset_nk (by decide), zset_nj (by decide)]; exact h4
      rw [g5, if_pos z0]
      exact ⟨zi 1, _, b1 _, rfX_s.set (by decide) (by omega), rfl, XD_nup (Or.inl rfl) (XD_22 hD), by rw [zset_nk (by decide), zset_eq], g5⟩
  rw [if_neg h6, if_neg h6]
  by_cases h7 : k = 7
  · rw [if_pos h7, if_pos h7]
    unfold aDay
    rcases x_numD (lo := 30) (H := 1000) (x2 := (999 : Int32)) rfX.refl hc hA h4 (by decide) (hle rfl (by decide)) with ⟨k, p, μ', i1, i2, i3, i4, i5, i6, i7⟩ | ⟨w, e1, i1, i2, w1, w2, w3, w4⟩
    · rw [i1, show f3_readNumber (30 : Int32) (999 : Int32) μ = _ from i2, bnd0_ok, zlet_e, zlet_e]
      dsimp only
      rw [zset_nk (show (22 : Nat) ≠ 12 from by decide), i4, if_neg i6]
      exact ⟨zi 0, _, b0 _, i3.set (by decide) (by omega), rfl, by rw [zset_nk (by decide)]; exact i4, by rw [zset_nk (by decide)]; exact i5⟩
    · rw [i1, show f3_readNumber (30 : Int32) (999 : Int32) μ = _ from i2, bnd0_ok, zlet_e, zlet_e]
      dsimp only
      have g5 : zset (zset μ 22 3 (zi e1)) 12 4 (zi w) 22 4 = zi 0 := by rw [zset_nk (by decide), zset_nj (by decide)]; exact h4
      rw [g5, if_pos z0]
      exact ⟨zi 1, _, b1 _, rfX_s.set (by decide) (by omega), rfl, XD_nup (Or.inr rfl) (XD_22 hD), by rw [zset_nk (by decide), zset_eq], g5⟩
  rw [if_neg h7, if_neg h7]
  obtain ⟨x, μ', e, o⟩ := x_slate hc hA h4 hB hD
  rw [e, bnd0_ok, bb _ o]
  exact ⟨x, μ', rfl, o⟩
