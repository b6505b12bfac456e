/-! THE PURE SIDE, 85: a TOWN's text, the class reads all -/
def D0 (q : Nat) : zN2 := fun k j => if k = 2 then (if j = 0 then q else if j = 3 then 4 else if j = 4 then 480 else 0) else if k = 8 ∨ k = 9 then 1 else 0
theorem D0_z {q k j : Nat} (h : k ≠ 2) (h' : k ≠ 8) (h'' : k ≠ 9) : D0 q k j = 0 := by unfold D0; rw [if_neg h, if_neg (by omega)]
theorem DB_0 {q : Nat} (h : 1 ≤ q) (h' : q < 5) : DB (D0 q) := by
  refine ⟨⟨?_, ?_, ?_, ?_, ?_, ?_, ?_, ?_, fun p => ?_, fun p => ?_, fun p => ?_, fun p hp => ?_, fun a b => ?_, fun a => ?_, fun d => ?_, fun d => ?_, fun d => ?_, fun d => ?_, fun i => ?_⟩, h, fun p q => ?_, fun p hp => ?_⟩
  · show q ≤ 4
    omega
  · exact Nat.zero_le _
  · exact Nat.zero_le _
  · show 4 ≤ 8
    decide
  · show 480 ≤ 999
    decide
  · exact Nat.zero_le _
  · intro e; exact absurd (show q = 0 from e) (by omega)
  · intro _; exact ⟨show 1 ≤ 4 by decide, show 30 ≤ 480 by decide⟩
  · rw [D0_z (by decide) (by decide) (by decide)]; exact Nat.zero_le _
  · rw [D0_z (by decide) (by decide) (by decide)]; exact Nat.zero_le _
  · rw [D0_z (by decide) (by decide) (by decide)]; exact Nat.two_pow_pos _
  · exact D0_z (by decide) (by decide) (by decide)
  · rw [D0_z (by decide) (by decide) (by decide), D0_z (by decide) (by decide) (by decide), Nat.zero_testBit, Nat.zero_testBit]
  · rw [D0_z (by decide) (by decide) (by decide), Nat.zero_testBit]
  · exact ⟨show 1 ≤ 1 by decide, show 1 ≤ 99 by decide⟩
  · exact ⟨show 1 ≤ 1 by decide, show 1 ≤ 240 by decide⟩
  · rw [D0_z (by decide) (by decide) (by decide)]; exact Nat.zero_le _
  · rw [D0_z (by decide) (by decide) (by decide)]; exact Nat.zero_le _
  · exact Or.inr (D0_z (by decide) (by decide) (by decide))
  · rw [D0_z (by omega) (by omega) (by omega)]; exact Nat.zero_le _
  · exact D0_z (by decide) (by decide) (by decide)
def aTown (c : Nat → Nat) (N : Nat) : aS :=
  if wK c (bl9 c N 0) (we9 c N (bl9 c N 0) - bl9 c N 0) = 1 then (match aNum c N 1 5 1000000 (we9 c N (bl9 c N 0)) with
    | .inl q => .inl q
    | .inr (v, e) => match aSemi c N e with
      | .inl q => .inl q
      | .inr (_, e2) => aLoop c N 40 1 e2 (D0 v))
  else .inl (1, bl9 c N 0)
theorem x_startAnew {μ : zMem} : ∃ μ', f7_startAnew μ = some (0, zi 0, μ') ∧ (∀ k, (k < 12 ∨ 22 ≤ k) → μ' k = μ k) ∧ ∀ q, XD (D0 q) (zset μ' 12 0 (zi q)) := by
  unfold f7_startAnew
  rw [zlet_e, zlet_e, zlet_e, zlet_e, zlet_e, zlet_e, x_fill (by decide), bnd0_ok, x_fill (by decide), bnd0_ok]
  refine ⟨_, rfl, fun k hk => ?_, fun q => ?_⟩
  · rw [zfil_nk (by omega), zfil_nk (by omega), zset_nk (by omega), zset_nk (by omega), zset_nk (by omega), zset_nk (by omega), zset_nk (by omega), zset_nk (by omega)]
  · refine ⟨⟨rfl, rfl, rfl, rfl, rfl, rfl⟩, fun i hi => absurd (show i < 0 from hi) (by omega), fun p hp => absurd (show p < 0 from hp) (by omega), fun p hp => ⟨?_, ?_⟩, fun d hd => absurd (show d < 0 from hd) (by omega)⟩
    · rw [zset_nk (by decide), zfil_nk (by decide), zfil_at, if_pos ⟨rfl, hp⟩]; rfl
    · rw [zset_nk (by decide), zfil_at, if_pos ⟨rfl, hp⟩]; rfl
theorem x_asks {c : Nat → Nat} {N : Nat} {μ : zMem} (hc : tx c N μ) (hA : xA N 0 μ) (h4 : μ 22 4 = zi 0) (h0 : ∀ q, XD (D0 q) (zset μ 12 0 (zi q))) :
    (∃ k p μ', f3_readAsks μ = some (0, zi 0, μ') ∧ rfX μ μ' ∧ aTown c N = .inl (k, p) ∧ μ' 22 4 = zi k ∧ μ' 22 5 = zi p)
    ∨ (∃ v e μ', f3_readAsks μ = some (0, zi 1, μ') ∧ rfX μ μ' ∧ aTown c N = aLoop c N 40 1 e (D0 v) ∧ DB (D0 v) ∧ XD (D0 v) μ' ∧ xA N e μ' ∧ μ' 22 4 = zi 0) := by
  have b0 : ∀ A, zbl (zi 0) A = A := fun A => zbl_0
  have b1 : ∀ A, zbl (zi 1) A = A := fun A => zbl_1
  have z0 : zi 0 = (0 : Int32) := rfl
  have kb := bl9_sp (c := c) hA.2.2
  have kw := we9_sp (c := c) kb.2
  have hk := wK_le (c := c) (b := bl9 c N 0) (l := we9 c N (bl9 c N 0) - bl9 c N 0)
  have hA1 : xA N (bl9 c N 0) (zset μ 22 3 (zi (bl9 c N 0))) := xA_s hA kb.2
  have hA2 : xA N (we9 c N (bl9 c N 0)) (zset (zset μ 22 3 (zi (bl9 c N 0))) 22 3 (zi (we9 c N (bl9 c N 0)))) := xA_s hA1 kw.2.1
  have h42 : zset (zset μ 22 3 (zi (bl9 c N 0))) 22 3 (zi (we9 c N (bl9 c N 0))) 22 4 = zi 0 := by rw [zset_nj (by decide), zset_nj (by decide)]; exact h4
  have f2 : rfX μ (zset (zset μ 22 3 (zi (bl9 c N 0))) 22 3 (zi (we9 c N (bl9 c N 0)))) := rfX_s.set (by decide) (by decide)
  unfold f3_readAsks aTown
  rw [x_blanks hc hA, bnd0_ok, zlet_e]
  show (∃ k p μ', bnd0 (f3_readWord (zset μ 22 3 (zi (bl9 c N 0)))) _ = some (0, zi 0, μ') ∧ _) ∨ (∃ v e μ', bnd0 (f3_readWord (zset μ 22 3 (zi (bl9 c N 0)))) _ = some (0, zi 1, μ') ∧ _)
  rw [x_readWord (tx_22 hc) hA1, bnd0_ok]
  by_cases e1 : wK c (bl9 c N 0) (we9 c N (bl9 c N 0) - bl9 c N 0) = 1
  · rw [if_pos e1, if_pos (show zi (wK c (bl9 c N 0) (we9 c N (bl9 c N 0) - bl9 c N 0)) = (1 : Int32) from by rw [e1]; rfl)]
    rcases x_numD (lo := 1) (H := 5) (x2 := (4 : Int32)) f2 (tx_22 (tx_22 hc)) hA2 h42 (by decide) (hle rfl (by decide)) with ⟨k, p, μ', i1, i2, i3, i4, i5, i6, i7⟩ | ⟨v, e, i1, i2, w1, w2, w3, w4⟩
    · rw [i1, show f3_readNumber (1 : Int32) (4 : Int32) (zset (zset μ 22 3 (zi (bl9 c N 0))) 22 3 (zi (we9 c N (bl9 c N 0)))) = _ from i2, bnd0_ok, zlet_e, zlet_e, zlet_e]
      rw [show zset μ' 12 0 (zi 0) 22 4 = zi k from by rw [zset_nk (by decide)]; exact i4, if_neg i6]
      exact Or.inl ⟨k, p, _, b0 _, i3.set (by decide) (by decide), rfl, by rw [zset_nk (by decide)]; exact i4, by rw [zset_nk (by decide)]; exact i5⟩
    · rw [i1, show f3_readNumber (1 : Int32) (4 : Int32) (zset (zset μ 22 3 (zi (bl9 c N 0))) 22 3 (zi (we9 c N (bl9 c N 0)))) = _ from i2, bnd0_ok, zlet_e, zlet_e, zlet_e]
      have f3 : rfX μ (zset (zset (zset (zset μ 22 3 (zi (bl9 c N 0))) 22 3 (zi (we9 c N (bl9 c N 0)))) 22 3 (zi e)) 12 0 (zi v)) := (f2.set (by decide) (by decide)).set (by decide) (by decide)
      have g3 : zset (zset (zset (zset μ 22 3 (zi (bl9 c N 0))) 22 3 (zi (we9 c N (bl9 c N 0)))) 22 3 (zi e)) 12 0 (zi v) 22 4 = zi 0 := by rw [zset_nk (by decide), zset_nj (by decide)]; exact h42
      have a3 : xA N e (zset (zset (zset (zset μ 22 3 (zi (bl9 c N 0))) 22 3 (zi (we9 c N (bl9 c N 0)))) 22 3 (zi e)) 12 0 (zi v)) := ⟨by rw [f3.2]; exact hA.1, by rw [zset_nk (by decide), zset_eq], w4⟩
      have x3 : XD (D0 v) (zset (zset (zset (zset μ 22 3 (zi (bl9 c N 0))) 22 3 (zi (we9 c N (bl9 c N 0)))) 22 3 (zi e)) 12 0 (zi v)) := XD_of (fun k h1 h2 => by
        funext j
        by_cases e0 : k = 12 ∧ j = 0
        · rw [zset_at, if_pos e0, zset_at, if_pos e0]
        · rw [zset_at, if_neg e0, zset_nk (by omega), zset_nk (by omega), zset_nk (by omega), zset_at, if_neg e0]) (h0 v)
      rw [g3, if_pos z0]
      obtain ⟨y, μ2, s1, s2⟩ := x_semi (c := c) (N := N) (a := e) (f3.tx hc) a3
      rw [s1, bnd0_ok]
      dsimp only
      rcases h5 : aSemi c N e with ⟨k', p⟩ | ⟨v', e2⟩
      · rw [h5] at s2
        rw [if_pos (show y = (0 : Int32) from s2.1)]
        exact Or.inl ⟨k', p, μ2, b0 _, f3.w s2.2, rfl, xW_4 s2.2, xW_5 s2.2⟩
      · rw [h5] at s2
        rw [s2.1, if_neg (show ¬ zi 1 = (0 : Int32) from by decide), s2.2]
        refine Or.inr ⟨v, e2, _, b1 _, f3.set (by decide) (by decide), rfl, DB_0 w1 w2, XD_22 x3, xA_s a3 (aSemi_r w4 h5), by rw [zset_nj (by decide)]; exact g3⟩
  · rw [if_neg e1, if_neg (show ¬ zi (wK c (bl9 c N 0) (we9 c N (bl9 c N 0) - bl9 c N 0)) = (1 : Int32) from by rw [show (1 : Int32) = zi 1 from rfl, zi_eq (by omega) (by decide)]; exact e1)]
    refine Or.inl ⟨1, bl9 c N 0, zset (zset (zset (zset μ 22 3 (zi (bl9 c N 0))) 22 3 (zi (we9 c N (bl9 c N 0)))) 22 4 (zi 1)) 22 5 (zi (bl9 c N 0)), ?_, (f2.set (by decide) (by decide)).set (by decide) (by decide), rfl, by rw [zset_nj (by decide), zset_eq], zset_eq⟩
    rw [zset_eq]
    show bnd0 (f3_wrong (zi 1) (zi (bl9 c N 0)) _) _ = _
    rw [x_wrong, bnd0_ok, b0]
theorem f3_readTown_L42_zF_0 {K : zMem → zRes} {x : Int32} {μ : zMem} : f3_readTown_L42 K zF (zi 0) x μ = K μ := by
  obtain ⟨n, hn⟩ : ∃ n, zF = n + 1 := ⟨999999, rfl⟩
  rw [hn, f3_readTown_L42, if_pos (show zi 0 = (0 : Int32) from rfl)]
theorem x_town {c : Nat → Nat} {N : Nat} {μ : zMem} (hc : tx c N μ) : ∃ μ', f3_readTown (zi N) μ = some (0, μ' 22 4, μ') ∧ (∀ k, (k < 12 ∨ 22 < k) → μ' k = μ k) ∧ match aTown c N with
    | .inl (k, p) => μ' 22 4 = zi k ∧ μ' 22 5 = zi p
    | .inr (_, D') => XD D' μ' ∧ μ' 22 4 = zi 0 ∧ DB D' := by
  have hN := hc.1
  unfold f3_readTown
  rw [zlet_e, zlet_e, zlet_e, zlet_e, show zmin (zi N) (500 : Int32) = zi N from by rw [show (500 : Int32) = zi 500 from rfl, zmin_i (by omega) (by decide), Nat.min_eq_left hN]]
  obtain ⟨μ1, e1, e2, e3⟩ := x_startAnew (μ := zset (zset (zset (zset μ 22 2 (zi N)) 22 3 (0 : Int32)) 22 4 (0 : Int32)) 22 5 (-1 : Int32))
  rw [e1, bnd0_ok]
  have fr : ∀ k, (k < 12 ∨ 22 < k) → μ1 k = μ k := fun k hk => by rw [e2 k (by omega), zset_nk (by omega), zset_nk (by omega), zset_nk (by omega), zset_nk (by omega)]
  have e22 := e2 22 (by decide)
  have t1 : tx c N μ1 := ⟨hN, fun j hj => by rw [fr 1 (by decide)]; exact hc.2 j hj⟩
  have a1 : xA N 0 μ1 := ⟨by rw [e22]; rfl, by rw [e22]; rfl, by omega⟩
  have g1 : μ1 22 4 = zi 0 := by rw [e22]; rfl
  rcases x_asks t1 a1 g1 e3 with ⟨k, p, μ2, i1, i2, i3, i4, i5⟩ | ⟨v, e, μ2, i1, i2, i3, i4, i5, i6, i7⟩
  · rw [i1, bnd0_ok, zlet_e]
    refine ⟨μ2, ?_, fun k hk => by rw [i2.1 k hk, fr k hk], ?_⟩
    · rw [f3_readTown_L42_zF_0]
    · rw [i3]; exact ⟨i4, i5⟩
  · rw [i1, bnd0_ok, zlet_e]
    obtain ⟨μ3, l1, l2, l3⟩ := x_loop (fun (μ28 : zMem) => some (0, μ28 22 4, μ28)) 40 1 e (D0 v) μ2 zF rfl (by unfold zF; omega) (i2.tx t1) i6 i7 i4 i5
    refine ⟨μ3, l1, fun k hk => by rw [l2.1 k hk, i2.1 k hk, fr k hk], ?_⟩
    rw [i3]
    exact l3
