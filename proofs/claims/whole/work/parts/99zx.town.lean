/-! THE PURE SIDE, 89: a TOWN's text, the reference reads a DOOR -/
def dE9 (d : Nat) (s : Int32) (m : zMem) : zRes := some (0, 0, zset (zset m (25 + d) 3 s) 3 2 (zset m (25 + d) 3 s 3 2 + (1 : Int32)))
def dT3 (d : Nat) (m : zMem) : zRes := bnd0 (f9_blanks m) (fun (_ : Int32) (μ16 : zMem) => if μ16 0 5 = 0 then bnd0 (f9_byteAt (μ16 0 4) μ16) (fun (v29 : Int32) (μ30 : zMem) => if v29 = (59 : Int32) then dE9 d (-1 : Int32) μ30 else bnd0 (f9_byteAt (μ30 0 4) μ30) (fun (v33 : Int32) (μ34 : zMem) => bnd0 (f9_isDigit v33 μ34) (fun (v35 : Int32) (μ36 : zMem) => if v35 = 0 then dE9 d (-1 : Int32) μ36 else bnd0 (f9_number (0 : Int32) (μ36 3 0 - (1 : Int32)) (-1 : Int32) μ36) (fun (v40 : Int32) (μ41 : zMem) => dE9 d v40 μ41)))) else dE9 d (-1 : Int32) μ16)
def dT2 (d : Nat) (m : zMem) : zRes := bnd0 (f9_number (0 : Int32) (29 : Int32) (-1 : Int32) m) (fun (v : Int32) (μ : zMem) => dT3 d (zset μ (25 + d) 2 v))
def dT1 (d : Nat) (m : zMem) : zRes := bnd0 (f9_number (1 : Int32) (240 : Int32) (-1 : Int32) m) (fun (v : Int32) (μ : zMem) => dT2 d (zset μ (25 + d) 1 v))
theorem m_door0 {d : Nat} {μ : zMem} (hd : d < 10) (h : μ 3 2 = zi d) : f9_readsDoor μ = bnd0 (f9_number (1 : Int32) (99 : Int32) (-1 : Int32) μ) (fun (v : Int32) (m : zMem) => dT1 d (zset m (25 + d) 0 v)) := by
  unfold f9_readsDoor
  simp only [z60, z62, z40, z41, z42, z43, tkn0, tkn1, tkn2, tkn3, h, zlet_e]
  rw [zin_i (by omega) (by omega), zi_cl (by omega)]
  rfl
theorem dT3_F {c : Nat → Nat} {N k p d : Nat} {μ M : zMem} (hd : d < 10) (hc : tx c N μ) (h2 : μ 0 2 = zi N) (h : mF k p μ M) : ∃ M', dT3 d M = some (0, zi 0, M') ∧ mF k p μ M' := by
  obtain ⟨M1, e1, e2⟩ := mF_blanks hc h2 h
  unfold dT3
  rw [e1, bnd0_ok, if_neg (mF_5 e2)]
  exact ⟨_, rfl, (e2.sd (by unfold dk9; omega)).sd (by unfold dk9; omega)⟩
theorem dT2_F {c : Nat → Nat} {N k p d : Nat} {μ M : zMem} (hd : d < 10) (hc : tx c N μ) (h2 : μ 0 2 = zi N) (h : mF k p μ M) : ∃ M', dT2 d M = some (0, zi 0, M') ∧ mF k p μ M' := by
  unfold dT2
  rw [mF_number h, bnd0_ok]
  exact dT3_F hd hc h2 (h.sd (by unfold dk9; omega))
theorem dT1_F {c : Nat → Nat} {N k p d : Nat} {μ M : zMem} (hd : d < 10) (hc : tx c N μ) (h2 : μ 0 2 = zi N) (h : mF k p μ M) : ∃ M', dT1 d M = some (0, zi 0, M') ∧ mF k p μ M' := by
  unfold dT1
  rw [mF_number h, bnd0_ok]
  exact dT2_F hd hc h2 (h.sd (by unfold dk9; omega))
theorem MD_door {D : zN2} {μ M : zMem} {w m u b : Nat} (hB : DB D) (hD : MD D μ) (hd : D 2 2 < 10) (hf : ∀ key, key ≠ 0 → key ≠ 25 + D 2 2 → M key = μ key) (h0 : M (25 + D 2 2) 0 = zi w) (h1 : M (25 + D 2 2) 1 = zi m) (h2 : M (25 + D 2 2) 2 = zi u) :
    MD (dDoor D w m u b) (zset (zset M (25 + D 2 2) 3 (abo b)) 3 2 (zi (D 2 2 + 1))) := by
  have hP := hB.1.2.1
  have r : ∀ k j, ¬ (k = 2 ∧ j = 2) → k ≠ 8 → k ≠ 9 → k ≠ 10 → k ≠ 11 → dDoor D w m u b k j = D k j := fun k j h1 h2 h3 h4 h5 => by unfold dDoor; rw [if_neg h1, if_neg (fun q => h2 q.1), if_neg (fun q => h3 q.1), if_neg (fun q => h4 q.1), if_neg (fun q => h5 q.1)]
  have r2 : ∀ j, j ≠ 2 → dDoor D w m u b 2 j = D 2 j := fun j hj => r 2 j (by omega) (by decide) (by decide) (by decide) (by decide)
  have rd : ∀ d, dDoor D w m u b 8 d = (if d = D 2 2 then w else D 8 d) ∧ dDoor D w m u b 9 d = (if d = D 2 2 then m else D 9 d) ∧ dDoor D w m u b 10 d = (if d = D 2 2 then u else D 10 d) ∧ dDoor D w m u b 11 d = (if d = D 2 2 then b else D 11 d) := fun d => by
    simp [dDoor]
  have g : ∀ key, key ≠ 0 → key ≠ 3 → key ≠ 25 + D 2 2 → zset (zset M (25 + D 2 2) 3 (abo b)) 3 2 (zi (D 2 2 + 1)) key = μ key := fun key h1 h2 h3 => by rw [zset_nk h2, zset_nk h3, hf key h1 h3]
  have g3 : ∀ j, j ≠ 2 → zset (zset M (25 + D 2 2) 3 (abo b)) 3 2 (zi (D 2 2 + 1)) 3 j = μ 3 j := fun j hj => by rw [zset_nj hj, zset_nk (by omega), hf 3 (by decide) (by omega)]
  obtain ⟨⟨D1, D2, D3, D4, D5, D6⟩, E2, E3, E4, E5⟩ := hD
  refine ⟨⟨?_, ?_, ?_, ?_, ?_, ?_⟩, fun i hi => ?_, fun p hp => ?_, fun p hp => ?_, fun d hd' => ?_⟩
  · rw [r2 0 (by decide), g3 0 (by decide)]; exact D1
  · rw [r2 1 (by decide), g3 1 (by decide)]; exact D2
  · rw [zset_eq]; rfl
  · rw [r2 3 (by decide), g3 3 (by decide)]; exact D4
  · rw [r2 4 (by decide), g3 4 (by decide)]; exact D5
  · rw [r2 5 (by decide), g3 5 (by decide)]; exact D6
  · rw [r2 5 (by decide)] at hi
    rw [r 3 i (by omega) (by decide) (by decide) (by decide) (by decide), g 46 (by decide) (by decide) (by omega)]; exact E2 i hi
  · rw [r2 1 (by decide)] at hp
    rw [r2 0 (by decide), r 5 p (by omega) (by decide) (by decide) (by decide) (by decide), r 6 p (by omega) (by decide) (by decide) (by decide) (by decide), g (6 + p) (by omega) (by omega) (by omega)]
    have e3 := E3 p hp
    exact ⟨e3.1, e3.2.1, fun q hq => by rw [r (20 + p) q (by omega) (by omega) (by omega) (by omega) (by omega)]; exact e3.2.2 q hq⟩
  · rw [r 7 p (by omega) (by decide) (by decide) (by decide) (by decide), g 48 (by decide) (by decide) (by omega)]; exact E4 p hp
  · have hd2 : d < D 2 2 + 1 := hd'
    obtain ⟨q1, q2, q3, q4⟩ := rd d
    rw [q1, q2, q3, q4]
    by_cases ed : d = D 2 2
    · rw [if_pos ed, if_pos ed, if_pos ed, if_pos ed, ed]
      exact ⟨by rw [zset_nk (by omega), zset_nj (by decide)]; exact h0, by rw [zset_nk (by omega), zset_nj (by decide)]; exact h1, by rw [zset_nk (by omega), zset_nj (by decide)]; exact h2, by rw [zset_nk (by omega), zset_eq]⟩
    · rw [if_neg ed, if_neg ed, if_neg ed, if_neg ed, g (25 + d) (by omega) (by omega) (by omega)]
      exact E5 d (by omega)
theorem m_door {c : Nat → Nat} {N a : Nat} {D : zN2} {μ : zMem} (hc : tx c N μ) (hA : mA N a μ) (h5 : μ 0 5 = zi 0) (hB : DB D) (hD : MD D μ) (hd : D 2 2 < 10) : ∃ μ', f9_readsDoor μ = some (0, zi 0, μ') ∧ mO (aDoor c N D a) μ μ' := by
  have hQ := hB.1.1
  have dk : dk9 (25 + D 2 2) := by unfold dk9; omega
  have dk' : dk9 3 := Or.inl rfl
  have n0 : (0 : Nat) ≠ 25 + D 2 2 := by omega
  rw [m_door0 hd hD.1.2.2.1]
  unfold aDoor
  rcases m_numD (lo := 1) (H := 100) (nt := 1000000) (x2 := (99 : Int32)) (x3 := (-1 : Int32)) mfr.refl hc hA.1 hA.2.2 hA.2.1 h5 (by decide) (hle rfl (by decide)) nt1 with ⟨k, p, x, M, i1, i2, i3⟩ | ⟨w, e1, i1, i2, w1, w2, w3, w4⟩
  · rw [show f9_number (1 : Int32) (99 : Int32) (-1 : Int32) μ = _ from i2, bnd0_ok]
    simp only [i1]
    exact dT1_F hd hc hA.1 (i3.sd dk)
  rw [show f9_number (1 : Int32) (99 : Int32) (-1 : Int32) μ = _ from i2, bnd0_ok]
  simp only [i1]
  have f1 : rfM μ (zset (zset μ 0 4 (zi e1)) (25 + D 2 2) 0 (zi w)) := (rfM.s4 mfr.refl).sd dk
  have a1 : zset (zset μ 0 4 (zi e1)) (25 + D 2 2) 0 (zi w) 0 4 = zi e1 := by rw [zset_nk n0, zset_eq]
  have g1 : zset (zset μ 0 4 (zi e1)) (25 + D 2 2) 0 (zi w) 0 5 = zi 0 := by rw [zset_nk n0, zset_nj (by decide)]; exact h5
  have k1 : ∀ key, key ≠ 0 → key ≠ 25 + D 2 2 → zset (zset μ 0 4 (zi e1)) (25 + D 2 2) 0 (zi w) key = μ key := fun key h1 h2 => by rw [zset_nk h2, zset_nk h1]
  have v1 : zset (zset μ 0 4 (zi e1)) (25 + D 2 2) 0 (zi w) (25 + D 2 2) 0 = zi w := zset_eq
  have s1 : zset (zset μ 0 4 (zi e1)) (25 + D 2 2) 0 (zi w) 0 6 = μ 0 6 := by rw [zset_nk n0, zset_nj (by decide)]
  generalize zset (zset μ 0 4 (zi e1)) (25 + D 2 2) 0 (zi w) = M1 at f1 a1 g1 k1 v1 s1 ⊢
  unfold dT1
  rcases m_numD (lo := 1) (H := 241) (nt := 1000000) (x2 := (240 : Int32)) (x3 := (-1 : Int32)) f1 hc hA.1 w4 a1 g1 (by decide) (hle rfl (by decide)) nt1 with ⟨k, p, x, M, i1, i2, i3⟩ | ⟨m, e2, i1, i2, m1, m2, m3, m4⟩
  · rw [show f9_number (1 : Int32) (240 : Int32) (-1 : Int32) M1 = _ from i2, bnd0_ok]
    simp only [i1]
    exact dT2_F hd hc hA.1 (i3.sd dk)
  rw [show f9_number (1 : Int32) (240 : Int32) (-1 : Int32) M1 = _ from i2, bnd0_ok]
  simp only [i1]
  have f2 : rfM μ (zset (zset M1 0 4 (zi e2)) (25 + D 2 2) 1 (zi m)) := f1.s4.sd dk
  have a2 : zset (zset M1 0 4 (zi e2)) (25 + D 2 2) 1 (zi m) 0 4 = zi e2 := by rw [zset_nk n0, zset_eq]
  have g2 : zset (zset M1 0 4 (zi e2)) (25 + D 2 2) 1 (zi m) 0 5 = zi 0 := by rw [zset_nk n0, zset_nj (by decide)]; exact g1
  have k2 : ∀ key, key ≠ 0 → key ≠ 25 + D 2 2 → zset (zset M1 0 4 (zi e2)) (25 + D 2 2) 1 (zi m) key = μ key := fun key h1 h2 => by rw [zset_nk h2, zset_nk h1, k1 key h1 h2]
  have v2 : zset (zset M1 0 4 (zi e2)) (25 + D 2 2) 1 (zi m) (25 + D 2 2) 0 = zi w ∧ zset (zset M1 0 4 (zi e2)) (25 + D 2 2) 1 (zi m) (25 + D 2 2) 1 = zi m := ⟨by rw [zset_nj (by decide), zset_nk (by omega)]; exact v1, zset_eq⟩
  have s2 : zset (zset M1 0 4 (zi e2)) (25 + D 2 2) 1 (zi m) 0 6 = μ 0 6 := by rw [zset_nk n0, zset_nj (by decide)]; exact s1
  generalize zset (zset M1 0 4 (zi e2)) (25 + D 2 2) 1 (zi m) = M2 at f2 a2 g2 k2 v2 s2 ⊢
  unfold dT2
  rcases m_numD (lo := 0) (H := 30) (nt := 1000000) (x2 := (29 : Int32)) (x3 := (-1 : Int32)) f2 hc hA.1 m4 a2 g2 (by decide) (hle rfl (by decide)) nt1 with ⟨k, p, x, M, i1, i2, i3⟩ | ⟨u, e3, i1, i2, u1, u2, u3, u4⟩
  · rw [show f9_number (0 : Int32) (29 : Int32) (-1 : Int32) M2 = _ from i2, bnd0_ok]
    simp only [i1]
    exact dT3_F hd hc hA.1 (i3.sd dk)
  rw [show f9_number (0 : Int32) (29 : Int32) (-1 : Int32) M2 = _ from i2, bnd0_ok]
  simp only [i1]
  have f3 : rfM μ (zset (zset M2 0 4 (zi e3)) (25 + D 2 2) 2 (zi u)) := f2.s4.sd dk
  have a3 : zset (zset M2 0 4 (zi e3)) (25 + D 2 2) 2 (zi u) 0 4 = zi e3 := by rw [zset_nk n0, zset_eq]
  have g3 : zset (zset M2 0 4 (zi e3)) (25 + D 2 2) 2 (zi u) 0 5 = zi 0 := by rw [zset_nk n0, zset_nj (by decide)]; exact g2
  have k3 : ∀ key, key ≠ 0 → key ≠ 25 + D 2 2 → zset (zset M2 0 4 (zi e3)) (25 + D 2 2) 2 (zi u) key = μ key := fun key h1 h2 => by rw [zset_nk h2, zset_nk h1, k2 key h1 h2]
  have v3 : zset (zset M2 0 4 (zi e3)) (25 + D 2 2) 2 (zi u) (25 + D 2 2) 0 = zi w ∧ zset (zset M2 0 4 (zi e3)) (25 + D 2 2) 2 (zi u) (25 + D 2 2) 1 = zi m ∧ zset (zset M2 0 4 (zi e3)) (25 + D 2 2) 2 (zi u) (25 + D 2 2) 2 = zi u := ⟨by rw [zset_nj (by decide), zset_nk (by omega)]; exact v2.1, by rw [zset_nj (by decide), zset_nk (by omega)]; exact v2.2, zset_eq⟩
  have s3 : zset (zset M2 0 4 (zi e3)) (25 + D 2 2) 2 (zi u) 0 6 = μ 0 6 := by rw [zset_nk n0, zset_nj (by decide)]; exact s2
  generalize zset (zset M2 0 4 (zi e3)) (25 + D 2 2) 2 (zi u) = M3 at f3 a3 g3 k3 v3 s3 ⊢
  have kb := bl9_sp (c := c) u4
  have t3 := f3.tx hc
  have hN := hc.1
  have e02 : M3 0 2 = zi N := by rw [f3.2 2 (by decide)]; exact hA.1
  unfold dT3
  rw [m_blanks t3 ⟨e02, a3, u4⟩, bnd0_ok]
  show ∃ μ', (if zset M3 0 4 (zi (bl9 c N e3)) 0 5 = 0 then bnd0 (f9_byteAt (zset M3 0 4 (zi (bl9 c N e3)) 0 4) (zset M3 0 4 (zi (bl9 c N e3)))) _ else _) = some (0, zi 0, μ') ∧ _
  have f4 : rfM μ (zset M3 0 4 (zi (bl9 c N e3))) := f3.s4
  have a4 : zset M3 0 4 (zi (bl9 c N e3)) 0 4 = zi (bl9 c N e3) := zset_eq
  have g4 : zset M3 0 4 (zi (bl9 c N e3)) 0 5 = zi 0 := by rw [zset_nj (by decide)]; exact g3
  have k4 : ∀ key, key ≠ 0 → key ≠ 25 + D 2 2 → zset M3 0 4 (zi (bl9 c N e3)) key = μ key := fun key h1 h2 => by rw [zset_nk h1, k3 key h1 h2]
  have v4 : zset M3 0 4 (zi (bl9 c N e3)) (25 + D 2 2) = M3 (25 + D 2 2) := zset_nk (by omega)
  have e42 : zset M3 0 4 (zi (bl9 c N e3)) 0 2 = zi N := by rw [zset_nj (by decide)]; exact e02
  have s4 : zset M3 0 4 (zi (bl9 c N e3)) 0 6 = μ 0 6 := by rw [zset_nj (by decide)]; exact s3
  generalize zset M3 0 4 (zi (bl9 c N e3)) = M4 at f4 a4 g4 k4 v4 e42 s4 ⊢
  have t4 := f4.tx hc
  have fin : ∀ (b e4 : Nat) (M5 : zMem), rfM μ M5 → (∀ key, key ≠ 0 → M5 key = M4 key) → M5 0 4 = zi e4 → M5 0 5 = zi 0 → M5 0 6 = μ 0 6 → ∃ μ', dE9 (D 2 2) (abo b) M5 = some (0, zi 0, μ') ∧ mO (.inr (e4, dDoor D w m u b)) μ μ' := fun b e4 M5 q1 q2 q3 q4 q5 => by
    refine ⟨zset (zset M5 (25 + D 2 2) 3 (abo b)) 3 2 (zi (D 2 2 + 1)), ?_, (q1.sd dk).sd dk', MD_door hB hD hd (fun key h1 h2 => by rw [q2 key h1, k4 key h1 h2]) (by rw [q2 _ (by omega), v4]; exact v3.1) (by rw [q2 _ (by omega), v4]; exact v3.2.1) (by rw [q2 _ (by omega), v4]; exact v3.2.2), by rw [zset_nk (by decide), zset_nk n0]; exact q3, by rw [zset_nk (by decide), zset_nk n0]; exact q4, by rw [zset_nk (by decide), zset_nk n0]; exact q5⟩
    unfold dE9
    rw [show zset M5 (25 + D 2 2) 3 (abo b) 3 2 + (1 : Int32) = zi (D 2 2 + 1) from by rw [zset_nk (by omega), q2 3 (by decide), k4 3 (by decide) (by omega), hD.1.2.2.1]; exact zi_add _ 1]
    rfl
  rw [if_pos (show M4 0 5 = (0 : Int32) from g4), a4, m_byteAt t4 e42 (by omega), bnd0_ok]
  unfold aAbo
  by_cases h59 : bl9 c N e3 < N ∧ c (bl9 c N e3) = 59
  · rw [if_pos (show byA c N (bl9 c N e3) = (59 : Int32) from by rw [show (59 : Int32) = zi 59 from rfl, byA_eq hc (by decide)]; exact h59)]
    have : ¬ (decide (bl9 c N e3 < N) && isD c (bl9 c N e3)) = true := by
      unfold isD; simp only [Bool.and_eq_true, decide_eq_true_eq]; omega
    simp only [if_neg this]
    exact fin 0 _ M4 f4 (fun _ _ => rfl) a4 g4 s4
  rw [if_neg (show ¬ byA c N (bl9 c N e3) = (59 : Int32) from by rw [show (59 : Int32) = zi 59 from rfl, byA_eq hc (by decide)]; exact h59), a4, m_byteAt t4 e42 (by omega), bnd0_ok, m_isDigit hc, bnd0_ok]
  cases hdg : (decide (bl9 c N e3 < N) && isD c (bl9 c N e3))
  · rw [if_pos (show zi (b01 false) = (0 : Int32) from rfl)]
    exact fin 0 _ M4 f4 (fun _ _ => rfl) a4 g4 s4
  · rw [if_neg (show ¬ zi (b01 true) = (0 : Int32) from by decide), k4 3 (by decide) (by omega), hD.1.1, if_pos rfl]
    rcases m_numD (lo := 0) (H := D 2 0) (nt := 1000000) (x2 := zi (D 2 0) - (1 : Int32)) (x3 := (-1 : Int32)) f4 hc hA.1 kb.2 a4 g4 (by decide) (hle rfl (by omega)) nt1 with ⟨k, p, x, M, i1, i2, i3⟩ | ⟨v, e4, i1, i2, u1', u2', u3', u4'⟩
    · rw [show f9_number (0 : Int32) (zi (D 2 0) - (1 : Int32)) (-1 : Int32) M4 = _ from i2, bnd0_ok]
      simp only [i1]
      exact ⟨_, rfl, (i3.sd dk).sd dk'⟩
    · rw [show f9_number (0 : Int32) (zi (D 2 0) - (1 : Int32)) (-1 : Int32) M4 = _ from i2, bnd0_ok]
      simp only [i1]
      exact fin (v + 1) e4 _ f4.s4 (fun key h => zset_nk h) zset_eq (by rw [zset_nj (by decide)]; exact g4) (by rw [zset_nj (by decide)]; exact s4)
