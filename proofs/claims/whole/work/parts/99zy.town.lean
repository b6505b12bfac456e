/-! THE PURE SIDE, 90: a TOWN's text, the reference reads a clause -/
def clS (m : zMem) : zRes := bnd0 (f9_sign (59 : Int32) m) (fun (_ : Int32) (μ11 : zMem) => some (0, 0, μ11))
def clG (v1 s : Int32) (m : zMem) : zRes := zin (v1 - (1 : Int32)) 6 (zlet (zset m 3 (v1 - (1 : Int32)).toNatClampNeg s) (fun (μ24 : zMem) => clS μ24))
def clR (v1 : Int32) (m : zMem) : zRes := if v1 = 0 then bnd0 (f9_readsPerson m) (fun (_ : Int32) (μ39 : zMem) => clS μ39) else if (3 : Int32) ≤ v1 then if v1 = (3 : Int32) then bnd0 (f9_readsDoor m) (fun (_ : Int32) (μ35 : zMem) => clS μ35) else if v1 = (6 : Int32) then bnd0 (f9_readsSlate m) (fun (_ : Int32) (μ33 : zMem) => clS μ33) else if v1 = (4 : Int32) then bnd0 (f9_number (1 : Int32) (8 : Int32) (-1 : Int32) m) (fun (v30 : Int32) (μ31 : zMem) => clG v1 v30 μ31) else bnd0 (f9_number (30 : Int32) (999 : Int32) (-1 : Int32) m) (fun (v28 : Int32) (μ29 : zMem) => clG v1 v28 μ29) else bnd0 (f9_readsOf v1 m) (fun (_ : Int32) (μ37 : zMem) => clS μ37)
def clJ (v1 : Int32) (m : zMem) : zRes := if m 0 5 = 0 then bnd0 (f9_skipWord m) (fun (_ : Int32) (μ7 : zMem) => clR v1 (zset μ7 0 7 (μ7 0 7 + (1 : Int32)))) else some (0, 0, m)
theorem m_clause0 {μ : zMem} : f9_clause μ = bnd0 (f9_kindHere μ) (fun (v1 : Int32) (m : zMem) => if v1 = (-1 : Int32) then bnd0 (f9_wrong (1 : Int32) (m 0 4) m) (fun (_ : Int32) (m' : zMem) => clJ v1 m') else if m 0 7 = (40 : Int32) then bnd0 (f9_wrong (3 : Int32) (m 0 4) m) (fun (_ : Int32) (m' : zMem) => clJ v1 m') else if v1 = 0 then zin (1 : Int32) 6 (if m 3 (1 : Int32).toNatClampNeg = (8 : Int32) then bnd0 (f9_wrong (3 : Int32) (m 0 4) m) (fun (_ : Int32) (m' : zMem) => clJ v1 m') else if v1 = (3 : Int32) then zin (2 : Int32) 6 (if m 3 (2 : Int32).toNatClampNeg = (10 : Int32) then bnd0 (f9_wrong (3 : Int32) (m 0 4) m) (fun (_ : Int32) (m' : zMem) => clJ v1 m') else clJ v1 m) else clJ v1 m) else if v1 = (3 : Int32) then zin (2 : Int32) 6 (if m 3 (2 : Int32).toNatClampNeg = (10 : Int32) then bnd0 (f9_wrong (3 : Int32) (m 0 4) m) (fun (_ : Int32) (m' : zMem) => clJ v1 m') else clJ v1 m) else clJ v1 m) := rfl
/-- behind a clause stands a sign -/
def aAft (c : Nat → Nat) (N : Nat) (r : aS) : aS := match r with
  | .inl q => .inl q
  | .inr (e, D') => match aSemi c N e with
    | .inl q => .inl q
    | .inr (_, e2) => .inr (e2, D')
theorem aSemi_l {c : Nat → Nat} {N a k p : Nat} (hr : aSemi c N a = .inl (k, p)) : 0 < k ∧ k < 10 := by
  unfold aSemi at hr
  by_cases h1 : bl9 c N a < N ∧ c (bl9 c N a) = 59
  · rw [if_pos h1] at hr; exact absurd hr (by simp)
  · rw [if_neg h1] at hr
    simp only [Sum.inl.injEq, Prod.mk.injEq] at hr
    omega
theorem m_sgn {c : Nat → Nat} {N : Nat} {r : aS} {μ M : zMem} (hc : tx c N μ) (h2 : μ 0 2 = zi N) (h : mO r μ M) (hr : ∀ e D', r = .inr (e, D') → DB D' ∧ e ≤ N) : ∃ μ', clS M = some (0, zi 0, μ') ∧ mO (aAft c N r) μ μ' := by
  unfold clS
  rcases r with ⟨k, p⟩ | ⟨e, D'⟩
  · have h' : mF k p μ M := h
    rw [m_sign1 h'.2.1 h'.2.2.2.2.1 h'.2.2.2.2.2, bnd0_ok]
    exact ⟨M, rfl, h'⟩
  · obtain ⟨f1, g1, g2, g3, g4⟩ := h
    obtain ⟨hB, he⟩ := hr e D' rfl
    obtain ⟨μ2, s1, s2⟩ := m_sign (c := c) (N := N) (a := e) (f1.tx hc) ⟨by rw [f1.2 2 (by decide)]; exact h2, g2, he⟩ g3
    rw [s1, bnd0_ok]
    unfold aAft
    rcases h5 : aSemi c N e with ⟨k', p⟩ | ⟨v, e2⟩
    · rw [h5] at s2
      exact ⟨μ2, rfl, by simp only [h5]; exact mF_w f1 s2 (aSemi_l h5)⟩
    · rw [h5] at s2
      refine ⟨μ2, rfl, ?_⟩
      simp only [h5]
      rw [show μ2 = zset M 0 4 (zi e2) from s2]
      exact ⟨f1.s4, MD_of hB (fun k hk => zset_nk (by unfold dk9 at hk; omega)) g1, zset_eq, by rw [zset_nj (by decide)]; exact g3, by rw [zset_nj (by decide)]; exact g4⟩
theorem MD_nup {D : zN2} {μ : zMem} {j v : Nat} (hB : DB D) (hj : j = 3 ∨ j = 4) (hD : MD D μ) : MD (nup D 2 j v) (zset μ 3 j (zi v)) := by
  obtain ⟨⟨D1, D2, D3, D4, D5, D6⟩, E2, E3, E4, E5⟩ := hD
  have r : ∀ k i, k ≠ 2 → nup D 2 j v k i = D k i := fun k i hk => by rw [nup_nk hk]
  have r0 : nup D 2 j v 2 0 = D 2 0 := nup_nj (by omega)
  have r1 : nup D 2 j v 2 1 = D 2 1 := nup_nj (by omega)
  have r2 : nup D 2 j v 2 2 = D 2 2 := nup_nj (by omega)
  have r5 : nup D 2 j v 2 5 = D 2 5 := nup_nj (by omega)
  unfold MD
  rw [r0, r1, r2, r5]
  simp only [r 3 _ (by decide), r 5 _ (by decide), r 6 _ (by decide), r 7 _ (by decide), r 8 _ (by decide), r 9 _ (by decide), r 10 _ (by decide), r 11 _ (by decide)]
  refine ⟨⟨?_, ?_, ?_, ?_, ?_, ?_⟩, fun i hi => ?_, fun p' hp' => ?_, fun p' hp' => ?_, fun d hd => ?_⟩
  · rw [zset_nj (by omega)]; exact D1
  · rw [zset_nj (by omega)]; exact D2
  · rw [zset_nj (by omega)]; exact D3
  · rcases hj with rfl | rfl
    · rw [zset_eq, nup_eq]
    · rw [zset_nj (by decide), nup_nj (by decide)]; exact D4
  · rcases hj with rfl | rfl
    · rw [zset_nj (by decide), nup_nj (by decide)]; exact D5
    · rw [zset_eq, nup_eq]
  · rw [zset_nj (by omega)]; exact D6
  · rw [zset_nk (by decide)]; exact E2 i hi
  · rw [zset_nk (by omega)]
    have e3 := E3 p' hp'
    exact ⟨e3.1, e3.2.1, fun q hq => by rw [r (20 + p') q (by omega)]; exact e3.2.2 q hq⟩
  · rw [zset_nk (by decide)]; exact E4 p' hp'
  · rw [zset_nk (by omega)]; exact E5 d hd
theorem m_rest {c : Nat → Nat} {N a k : Nat} {D : zN2} {μ : zMem} (hc : tx c N μ) (hA : mA N a μ) (h5 : μ 0 5 = zi 0) (hB : DB D) (hD : MD D μ) (hk2 : 2 ≤ k) (hk : k ≤ 8) (hP : k = 2 → D 2 1 < 8) (hd : k = 5 → D 2 2 < 10) : ∃ μ', clR (zi (k - 2)) μ = some (0, zi 0, μ') ∧ mO (aAft c N (aRest c N D k a)) μ μ' := by
  have q : ∀ n, n < 9 → (zi (k - 2) = zi n) = (k - 2 = n) := fun n hn => zi_eq (by omega) (by omega)
  have hr : ∀ e D', aRest c N D k a = .inr (e, D') → DB D' ∧ e ≤ N := fun e D' h => DB_rest hB hA.2.2 hP hd h
  have dk' : dk9 3 := Or.inl rfl
  unfold clR
  simp only [show (zi (k - 2) = (0 : Int32)) = (k - 2 = 0) from q 0 (by decide), show (zi (k - 2) = (3 : Int32)) = (k - 2 = 3) from q 3 (by decide), show (zi (k - 2) = (4 : Int32)) = (k - 2 = 4) from q 4 (by decide), show (zi (k - 2) = (6 : Int32)) = (k - 2 = 6) from q 6 (by decide), show ((3 : Int32) ≤ zi (k - 2)) = (3 ≤ k - 2) from zi_le (a := 3) (by decide) (by omega)]
  by_cases h2 : k = 2
  · obtain ⟨M, e1, e2⟩ := m_person hc hA h5 hB hD (hP h2)
    rw [if_pos (by omega), e1, bnd0_ok]
    exact m_sgn hc hA.1 (by unfold aRest; rw [if_pos h2]; exact e2) hr
  rw [if_neg (by omega)]
  by_cases h3 : k = 3
  · obtain ⟨M, e1, e2⟩ := m_feigns hc hA h5 hB hD
    rw [if_neg (by omega), h3, show f9_readsOf (zi (3 - 2)) μ = _ from e1, bnd0_ok, ← h3]
    exact m_sgn hc hA.1 (by unfold aRest; rw [if_neg h2, if_pos h3]; exact e2) hr
  by_cases h4 : k = 4
  · obtain ⟨M, e1, e2⟩ := m_kin hc hA h5 hB hD
    rw [if_neg (by omega), h4, show f9_readsOf (zi (4 - 2)) μ = _ from e1, bnd0_ok, ← h4]
    exact m_sgn hc hA.1 (by unfold aRest; rw [if_neg h2, if_neg h3, if_pos h4]; exact e2) hr
  rw [if_pos (by omega)]
  by_cases h5' : k = 5
  · obtain ⟨M, e1, e2⟩ := m_door hc hA h5 hB hD (hd h5')
    rw [if_pos (by omega), e1, bnd0_ok]
    exact m_sgn hc hA.1 (by unfold aRest; rw [if_neg h2, if_neg h3, if_neg h4, if_pos h5']; exact e2) hr
  rw [if_neg (by omega)]
  by_cases h8 : k = 8
  · obtain ⟨M, e1, e2⟩ := m_slate hc hA h5 hB hD
    rw [if_pos (by omega), e1, bnd0_ok]
    exact m_sgn hc hA.1 (by unfold aRest; rw [if_neg h2, if_neg h3, if_neg h4, if_neg h5', if_neg (by omega), if_neg (by omega)]; exact e2) hr
  rw [if_neg (by omega)]
  have cg : ∀ s m, clG (zi (k - 2)) s m = clS (zset m 3 (k - 3) s) := fun s m => by
    unfold clG
    rw [show zi (k - 2) - (1 : Int32) = zi (k - 2 - 1) from zi_sub (a := k - 2) (b := 1) (by omega), zin_i (by omega) (by omega), zlet_e, zi_cl (by omega), show k - 2 - 1 = k - 3 from by omega]
  by_cases h6 : k = 6
  · rw [if_pos (by omega)]
    rcases m_numD (lo := 1) (H := 9) (nt := 1000000) (x2 := (8 : Int32)) (x3 := (-1 : Int32)) mfr.refl hc hA.1 hA.2.2 hA.2.1 h5 (by decide) (hle rfl (by decide)) nt1 with ⟨k', p, x, M, i1, i2, i3⟩ | ⟨w, e1, i1, i2, w1, w2, w3, w4⟩
    · rw [show f9_number (1 : Int32) (8 : Int32) (-1 : Int32) μ = _ from i2, bnd0_ok, cg]
      exact m_sgn hc hA.1 (by unfold aRest aGap; rw [if_neg h2, if_neg h3, if_neg h4, if_neg h5', if_pos h6, i1]; exact i3.sd dk') hr
    · rw [show f9_number (1 : Int32) (8 : Int32) (-1 : Int32) μ = _ from i2, bnd0_ok, cg]
      refine m_sgn hc hA.1 ?_ hr
      unfold aRest aGap
      rw [if_neg h2, if_neg h3, if_neg h4, if_neg h5', if_pos h6, i1, h6]
      exact ⟨(rfM.s4 mfr.refl).sd dk', MD_nup hB (Or.inl rfl) (MD_of hB (fun k hk => zset_nk (by unfold dk9 at hk; omega)) hD), by rw [zset_nk (by decide), zset_eq], by rw [zset_nk (by decide), zset_nj (by decide)]; exact h5, by rw [zset_nk (by decide), zset_nj (by decide)]⟩
  · have h7 : k = 7 := by omega
    rw [if_neg (by omega)]
    rcases m_numD (lo := 30) (H := 1000) (nt := 1000000) (x2 := (999 : Int32)) (x3 := (-1 : Int32)) mfr.refl hc hA.1 hA.2.2 hA.2.1 h5 (by decide) (hle rfl (by decide)) nt1 with ⟨k', p, x, M, i1, i2, i3⟩ | ⟨w, e1, i1, i2, w1, w2, w3, w4⟩
    · rw [show f9_number (30 : Int32) (999 : Int32) (-1 : Int32) μ = _ from i2, bnd0_ok, cg]
      exact m_sgn hc hA.1 (by unfold aRest aDay; rw [if_neg h2, if_neg h3, if_neg h4, if_neg h5', if_neg h6, if_pos h7, i1]; exact i3.sd dk') hr
    · rw [show f9_number (30 : Int32) (999 : Int32) (-1 : Int32) μ = _ from i2, bnd0_ok, cg]
      refine m_sgn hc hA.1 ?_ hr
      unfold aRest aDay
      rw [if_neg h2, if_neg h3, if_neg h4, if_neg h5', if_neg h6, if_pos h7, i1, h7]
      exact ⟨(rfM.s4 mfr.refl).sd dk', MD_nup hB (Or.inr rfl) (MD_of hB (fun k hk => zset_nk (by unfold dk9 at hk; omega)) hD), by rw [zset_nk (by decide), zset_eq], by rw [zset_nk (by decide), zset_nj (by decide)]; exact h5, by rw [zset_nk (by decide), zset_nj (by decide)]⟩
def rfC (μ μ' : zMem) : Prop := mfr (fun j => j = 4 ∨ j = 5 ∨ j = 6 ∨ j = 7) (fun k => k = 2 ∨ dk9 k) μ μ'
theorem rfM.c {μ μ' : zMem} (h : rfM μ μ') : rfC μ μ' := mfr.mono h (fun j hj => by omega) (fun _ hk => hk)
theorem rfC.tx {c : Nat → Nat} {N : Nat} {μ μ' : zMem} (h : rfC μ μ') (hc : tx c N μ) : tx c N μ' := ⟨hc.1, fun j hj => by rw [h.1 1 (by decide) (by unfold dk9; omega)]; exact hc.2 j hj⟩
def mC9 (r : aS) (n : Nat) (μ μ' : zMem) : Prop := rfC μ μ' ∧ match r with
  | .inl (k, p) => μ' 0 5 = zi k ∧ μ' 0 6 = zi p ∧ (∃ y, y ≤ 500 ∧ μ' 0 4 = zi y) ∧ 0 < k ∧ k < 10
  | .inr (e, D') => MD D' μ' ∧ μ' 0 4 = zi e ∧ μ' 0 5 = zi 0 ∧ μ' 0 6 = μ 0 6 ∧ μ' 0 7 = zi n
theorem zset_id {μ : zMem} {k j : Nat} {v : Int32} (h : μ k j = v) : zset μ k j v = μ := by
  funext k' j'
  by_cases e : k' = k ∧ j' = j
  · rw [e.1, e.2, zset_eq, h]
  · rw [zset_at, if_neg e]
theorem m_clause {c : Nat → Nat} {N a n : Nat} {D : zN2} {μ : zMem} (hc : tx c N μ) (hA : mA N a μ) (hb : bl9 c N a = a) (h5 : μ 0 5 = zi 0) (h7 : μ 0 7 = zi n) (hn : n ≤ 40) (hB : DB D) (hD : MD D μ) : ∃ μ', f9_clause μ = some (0, zi 0, μ') ∧ mC9 (aClause c N n D a) (n + 1) μ μ' := by
  have hN := hc.1
  have hw := we9_sp (c := c) hA.2.2
  have hP := hB.1.2.1
  have hd := hB.1.2.2.1
  have hk := wK_le (c := c) (b := a) (l := we9 c N a - a)
  rw [m_clause0, m_kindHere hc hA h5, bnd0_ok, hb, zset_id hA.2.1]
  have aft : aClause c N n D a = if wK c a (we9 c N a - a) < 2 then .inl (1, a) else if n = 40 ∨ (wK c a (we9 c N a - a) = 2 ∧ D 2 1 = 8) ∨ (wK c a (we9 c N a - a) = 5 ∧ D 2 2 = 10) then .inl (3, a) else aAft c N (aRest c N D (wK c a (we9 c N a - a)) (we9 c N a)) := rfl
  rw [aft]
  have hsk := m_skipWord hc hA
  generalize wK c a (we9 c N a - a) = k at hk ⊢
  have wr : ∀ m v, 0 < m → m < 10 → ∃ μ', bnd0 (f9_wrong (zi m) (μ 0 4) μ) (fun (_ : Int32) (m' : zMem) => clJ v m') = some (0, zi 0, μ') ∧ mC9 (.inl (m, a)) (n + 1) μ μ' := fun m v hm hm' => by
    rw [m_wrong0 h5, bnd0_ok]
    unfold clJ
    rw [show zset (zset μ 0 5 (zi m)) 0 6 (μ 0 4) 0 5 = zi m from by rw [zset_nj (by decide), zset_eq], if_neg (zne hm hm')]
    refine ⟨_, rfl, (mfr.refl.set0 (by decide)).set0 (by decide), by rw [zset_nj (by decide), zset_eq], by rw [zset_eq]; exact hA.2.1, ⟨a, by have := hA.2.2; omega, by rw [zset_nj (by decide), zset_nj (by decide)]; exact hA.2.1⟩, hm, hm'⟩
  by_cases h1 : k < 2
  · rw [show kR k = (-1 : Int32) from if_pos h1, if_pos (show (-1 : Int32) = -1 from rfl), if_pos h1]
    exact wr 1 _ (by decide) (by decide)
  have ek : kR k = zi (k - 2) := if_neg h1
  have q : ∀ n, n < 9 → (zi (k - 2) = zi n) = (k - 2 = n) := fun n hn => zi_eq (by omega) (by omega)
  rw [ek, if_neg (show ¬ zi (k - 2) = (-1 : Int32) from by rw [nt1 (k - 2) (by omega)]; omega), if_neg h1]
  simp only [z61, z62, tkn1, tkn2, h7, hD.1.2.1, hD.1.2.2.1, show (zi (k - 2) = (0 : Int32)) = (k - 2 = 0) from q 0 (by decide), show (zi (k - 2) = (3 : Int32)) = (k - 2 = 3) from q 3 (by decide), show (zi n = (40 : Int32)) = (n = 40) from zi_eq (b := 40) (by omega) (by decide), show (zi (D 2 1) = (8 : Int32)) = (D 2 1 = 8) from zi_eq (b := 8) (by omega) (by decide), show (zi (D 2 2) = (10 : Int32)) = (D 2 2 = 10) from zi_eq (b := 10) (by omega) (by decide)]
  by_cases h2 : n = 40 ∨ (k = 2 ∧ D 2 1 = 8) ∨ (k = 5 ∧ D 2 2 = 10)
  · rw [if_pos h2]
    by_cases n4 : n = 40
    · rw [if_pos n4]; exact wr 3 _ (by decide) (by decide)
    · rw [if_neg n4]
      by_cases k2 : k - 2 = 0
      · rw [if_pos k2, if_pos (show D 2 1 = 8 from by omega)]; exact wr 3 _ (by decide) (by decide)
      · rw [if_neg k2, if_pos (show k - 2 = 3 from by omega), if_pos (show D 2 2 = 10 from by omega)]; exact wr 3 _ (by decide) (by decide)
  rw [if_neg h2, if_neg (show ¬ n = 40 from by omega)]
  have go : ∃ μ', clJ (zi (k - 2)) μ = some (0, zi 0, μ') ∧ mC9 (aAft c N (aRest c N D k (we9 c N a))) (n + 1) μ μ' := by
    unfold clJ
    rw [if_pos (show μ 0 5 = (0 : Int32) from h5), hsk, bnd0_ok, show zset μ 0 4 (zi (we9 c N a)) 0 7 + (1 : Int32) = zi (n + 1) from by rw [zset_nj (by decide), h7]; exact zi_add n 1]
    have fc : rfC μ (zset (zset μ 0 4 (zi (we9 c N a))) 0 7 (zi (n + 1))) := (mfr.refl.set0 (by decide)).set0 (by decide)
    obtain ⟨μ', e1, e2⟩ := m_rest (k := k) (D := D) (fc.tx hc) (a := we9 c N a) ⟨by rw [zset_nj (by decide), zset_nj (by decide)]; exact hA.1, by rw [zset_nj (by decide), zset_eq], hw.2.1⟩ (by rw [zset_nj (by decide), zset_nj (by decide)]; exact h5) hB (MD_of hB (fun key hk => by rw [zset_nk (by unfold dk9 at hk; omega), zset_nk (by unfold dk9 at hk; omega)]) hD) (by omega) hk (by omega) (by omega)
    refine ⟨μ', e1, ?_⟩
    generalize aAft c N (aRest c N D k (we9 c N a)) = r at e2 ⊢
    rcases r with ⟨k', p⟩ | ⟨e, D'⟩
    · have e3 : mF k' p _ μ' := e2
      exact ⟨mfr.trans fc e3.1.c, e3.2⟩
    · obtain ⟨f1, f2, f3, f4, f5⟩ := e2
      exact ⟨mfr.trans fc f1.c, f2, f3, f4, by rw [f5, zset_nj (by decide), zset_nj (by decide)], by rw [f1.2 7 (by decide), zset_eq]⟩
  by_cases k2 : k - 2 = 0
  · rw [if_pos k2, if_neg (show ¬ D 2 1 = 8 from by omega), if_neg (show ¬ k - 2 = 3 from by omega)]
    exact go
  · rw [if_neg k2]
    by_cases k5 : k - 2 = 3
    · rw [if_pos k5, if_neg (show ¬ D 2 2 = 10 from by omega)]
      exact go
    · rw [if_neg k5]
      exact go
