/-! THE PURE SIDE, 91: a TOWN's text, the reference reads all -/
def mL9 (r : aS) (μ μ' : zMem) : Prop := rfC μ μ' ∧ match r with
  | .inl (k, p) => μ' 0 5 = zi k ∧ μ' 0 6 = zi p ∧ 0 < k ∧ k < 10
  | .inr (_, D') => MD D' μ' ∧ DB D' ∧ μ' 0 5 = zi 0 ∧ μ' 0 6 = μ 0 6
theorem m_L65F {K : zMem → zRes} {F k : Nat} {μ : zMem} (h : μ 0 5 = zi k) (hk : 0 < k) (hk' : k < 10) : f9_town_L65 K (F + 1) μ = K μ := by
  rw [f9_town_L65, h, if_neg (zne hk hk')]
theorem m_loop {c : Nat → Nat} {N : Nat} (K : zMem → zRes) : ∀ f n a D (μ : zMem) (F : Nat), n + f = 41 → 1 ≤ f → f + 1 ≤ F → tx c N μ → a ≤ N → μ 0 2 = zi N → μ 0 4 = zi (bl9 c N a) → μ 0 5 = zi 0 → μ 0 7 = zi n → DB D → MD D μ →
    ∃ μ', f9_town_L65 K F μ = K μ' ∧ mL9 (aLoop c N f n a D) μ μ'
  | 0, _, _, _, _, _, _, h, _, _, _, _, _, _, _, _, _ => absurd h (by decide)
  | f + 1, n, a, D, μ, F, hn, _, hF, hc, ha, h2, h4, h5, h7, hB, hD => by
    obtain ⟨F', rfl⟩ : ∃ F', F = F' + 2 := ⟨F - 2, by omega⟩
    have hN := hc.1
    have kb := bl9_sp (c := c) ha
    rw [f9_town_L65, if_pos (show μ 0 5 = (0 : Int32) from h5), h2, h4]
    unfold aLoop
    by_cases hb : bl9 c N a = N
    · rw [if_pos (show zi N ≤ zi (bl9 c N a) from by rw [zi_le (by omega) (by omega)]; omega), if_pos hb]
      exact ⟨μ, rfl, mfr.refl, hD, hB, h5, rfl⟩
    · rw [if_neg (show ¬ zi N ≤ zi (bl9 c N a) from by rw [zi_le (by omega) (by omega)]; omega), if_neg hb]
      obtain ⟨M, i1, f1, i2⟩ := m_clause (D := D) hc ⟨h2, h4, kb.2⟩ (bl9_id ha) h5 h7 (by omega) hB hD
      rw [i1, bnd0_ok]
      have h2M : M 0 2 = zi N := by rw [f1.2 2 (by decide)]; exact h2
      rcases h3 : aClause c N n D (bl9 c N a) with ⟨k', p⟩ | ⟨e, D'⟩
      · rw [h3] at i2
        obtain ⟨j1, j2, ⟨y, j3, j4⟩, j5, j6⟩ := i2
        obtain ⟨y', l1, l2⟩ := m_blanks5 (f1.tx hc) h2M j4 j3
        have e5 : zset M 0 4 (zi y') 0 5 = zi k' := by rw [zset_nj (by decide)]; exact j1
        rw [l2, bnd0_ok, m_L65F e5 j5 j6]
        exact ⟨_, rfl, mfr.set0 f1 (by decide), e5, by rw [zset_nj (by decide)]; exact j2, j5, j6⟩
      · rw [h3] at i2
        obtain ⟨g1, g2, g3⟩ := aClause_r hB kb.2 h3
        obtain ⟨j1, j2, j3, j4, j5⟩ := i2
        rw [m_blanks (f1.tx hc) ⟨h2M, j2, g2⟩, bnd0_ok]
        have f2 : rfC μ (zset M 0 4 (zi (bl9 c N e))) := mfr.set0 f1 (by decide)
        obtain ⟨μ', l1, l2, l3⟩ := m_loop K f (n + 1) e D' (zset M 0 4 (zi (bl9 c N e))) (F' + 1) (by omega) (by omega) (by omega) (f2.tx hc) g2 (by rw [zset_nj (by decide)]; exact h2M) zset_eq (by rw [zset_nj (by decide)]; exact j3) (by rw [zset_nj (by decide)]; exact j5) g1 (MD_of g1 (fun key hk => zset_nk (by unfold dk9 at hk; omega)) j1)
        refine ⟨μ', l1, mfr.trans f2 l2, ?_⟩
        dsimp only
        generalize aLoop c N f (n + 1) e D' = r at l3 ⊢
        rcases r with ⟨k', p⟩ | ⟨e', D''⟩
        · exact l3
        · exact ⟨l3.1, l3.2.1, l3.2.2.1, by rw [l3.2.2.2, zset_nj (by decide)]; exact j4⟩
theorem wK_1 {c : Nat → Nat} {b l : Nat} : wK c b l = 1 ↔ wIs 0 c b l = true := by
  unfold wK
  constructor
  · intro h
    by_cases e : wIs 0 c b l = true
    · exact e
    · rw [if_neg e] at h
      exfalso
      revert h
      (repeat' split) <;> omega
  · intro h; rw [if_pos h]
theorem m_asksL {μ : zMem} (K : zMem → zRes) : ∃ μ', f9_asks_L89 K zF (zi 0) μ = K μ' ∧ (∀ p, p < 8 → μ' 48 p = zi 0) ∧ zfr (fun k => k = 48) μ μ' := by
  obtain ⟨μ', e1, e2, e3⟩ := zloopE (L := fun F i (x : zMem) => f9_asks_L89 K F (zi i) x) (N := 8) (o := fun x => K x)
    (fun i x => (∀ q, q < i → x 48 q = zi 0) ∧ zfr (fun k => k = 48) μ x)
    (fun F x hx => by
      show f9_asks_L89 K (F + 1) (zi 8) x = _
      rw [f9_asks_L89, if_pos (show (8 : Int32) ≤ zi 8 from Int32.le_refl _)])
    (fun F i x hi hx => by
      obtain ⟨x1, x2⟩ := hx
      refine ⟨zset x 48 i (zi 0), ?_, fun q hq => ?_, x2.set rfl⟩
      · show f9_asks_L89 K (F + 1) (zi i) x = _
        rw [f9_asks_L89, if_neg (show ¬ (8 : Int32) ≤ zi i from by rw [show (8 : Int32) = zi 8 from rfl, zi_le (by omega) (by omega)]; omega), zin_i (by omega) (by omega), zlet_e, zi_cl (by omega), show zi i + (1 : Int32) = zi (i + 1) from zi_add i 1]
        rfl
      · by_cases e : q = i
        · rw [e, zset_eq]
        · rw [zset_nj e]; exact x1 q (by omega))
    8 0 μ zF (by omega) (by unfold zF; omega) ⟨fun q hq => absurd hq (by omega), fun _ _ => rfl⟩
  exact ⟨μ', e1, e2, e3⟩
def asM (v : Int32) (m : zMem) : zMem := zset (zset (zset (zset (zset (zset m 3 0 v) 3 1 (0 : Int32)) 3 2 (0 : Int32)) 3 3 (4 : Int32)) 3 4 (480 : Int32)) 3 5 (0 : Int32)
def asK (m : zMem) : zRes := bnd0 (f9_sign (59 : Int32) m) (fun (_ : Int32) (μ28 : zMem) => zlet (zset μ28 0 7 (1 : Int32)) (fun (μ29 : zMem) => some (0, 0, μ29)))
theorem m_asksN {c : Nat → Nat} {N : Nat} {μ M : zMem} {x : Int32} (hc : tx c N μ) (hA : mA N 0 μ) (h5 : μ 0 5 = zi 0) (hw : wIs 0 c (bl9 c N 0) (we9 c N (bl9 c N 0) - bl9 c N 0) = true) (hi : f9_number (1 : Int32) (4 : Int32) (-1 : Int32) (zset (zset μ 0 4 (zi (bl9 c N 0))) 0 4 (zi (we9 c N (bl9 c N 0)))) = some (0, x, M)) : f9_asks μ = f9_asks_L89 asK zF (0 : Int32) (asM x M) := by
  have kb := bl9_sp (c := c) hA.2.2
  have f1 : rfM μ (zset μ 0 4 (zi (bl9 c N 0))) := rfM.s4 mfr.refl
  have a1 : mA N (bl9 c N 0) (zset μ 0 4 (zi (bl9 c N 0))) := ⟨by rw [zset_nj (by decide)]; exact hA.1, zset_eq, kb.2⟩
  have g1 : zset μ 0 4 (zi (bl9 c N 0)) 0 5 = (0 : Int32) := by rw [zset_nj (by decide)]; exact h5
  unfold f9_asks
  simp only [z60, z61, z62, z63, z64, z65, tkn0, tkn1, tkn2, tkn3, tkn4, tkn5]
  rw [m_isWord (w := 0) (by decide) (fun μ => (nmC μ).1) hc hA h5, bnd0_ok, zlet_e, hw, if_neg (show ¬ zi (b01 true) = (0 : Int32) from by decide)]
  show (if zset μ 0 4 (zi (bl9 c N 0)) 0 5 = 0 then bnd0 (f9_skipWord _) _ else _) = _
  rw [if_pos g1, m_skipWord (f1.tx hc) a1, bnd0_ok, hi, bnd0_ok, zlet_e, zlet_e, zlet_e, zlet_e, zlet_e, zlet_e]
  unfold asK asM
  rfl
theorem m_asksW {c : Nat → Nat} {N : Nat} {μ : zMem} (hc : tx c N μ) (hA : mA N 0 μ) (h5 : μ 0 5 = zi 0) (hw : wIs 0 c (bl9 c N 0) (we9 c N (bl9 c N 0) - bl9 c N 0) = false) : f9_asks μ = some (0, zi 0, zset (zset (zset μ 0 4 (zi (bl9 c N 0))) 0 5 (1 : Int32)) 0 6 (zi (bl9 c N 0))) := by
  have g1 : zset μ 0 4 (zi (bl9 c N 0)) 0 5 = (0 : Int32) := by rw [zset_nj (by decide)]; exact h5
  unfold f9_asks
  rw [m_isWord (w := 0) (by decide) (fun μ => (nmC μ).1) hc hA h5, bnd0_ok, zlet_e, hw, if_pos (show zi (b01 false) = (0 : Int32) from rfl), m_wrong0 g1, bnd0_ok, zset_eq]
  show (if zset (zset (zset μ 0 4 (zi (bl9 c N 0))) 0 5 (1 : Int32)) 0 6 (zi (bl9 c N 0)) 0 5 = 0 then _ else _) = _
  rw [if_neg (show ¬ zset (zset (zset μ 0 4 (zi (bl9 c N 0))) 0 5 (1 : Int32)) 0 6 (zi (bl9 c N 0)) 0 5 = (0 : Int32) from by rw [zset_nj (by decide), zset_eq]; decide)]
  rfl
theorem asM_k {v : Int32} {m : zMem} {k : Nat} (h : k ≠ 3) : asM v m k = m k := by
  unfold asM
  rw [zset_nk h, zset_nk h, zset_nk h, zset_nk h, zset_nk h, zset_nk h]
theorem m_asks {c : Nat → Nat} {N : Nat} {μ : zMem} (hc : tx c N μ) (hA : mA N 0 μ) (h5 : μ 0 5 = zi 0) :
    (∃ k p M, f9_asks μ = some (0, zi 0, M) ∧ aTown c N = .inl (k, p) ∧ rfC μ M ∧ M 0 5 = zi k ∧ M 0 6 = zi p ∧ (∃ y, y ≤ 500 ∧ M 0 4 = zi y) ∧ 0 < k ∧ k < 10)
    ∨ (∃ v e M, f9_asks μ = some (0, zi 0, M) ∧ aTown c N = aLoop c N 40 1 e (D0 v) ∧ rfC μ M ∧ DB (D0 v) ∧ MD (D0 v) M ∧ M 0 4 = zi e ∧ e ≤ N ∧ M 0 5 = zi 0 ∧ M 0 6 = μ 0 6 ∧ M 0 7 = zi 1) := by
  have hN := hc.1
  have kb := bl9_sp (c := c) hA.2.2
  have kw := we9_sp (c := c) kb.2
  have dk3 : dk9 3 := Or.inl rfl
  have f1 : rfM μ (zset μ 0 4 (zi (bl9 c N 0))) := rfM.s4 mfr.refl
  have a1 : mA N (bl9 c N 0) (zset μ 0 4 (zi (bl9 c N 0))) := ⟨by rw [zset_nj (by decide)]; exact hA.1, zset_eq, kb.2⟩
  have g1 : zset μ 0 4 (zi (bl9 c N 0)) 0 5 = zi 0 := by rw [zset_nj (by decide)]; exact h5
  unfold aTown
  cases hw : wIs 0 c (bl9 c N 0) (we9 c N (bl9 c N 0) - bl9 c N 0)
  · rw [if_neg (fun q => by rw [wK_1, hw] at q; exact absurd q (by decide)), m_asksW hc hA h5 hw]
    exact Or.inl ⟨1, bl9 c N 0, _, rfl, rfl, ((mfr.refl.set0 (by decide)).set0 (by decide)).set0 (by decide), by rw [zset_nj (by decide), zset_eq]; rfl, zset_eq, ⟨bl9 c N 0, by omega, by rw [zset_nj (by decide), zset_nj (by decide), zset_eq]⟩, by decide, by decide⟩
  · rw [if_pos (wK_1.2 hw)]
    have f2 : rfM μ (zset (zset μ 0 4 (zi (bl9 c N 0))) 0 4 (zi (we9 c N (bl9 c N 0)))) := f1.s4
    rcases m_numD (lo := 1) (H := 5) (nt := 1000000) (x2 := (4 : Int32)) (x3 := (-1 : Int32)) f2 hc hA.1 kw.2.1 zset_eq (by rw [zset_nj (by decide)]; exact g1) (by decide) (hle rfl (by decide)) nt1 with ⟨k, p, x, M, i1, i2, i3⟩ | ⟨v, e, i1, i2, v1, v2, v3, v4⟩
    · rw [m_asksN hc hA h5 hw i2]
      simp only [i1]
      have i4 : mF k p μ (asM x M) := (((((i3.sd dk3).sd dk3).sd dk3).sd dk3).sd dk3).sd dk3
      obtain ⟨M2, l1, l2, l3⟩ := m_asksL (μ := asM x M) asK
      have e0 : M2 0 = asM x M 0 := l3 0 (by decide)
      refine Or.inl ⟨k, p, zset M2 0 7 (1 : Int32), (show f9_asks_L89 asK zF (0 : Int32) (asM x M) = asK M2 from l1).trans ?_, rfl, mfr.set0 ⟨fun key h1 h2 => ?_, fun j hj => ?_⟩ (by decide), by rw [zset_nj (by decide), e0]; exact i4.2.1, by rw [zset_nj (by decide), e0]; exact i4.2.2.1, ?_, i4.2.2.2.2.1, i4.2.2.2.2.2⟩
      · unfold asK
        rw [m_sign1 (n := k) (by rw [e0]; exact i4.2.1) i4.2.2.2.2.1 i4.2.2.2.2.2, bnd0_ok, zlet_e]
        rfl
      · rw [l3 key (by unfold dk9 at h2; omega)]; exact i4.1.1 key h1 h2
      · rw [e0]; exact i4.1.2 j (by omega)
      · obtain ⟨y, y1, y2⟩ := i4.2.2.2.1
        exact ⟨y, y1, by rw [zset_nj (by decide), e0]; exact y2⟩
    · rw [m_asksN hc hA h5 hw i2]
      simp only [i1]
      have f3 : rfM μ (zset (zset (zset μ 0 4 (zi (bl9 c N 0))) 0 4 (zi (we9 c N (bl9 c N 0)))) 0 4 (zi e)) := f2.s4
      have q6 : zset (zset (zset μ 0 4 (zi (bl9 c N 0))) 0 4 (zi (we9 c N (bl9 c N 0)))) 0 4 (zi e) 0 6 = μ 0 6 := by rw [zset_nj (by decide), zset_nj (by decide), zset_nj (by decide)]
      have q5 : zset (zset (zset μ 0 4 (zi (bl9 c N 0))) 0 4 (zi (we9 c N (bl9 c N 0)))) 0 4 (zi e) 0 5 = zi 0 := by rw [zset_nj (by decide), zset_nj (by decide)]; exact g1
      have q4 : zset (zset (zset μ 0 4 (zi (bl9 c N 0))) 0 4 (zi (we9 c N (bl9 c N 0)))) 0 4 (zi e) 0 4 = zi e := zset_eq
      generalize zset (zset (zset μ 0 4 (zi (bl9 c N 0))) 0 4 (zi (we9 c N (bl9 c N 0)))) 0 4 (zi e) = M at f3 q6 q5 q4 ⊢
      have f4 : rfM μ (asM (zi v) M) := (((((f3.sd dk3).sd dk3).sd dk3).sd dk3).sd dk3).sd dk3
      obtain ⟨M2, l1, l2, l3⟩ := m_asksL (μ := asM (zi v) M) asK
      have e0 : M2 0 = M 0 := by rw [l3 0 (by decide), asM_k (by decide)]
      have f5 : rfM μ M2 := ⟨fun key h1 h2 => by rw [l3 key (by unfold dk9 at h2; omega)]; exact f4.1 key h1 h2, fun j hj => by rw [e0]; exact f3.2 j hj⟩
      have e3 : M2 3 = asM (zi v) M 3 := l3 3 (by decide)
      have md : MD (D0 v) M2 := by
        refine ⟨?_, fun i hi => absurd (show i < 0 from hi) (by omega), fun p hp => absurd (show p < 0 from hp) (by omega), fun p hp => ?_, fun d hd => absurd (show d < 0 from hd) (by omega)⟩
        · rw [e3]; exact ⟨rfl, rfl, rfl, rfl, rfl, rfl⟩
        · rw [l2 p hp, D0_z (by decide) (by decide) (by decide)]
      have hB0 := DB_0 v1 v2
      obtain ⟨M3, s1, s2⟩ := m_sign (c := c) (N := N) (a := e) (f5.tx hc) ⟨by rw [f5.2 2 (by decide)]; exact hA.1, by rw [e0]; exact q4, v4⟩ (by rw [e0]; exact q5)
      have run : f9_asks_L89 asK zF (0 : Int32) (asM (zi v) M) = some (0, zi 0, zset M3 0 7 (1 : Int32)) := by
        refine (show f9_asks_L89 asK zF (0 : Int32) (asM (zi v) M) = asK M2 from l1).trans ?_
        unfold asK
        rw [s1, bnd0_ok, zlet_e]
        rfl
      rw [run]
      rcases h6 : aSemi c N e with ⟨k', p⟩ | ⟨v', e2⟩
      · rw [h6] at s2
        have i4 : mF k' p μ M3 := mF_w f5 s2 (aSemi_l h6)
        simp only [h6]
        refine Or.inl ⟨k', p, _, rfl, rfl, mfr.set0 i4.1.c (by decide), by rw [zset_nj (by decide)]; exact i4.2.1, by rw [zset_nj (by decide)]; exact i4.2.2.1, ?_, i4.2.2.2.2.1, i4.2.2.2.2.2⟩
        obtain ⟨y, y1, y2⟩ := i4.2.2.2.1
        exact ⟨y, y1, by rw [zset_nj (by decide)]; exact y2⟩
      · rw [h6] at s2
        have s3 : M3 = zset M2 0 4 (zi e2) := s2
        simp only [h6]
        rw [s3]
        exact Or.inr ⟨v, e2, _, rfl, rfl, mfr.set0 (mfr.set0 f5.c (by decide)) (by decide), hB0, MD_of hB0 (fun key hk => by rw [zset_nk (by unfold dk9 at hk; omega), zset_nk (by unfold dk9 at hk; omega)]) md, by rw [zset_nj (by decide), zset_eq], aSemi_r v4 h6, by rw [zset_nj (by decide), zset_nj (by decide), e0]; exact q5, by rw [zset_nj (by decide), zset_nj (by decide), e0]; exact q6, by rw [zset_eq]; rfl⟩
theorem m_parse {c : Nat → Nat} {N : Nat} {μ : zMem} (hc : tx c N μ) (hA : mA N 0 μ) (h5 : μ 0 5 = zi 0) (K : zMem → zRes) : ∃ μ', bnd0 (f9_asks μ) (fun (_ : Int32) (μ15 : zMem) => bnd0 (f9_blanks μ15) (fun (_ : Int32) (μ17 : zMem) => zlet K (fun j84 => f9_town_L65 (fun (μ93 : zMem) => j84 μ93) zF μ17))) = K μ' ∧ mL9 (aTown c N) μ μ' := by
  rcases m_asks hc hA h5 with ⟨k, p, M, i1, i2, f1, i3, i4, ⟨y, y1, y2⟩, i5, i6⟩ | ⟨v, e, M, i1, i2, f1, hB, hD, i3, i4, i5, i6, i7⟩
  · rw [i1, bnd0_ok]
    obtain ⟨y', l1, l2⟩ := m_blanks5 (f1.tx hc) (by rw [f1.2 2 (by decide)]; exact hA.1) y2 y1
    rw [l2, bnd0_ok, zlet_e]
    have e5 : zset M 0 4 (zi y') 0 5 = zi k := by rw [zset_nj (by decide)]; exact i3
    refine ⟨zset M 0 4 (zi y'), ?_, ?_⟩
    · obtain ⟨n, hn⟩ : ∃ n, zF = n + 1 := ⟨999999, rfl⟩
      rw [hn]
      exact m_L65F e5 i5 i6
    · rw [i2]
      exact ⟨mfr.set0 f1 (by decide), e5, by rw [zset_nj (by decide)]; exact i4, i5, i6⟩
  · rw [i1, bnd0_ok, m_blanks (f1.tx hc) ⟨by rw [f1.2 2 (by decide)]; exact hA.1, i3, i4⟩, bnd0_ok, zlet_e]
    have f2 : rfC μ (zset M 0 4 (zi (bl9 c N e))) := mfr.set0 f1 (by decide)
    obtain ⟨μ', l1, l2, l3⟩ := m_loop K 40 1 e (D0 v) (zset M 0 4 (zi (bl9 c N e))) zF rfl (by decide) (by unfold zF; omega) (f2.tx hc) i4 (by rw [zset_nj (by decide), f1.2 2 (by decide)]; exact hA.1) zset_eq (by rw [zset_nj (by decide)]; exact i5) (by rw [zset_nj (by decide)]; exact i7) hB (MD_of hB (fun key hk => zset_nk (by unfold dk9 at hk; omega)) hD)
    refine ⟨μ', l1, mfr.trans f2 l2, ?_⟩
    rw [i2]
    generalize aLoop c N 40 1 e (D0 v) = r at l3 ⊢
    rcases r with ⟨k', p⟩ | ⟨e', D''⟩
    · exact l3
    · exact ⟨l3.1, l3.2.1, l3.2.2.1, by rw [l3.2.2.2, zset_nj (by decide)]; exact i6⟩
