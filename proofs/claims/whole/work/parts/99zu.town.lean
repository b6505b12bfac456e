/-! THE PURE SIDE, 86: a TOWN's text, the reference reads -/
def MD (D : zN2) (μ : zMem) : Prop :=
  (μ 3 0 = zi (D 2 0) ∧ μ 3 1 = zi (D 2 1) ∧ μ 3 2 = zi (D 2 2) ∧ μ 3 3 = zi (D 2 3) ∧ μ 3 4 = zi (D 2 4) ∧ μ 3 5 = zi (D 2 5))
  ∧ (∀ i, i < D 2 5 → μ 46 i = zi (D 3 i)) ∧ (∀ p, p < D 2 1 → μ (6 + p) 4 = zi (D 5 p) ∧ μ (6 + p) 5 = zi (D 6 p) ∧ ∀ q, q < D 2 0 → μ (6 + p) q = zi (D (20 + p) q))
  ∧ (∀ p, p < 8 → μ 48 p = zi (D 7 p)) ∧ (∀ d, d < D 2 2 → μ (25 + d) 0 = zi (D 8 d) ∧ μ (25 + d) 1 = zi (D 9 d) ∧ μ (25 + d) 2 = zi (D 10 d) ∧ μ (25 + d) 3 = abo (D 11 d))
def dk9 (k : Nat) : Prop := k = 3 ∨ (6 ≤ k ∧ k < 14) ∨ (25 ≤ k ∧ k < 35) ∨ k = 46 ∨ k = 48
theorem MD_of {D : zN2} {μ μ' : zMem} (hB : DB D) (h : ∀ k, dk9 k → μ' k = μ k) (hD : MD D μ) : MD D μ' := by
  have hP := hB.1.2.1
  have hd := hB.1.2.2.1
  obtain ⟨h1, h2, h3, h4, h5⟩ := hD
  refine ⟨?_, fun i hi => ?_, fun p hp => ?_, fun p hp => ?_, fun d hd => ?_⟩
  · rw [h 3 (by unfold dk9; omega)]; exact h1
  · rw [h 46 (by unfold dk9; omega)]; exact h2 i hi
  · rw [h (6 + p) (by unfold dk9; omega)]; exact h3 p hp
  · rw [h 48 (by unfold dk9; omega)]; exact h4 p hp
  · rw [h (25 + d) (by unfold dk9; omega)]; exact h5 d hd
def rfM (μ μ' : zMem) : Prop := mfr (fun j => j = 4 ∨ j = 5 ∨ j = 6) (fun k => k = 2 ∨ dk9 k) μ μ'
theorem rfM.tx {c : Nat → Nat} {N : Nat} {μ μ' : zMem} (h : rfM μ μ') (hc : tx c N μ) : tx c N μ' := ⟨hc.1, fun j hj => by rw [h.1 1 (by decide) (by unfold dk9; omega)]; exact hc.2 j hj⟩
theorem rfM.s4 {μ μ' : zMem} {v : Int32} (h : rfM μ μ') : rfM μ (zset μ' 0 4 v) := h.set0 (Or.inl rfl)
theorem rfM.sd {μ μ' : zMem} {k j : Nat} {v : Int32} (h : rfM μ μ') (hk : dk9 k) : rfM μ (zset μ' k j v) := h.set (by unfold dk9 at hk; omega) (Or.inr hk)
/-- a fault is noted -/
def mF (k p : Nat) (μ M : zMem) : Prop := rfM μ M ∧ M 0 5 = zi k ∧ M 0 6 = zi p ∧ (∃ y, y ≤ 500 ∧ M 0 4 = zi y) ∧ 0 < k ∧ k < 10
theorem mF.sd {k p : Nat} {μ M : zMem} {k' j : Nat} {v : Int32} (h : mF k p μ M) (hk : dk9 k') : mF k p μ (zset M k' j v) := by
  obtain ⟨h1, h2, h3, ⟨y, h4, h5⟩, h6, h7⟩ := h
  have : (0 : Nat) ≠ k' := by unfold dk9 at hk; omega
  exact ⟨h1.sd hk, by rw [zset_nk this]; exact h2, by rw [zset_nk this]; exact h3, ⟨y, h4, by rw [zset_nk this]; exact h5⟩, h6, h7⟩
theorem mF_w {k p : Nat} {μ μ1 M : zMem} (h : rfM μ μ1) (hw : mW k p μ1 M) (hk : 0 < k ∧ k < 10) : mF k p μ M := by
  obtain ⟨y, hy, rfl⟩ := hw
  exact ⟨((h.set0 (Or.inl rfl)).set0 (Or.inr (Or.inl rfl))).set0 (Or.inr (Or.inr rfl)), by rw [zset_nj (by decide), zset_eq], zset_eq, ⟨y, hy, by rw [zset_nj (by decide), zset_nj (by decide), zset_eq]⟩, hk.1, hk.2⟩
theorem m_blanks5 {c : Nat → Nat} {N y : Nat} {μ : zMem} (hc : tx c N μ) (h2 : μ 0 2 = zi N) (h4 : μ 0 4 = zi y) (hy : y ≤ 500) : ∃ y', y' ≤ 500 ∧ f9_blanks μ = some (0, zi 0, zset μ 0 4 (zi y')) := by
  have hN := hc.1
  by_cases h : y ≤ N
  · have := bl9_sp (c := c) h
    exact ⟨bl9 c N y, by omega, m_blanks hc ⟨h2, h4, h⟩⟩
  · refine ⟨y, hy, ?_⟩
    unfold f9_blanks
    obtain ⟨n, hn⟩ : ∃ n, zF = n + 1 := ⟨999999, rfl⟩
    rw [hn, f9_blanks_L0, h4, m_byteAt hc h2 (by omega), bnd0_ok, if_neg (show ¬ byA c N y = (32 : Int32) from by rw [show (32 : Int32) = zi 32 from rfl, byA_eq hc (by decide)]; omega)]
    congr 3
    funext k j
    by_cases e : k = 0 ∧ j = 4
    · rw [e.1, e.2, zset_eq]; exact h4
    · rw [zset_at, if_neg e]
theorem mF_blanks {c : Nat → Nat} {N k p : Nat} {μ M : zMem} (hc : tx c N μ) (h2 : μ 0 2 = zi N) (h : mF k p μ M) : ∃ M', f9_blanks M = some (0, zi 0, M') ∧ mF k p μ M' := by
  obtain ⟨h1, h3, h4, ⟨y, h5, h6⟩, h7, h8⟩ := h
  obtain ⟨y', e1, e2⟩ := m_blanks5 (h1.tx hc) (by rw [h1.2 2 (by decide)]; exact h2) h6 h5
  exact ⟨_, e2, h1.s4, by rw [zset_nj (by decide)]; exact h3, by rw [zset_nj (by decide)]; exact h4, ⟨y', e1, zset_eq⟩, h7, h8⟩
theorem mF_number {k p : Nat} {μ M : zMem} {x1 x2 x3 : Int32} (h : mF k p μ M) : f9_number x1 x2 x3 M = some (0, zi 0, M) := m_number1 h.2.1 h.2.2.2.2.1 h.2.2.2.2.2
theorem mF_5 {k p : Nat} {μ M : zMem} (h : mF k p μ M) : ¬ M 0 5 = (0 : Int32) := by rw [h.2.1]; exact zne h.2.2.2.2.1 h.2.2.2.2.2
theorem m_numD {c : Nat → Nat} {N a lo H nt : Nat} {x2 x3 : Int32} {μ0 μ : zMem} (hf : rfM μ0 μ) (hc : tx c N μ0) (h02 : μ0 0 2 = zi N) (ha : a ≤ N) (h04 : μ 0 4 = zi a) (h5 : μ 0 5 = zi 0) (hlo : lo < 1000000) (hx2 : ∀ v, v ≤ 100000 → (zi v ≤ x2) = (v < H)) (hx3 : ∀ v, v ≤ 100000 → (zi v = x3) = (v = nt)) :
    (∃ k p x M, aNum c N lo H nt a = .inl (k, p) ∧ f9_number (zi lo) x2 x3 μ = some (0, x, M) ∧ mF k p μ0 M)
    ∨ (∃ v e, aNum c N lo H nt a = .inr (v, e) ∧ f9_number (zi lo) x2 x3 μ = some (0, zi v, zset μ 0 4 (zi e)) ∧ lo ≤ v ∧ v < H ∧ v ≤ 100000 ∧ e ≤ N) := by
  obtain ⟨x, M, n1, n2⟩ := m_number (hf.tx hc) ⟨by rw [hf.2 2 (by decide)]; exact h02, h04, ha⟩ h5 hlo hx2 hx3
  rcases hn : aNum c N lo H nt a with ⟨k, p⟩ | ⟨v, e⟩
  · rw [hn] at n2
    have hk := (aNum_l ha hn).1
    exact Or.inl ⟨k, p, x, M, rfl, n1, mF_w hf n2 (by omega)⟩
  · rw [hn] at n2
    obtain ⟨q1, q2, q3, q4, q5⟩ := aNum_r ha hn
    exact Or.inr ⟨v, e, rfl, by rw [n1, n2.1, n2.2], q1, q2, q4, q5⟩
theorem nt1 : ∀ v, v ≤ 100000 → (zi v = (-1 : Int32)) = (v = 1000000) := fun v hv => by
  apply propext
  constructor
  · intro h
    have h2 := congrArg Int32.toInt h
    rw [zi_int (by omega)] at h2
    have : (-1 : Int32).toInt = -1 := by decide
    omega
  · intro h; omega
theorem zl6 {k n : Nat} (h : k < n) (hn : n < 1000) {A : zRes} : zin (zi k) n A = A := zin_i h (by omega)
def mO (r : aS) (μ μ' : zMem) : Prop := match r with
  | .inl (k, p) => mF k p μ μ'
  | .inr (e, D') => rfM μ μ' ∧ MD D' μ' ∧ μ' 0 4 = zi e ∧ μ' 0 5 = zi 0 ∧ μ' 0 6 = μ 0 6
theorem m_perL {Q r : Nat} {μ : zMem} (hQ : Q ≤ 4) (hr : r ≠ 2 ∧ r ≠ 3 ∧ r ≠ 0) (h0 : μ 3 0 = zi Q) (h5 : μ 0 5 = zi 0) (K : zMem → zRes) :
    ∃ μ', f9_readsPerson_L33 r K zF (zi 0) μ = K μ' ∧ (∀ q, q < Q → μ' r q = μ 2 q) ∧ zfr (fun k => k = r) μ μ' := by
  obtain ⟨μ', e1, e2, e3⟩ := zloopE (L := fun n i (x : zMem) => f9_readsPerson_L33 r K n (zi i) x) (N := Q) (o := fun x => K x)
    (fun i x => (∀ q, q < i → x r q = μ 2 q) ∧ zfr (fun k => k = r) μ x)
    (fun n x hx => by
      show f9_readsPerson_L33 r K (n + 1) (zi Q) x = _
      rw [f9_readsPerson_L33, show (0 : Int32) = zi 0 from rfl, zl6 (by decide) (by decide), show (zi 0).toNatClampNeg = 0 from rfl, hx.2 3 (by omega), h0, if_pos (Int32.le_refl _)])
    (fun n i x hi hx => by
      obtain ⟨x1, x2⟩ := hx
      refine ⟨zset x r i (μ 2 i), ?_, fun q hq => ?_, x2.set rfl⟩
      · show f9_readsPerson_L33 r K (n + 1) (zi i) x = _
        rw [f9_readsPerson_L33, show zin (0 : Int32) 6 = zin (zi 0) 6 from rfl, zl6 (by decide) (by decide), show (0 : Int32).toNatClampNeg = 0 from rfl, x2 3 (by omega), h0, if_neg (show ¬ zi Q ≤ zi i from by rw [zi_le (by omega) (by omega)]; omega), x2 0 (by omega), h5, if_pos (show zi 0 = (0 : Int32) from rfl), zin_i (by omega) (by omega), zin_i (by omega) (by omega), zlet_e, zi_cl (by omega), x2 2 (by omega), show zi i + (1 : Int32) = zi (i + 1) from zi_add i 1]
      · by_cases e : q = i
        · rw [e, zset_eq]
        · rw [zset_nj e]; exact x1 q (by omega))
    Q 0 μ zF (by omega) (by unfold zF; omega) ⟨fun q hq => absurd hq (by omega), fun _ _ => rfl⟩
  exact ⟨μ', e1, e2, e3⟩
theorem m_perF {Q r k p : Nat} {μ0 μ : zMem} (hQ : 0 < Q) (hQ' : Q ≤ 4) (h0 : μ 3 0 = zi Q) (h5 : mF k p μ0 μ) (K : zMem → zRes) : f9_readsPerson_L33 r K zF (0 : Int32) μ = K μ := by
  obtain ⟨n, hn⟩ : ∃ n, zF = n + 1 := ⟨999999, rfl⟩
  rw [hn, f9_readsPerson_L33, show zin (0 : Int32) 6 = zin (zi 0) 6 from rfl, zl6 (by decide) (by decide), show (0 : Int32).toNatClampNeg = 0 from rfl, h0, if_neg (show ¬ zi Q ≤ (0 : Int32) from by rw [show (0 : Int32) = zi 0 from rfl, zi_le (by omega) (by omega)]; omega), if_neg (mF_5 h5)]
