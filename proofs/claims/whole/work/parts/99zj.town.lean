/-! THE PURE SIDE, 75: a TOWN's text, its first words -/
/-- on from a place, as long as p holds, to n at most -/
def adv (p : Nat → Bool) (N : Nat) : Nat → Nat → Nat
  | 0, a => a
  | k + 1, a => if a < N ∧ p a = true then adv p N k (a + 1) else a
def advN (p : Nat → Bool) (N a : Nat) : Nat := adv p N (N - a) a
theorem adv_sp {p : Nat → Bool} {N : Nat} : ∀ k a, a ≤ N → N ≤ a + k → a ≤ adv p N k a ∧ adv p N k a ≤ N ∧ (∀ j, a ≤ j → j < adv p N k a → p j = true) ∧ (adv p N k a = N ∨ p (adv p N k a) = false)
  | 0, a, h1, h2 => ⟨Nat.le_refl _, h1, fun j h3 h4 => by have : j < a := h4; omega, Or.inl (by show a = N; omega)⟩
  | k + 1, a, h1, h2 => by
    by_cases c : a < N ∧ p a = true
    · rw [show adv p N (k + 1) a = adv p N k (a + 1) from if_pos c]
      obtain ⟨a1, a2, a3, a4⟩ := adv_sp (p := p) (N := N) k (a + 1) (by omega) (by omega)
      refine ⟨by omega, a2, fun j h3 h4 => ?_, a4⟩
      by_cases e : j = a
      · rw [e]; exact c.2
      · exact a3 j (by omega) h4
    · rw [show adv p N (k + 1) a = a from if_neg c]
      refine ⟨Nat.le_refl _, h1, fun j h3 h4 => by omega, ?_⟩
      by_cases e : a = N
      · exact Or.inl e
      · right
        cases hp : p a
        · rfl
        · exact absurd ⟨by omega, hp⟩ c
theorem advN_sp {p : Nat → Bool} {N a : Nat} (h : a ≤ N) : a ≤ advN p N a ∧ advN p N a ≤ N ∧ (∀ j, a ≤ j → j < advN p N a → p j = true) ∧ (advN p N a = N ∨ p (advN p N a) = false) := adv_sp (N - a) a h (by omega)
theorem advN_eq {p : Nat → Bool} {N a e : Nat} (h : a ≤ e) (hN : e ≤ N) (h1 : ∀ j, a ≤ j → j < e → p j = true) (h2 : e = N ∨ p e = false) : advN p N a = e := by
  obtain ⟨a1, a2, a3, a4⟩ := advN_sp (p := p) (N := N) (a := a) (by omega)
  rcases Nat.lt_trichotomy (advN p N a) e with c | c | c
  · have := h1 _ a1 c
    rcases a4 with q | q
    · omega
    · rw [this] at q; exact absurd q (by decide)
  · exact c
  · have := a3 e h c
    rcases h2 with q | q
    · omega
    · rw [this] at q; exact absurd q (by decide)
theorem zset_zset {m : zMem} {k j : Nat} {v w : Int32} : zset (zset m k j v) k j w = zset m k j w := by
  funext k' j'
  rw [zset_at, zset_at, zset_at]
  by_cases c : k' = k ∧ j' = j
  · rw [if_pos c, if_pos c]
  · rw [if_neg c, if_neg c, if_neg c]
def isB (c : Nat → Nat) (j : Nat) : Bool := decide (c j = 32)
def isD (c : Nat → Nat) (j : Nat) : Bool := decide (48 ≤ c j ∧ c j ≤ 57)
def isL (c : Nat → Nat) (j : Nat) : Bool := decide (97 ≤ c j ∧ c j ≤ 122)
/-- the text lies in key 1 -/
def tx (c : Nat → Nat) (N : Nat) (μ : zMem) : Prop := N ≤ 500 ∧ ∀ j, j < N → c j < 256 ∧ μ 1 j = zi (c j)
/-! the class: place in slot 3 of key 22, end in slot 2 -/
def xA (N a : Nat) (μ : zMem) : Prop := μ 22 2 = zi N ∧ μ 22 3 = zi a ∧ a ≤ N
theorem tx_22 {c : Nat → Nat} {N j : Nat} {v : Int32} {μ : zMem} (h : tx c N μ) : tx c N (zset μ 22 j v) := ⟨h.1, fun i hi => by rw [zset_nk (by decide)]; exact h.2 i hi⟩
theorem x_blanks {c : Nat → Nat} {N a : Nat} {μ : zMem} (hc : tx c N μ) (hA : xA N a μ) : f3_skipBlanks μ = some (0, zi 0, zset μ 22 3 (zi (advN (isB c) N a))) := by
  obtain ⟨A1, A2, A3⟩ := hA
  have hN := hc.1
  have h := zloopQ (L := fun n i (_ : Unit) => f3_skipBlanks_L0 (fun (μ9 : zMem) => (fun (μ1 : zMem) => some (0, 0, μ1)) μ9) n (zset μ 22 3 (zi i))) (N := N) (fun r => r = some (0, zi 0, zset μ 22 3 (zi (advN (isB c) N a)))) (fun i _ => a ≤ i ∧ ∀ j, a ≤ j → j < i → isB c j = true)
    (fun n _ hi => by
      show f3_skipBlanks_L0 _ (n + 1) (zset μ 22 3 (zi N)) = _
      rw [f3_skipBlanks_L0, zset_eq, zset_nj (by decide), A1, if_pos (Int32.le_refl _), advN_eq hi.1 (Nat.le_refl _) hi.2 (Or.inl rfl)]; rfl)
    (fun n i _ hi hI => by
      have hb : (zi (c i) = (32 : Int32)) = (c i = 32) := zi_eq (b := 32) (by have := (hc.2 i hi).1; omega) (by decide)
      have hq : f3_skipBlanks_L0 (fun (μ9 : zMem) => (fun (μ1 : zMem) => some (0, 0, μ1)) μ9) (n + 1) (zset μ 22 3 (zi i)) = if c i = 32 then f3_skipBlanks_L0 (fun (μ9 : zMem) => (fun (μ1 : zMem) => some (0, 0, μ1)) μ9) n (zset μ 22 3 (zi (i + 1))) else some (0, 0, zset μ 22 3 (zi i)) := by
        rw [f3_skipBlanks_L0, zset_eq, zset_nj (by decide), A1, if_neg (show ¬ zi N ≤ zi i from by rw [zi_le (by omega) (by omega)]; omega), zin_i (by omega) (by omega), zi_cl (by omega), zset_nk (by decide), (hc.2 i hi).2, zlet_e, zset_zset, show zi i + (1 : Int32) = zi (i + 1) from zi_add i 1]
        by_cases e : c i = 32
        · rw [if_pos (by rw [hb]; exact e), if_pos e]
        · rw [if_neg (by rw [hb]; exact e), if_neg e]
      by_cases e : c i = 32
      · right
        refine ⟨(), ?_, by omega, fun j h1 h2 => ?_⟩
        · show f3_skipBlanks_L0 _ (n + 1) (zset μ 22 3 (zi i)) = _
          rw [hq, if_pos e]
        · by_cases ej : j = i
          · rw [ej]; exact decide_eq_true e
          · exact hI.2 j h1 (by omega)
      · left
        show f3_skipBlanks_L0 _ (n + 1) (zset μ 22 3 (zi i)) = _
        rw [hq, if_neg e, advN_eq hI.1 (by omega) hI.2 (Or.inr (decide_eq_false e))]; rfl)
    (N - a) a () zF (by omega) (by unfold zF; omega) ⟨Nat.le_refl _, fun j h1 h2 => absurd h2 (by omega)⟩
  rw [zset_same A2] at h
  unfold f3_skipBlanks
  rw [zlet_e]; exact h
theorem x_standsDigit {c : Nat → Nat} {N a : Nat} {μ : zMem} (hc : tx c N μ) (hA : xA N a μ) : f3_standsDigit μ = some (0, zi (b01 (decide (a < N) && isD c a)), μ) := by
  obtain ⟨A1, A2, A3⟩ := hA
  have hN := hc.1
  have b0 : ∀ A, zbl (0 : Int32) A = A := fun A => zbl_0
  have b1 : ∀ A, zbl (1 : Int32) A = A := fun A => zbl_1
  unfold f3_standsDigit
  rw [zlet_e, zlet_e, A1, A2]
  by_cases h : a < N
  · have hb := (hc.2 a h).1
    rw [if_neg (show ¬ zi N ≤ zi a from by rw [zi_le (by omega) (by omega)]; omega), zin_i (by omega) (by omega), zin_i (by omega) (by omega), zi_cl (by omega), (hc.2 a h).2, decide_eq_true h, Bool.true_and]
    by_cases c1 : c a < 48
    · rw [if_pos (show zi (c a) < (48 : Int32) from by rw [show (48 : Int32) = zi 48 from rfl, zi_lt (by omega) (by omega)]; exact c1)]
      show zbl (0 : Int32) _ = _
      rw [b0, show isD c a = false from decide_eq_false (fun q => by omega)]; rfl
    · rw [if_neg (show ¬ zi (c a) < (48 : Int32) from by rw [show (48 : Int32) = zi 48 from rfl, zi_lt (by omega) (by omega)]; exact c1)]
      by_cases c2 : 57 < c a
      · rw [if_pos (show (57 : Int32) < zi (c a) from by rw [show (57 : Int32) = zi 57 from rfl, zi_lt (by omega) (by omega)]; exact c2)]
        show zbl (0 : Int32) _ = _
        rw [b0, show isD c a = false from decide_eq_false (fun q => by omega)]; rfl
      · rw [if_neg (show ¬ (57 : Int32) < zi (c a) from by rw [show (57 : Int32) = zi 57 from rfl, zi_lt (by omega) (by omega)]; exact c2)]
        show zbl (1 : Int32) _ = _
        rw [b1, show isD c a = true from decide_eq_true (by omega)]; rfl
  · rw [if_pos (show zi N ≤ zi a from by rw [zi_le (by omega) (by omega)]; omega), decide_eq_false h, Bool.false_and]
    show zbl (0 : Int32) _ = _
    rw [b0]; rfl
theorem x_digL {c : Nat → Nat} {N a : Nat} {μ : zMem} (hc : tx c N μ) (hA : xA N a μ) (K : zMem → zRes) : f3_readDigits_L9 K zF μ = K (zset μ 22 3 (zi (advN (isD c) N a))) := by
  obtain ⟨A1, A2, A3⟩ := hA
  have hN := hc.1
  have h := zloopQ (L := fun n i (_ : Unit) => f3_readDigits_L9 K n (zset μ 22 3 (zi i))) (N := N) (fun r => r = K (zset μ 22 3 (zi (advN (isD c) N a)))) (fun i _ => a ≤ i ∧ ∀ j, a ≤ j → j < i → isD c j = true)
    (fun n _ hi => by
      show f3_readDigits_L9 K (n + 1) (zset μ 22 3 (zi N)) = _
      rw [f3_readDigits_L9, zset_eq, zset_nj (by decide), A1, if_pos (Int32.le_refl _), advN_eq hi.1 (Nat.le_refl _) hi.2 (Or.inl rfl)])
    (fun n i _ hi hI => by
      have hs := x_standsDigit (a := i) (μ := zset μ 22 3 (zi i)) (tx_22 hc) ⟨by rw [zset_nj (by decide)]; exact A1, zset_eq, by omega⟩
      rw [decide_eq_true hi, Bool.true_and] at hs
      have hq : f3_readDigits_L9 K (n + 1) (zset μ 22 3 (zi i)) = if zi (b01 (isD c i)) = 0 then K (zset μ 22 3 (zi i)) else f3_readDigits_L9 K n (zset μ 22 3 (zi (i + 1))) := by
        rw [f3_readDigits_L9, hs, bnd0_ok, zset_eq, zset_nj (by decide), A1, if_neg (show ¬ zi N ≤ zi i from by rw [zi_le (by omega) (by omega)]; omega), zlet_e, zset_zset, show zi i + (1 : Int32) = zi (i + 1) from zi_add i 1]
      cases e : isD c i
      · left
        show f3_readDigits_L9 K (n + 1) (zset μ 22 3 (zi i)) = _
        rw [hq, e, if_pos (show zi (b01 false) = (0 : Int32) from rfl), advN_eq hI.1 (by omega) hI.2 (Or.inr e)]
      · right
        refine ⟨(), ?_, by omega, fun j h1 h2 => ?_⟩
        · show f3_readDigits_L9 K (n + 1) (zset μ 22 3 (zi i)) = _
          rw [hq, e, if_neg (show ¬ zi (b01 true) = (0 : Int32) from by decide)]
        · by_cases ej : j = i
          · rw [ej]; exact e
          · exact hI.2 j h1 (by omega))
    (N - a) a () zF (by omega) (by unfold zF; omega) ⟨Nat.le_refl _, fun j h1 h2 => absurd h2 (by omega)⟩
  rw [zset_same A2] at h
  exact h
/-! the reference: place in slot 4 of key 0, end in slot 2 -/
def mA (N a : Nat) (μ : zMem) : Prop := μ 0 2 = zi N ∧ μ 0 4 = zi a ∧ a ≤ N
theorem tx_0 {c : Nat → Nat} {N j : Nat} {v : Int32} {μ : zMem} (h : tx c N μ) : tx c N (zset μ 0 j v) := ⟨h.1, fun i hi => by rw [zset_nk (by decide)]; exact h.2 i hi⟩
/-- a byte, or -1 behind the end -/
def byA (c : Nat → Nat) (N a : Nat) : Int32 := if a < N then zi (c a) else zN1
theorem m_byteAt {c : Nat → Nat} {N a : Nat} {μ : zMem} (hc : tx c N μ) (h2 : μ 0 2 = zi N) (ha : a < 1000000) : f9_byteAt (zi a) μ = some (0, byA c N a, μ) := by
  have hN := hc.1
  unfold f9_byteAt byA
  rw [zlet_e, h2]
  by_cases h : a < N
  · rw [if_pos (by rw [zi_lt (by omega) (by omega)]; exact h), if_pos h, zin_i (by omega) (by omega), zi_cl (by omega), (hc.2 a h).2]
  · rw [if_neg (by rw [zi_lt (by omega) (by omega)]; exact h), if_neg h]; rfl
theorem byA_eq {c : Nat → Nat} {N a k : Nat} {μ : zMem} (hc : tx c N μ) (hk : k < 256) : (byA c N a = zi k) = (a < N ∧ c a = k) := by
  apply propext
  unfold byA
  by_cases h : a < N
  · rw [if_pos h, zi_eq (by have := (hc.2 a h).1; omega) (by omega)]
    exact ⟨fun q => ⟨h, q⟩, fun q => q.2⟩
  · rw [if_neg h]
    constructor
    · intro q
      rw [zi_nN1' (by omega)] at q
      exact q.elim
    · exact fun q => absurd q.1 h
theorem m_blanks {c : Nat → Nat} {N a : Nat} {μ : zMem} (hc : tx c N μ) (hA : mA N a μ) : f9_blanks μ = some (0, zi 0, zset μ 0 4 (zi (advN (isB c) N a))) := by
  obtain ⟨A1, A2, A3⟩ := hA
  have hN := hc.1
  have h := zloopQ (L := fun n i (_ : Unit) => f9_blanks_L0 (fun (μ6 : zMem) => some (0, 0, μ6)) n (zset μ 0 4 (zi i))) (N := N) (fun r => r = some (0, zi 0, zset μ 0 4 (zi (advN (isB c) N a)))) (fun i _ => a ≤ i ∧ ∀ j, a ≤ j → j < i → isB c j = true)
    (fun n _ hi => by
      show f9_blanks_L0 _ (n + 1) (zset μ 0 4 (zi N)) = _
      rw [f9_blanks_L0, zset_eq, m_byteAt (tx_0 hc) (by rw [zset_nj (by decide)]; exact A1) (by omega), bnd0_ok, if_neg (show ¬ byA c N N = (32 : Int32) from by rw [show (32 : Int32) = zi 32 from rfl, byA_eq hc (by decide)]; omega), advN_eq hi.1 (Nat.le_refl _) hi.2 (Or.inl rfl)]; rfl)
    (fun n i _ hi hI => by
      have hq : f9_blanks_L0 (fun (μ6 : zMem) => some (0, 0, μ6)) (n + 1) (zset μ 0 4 (zi i)) = if c i = 32 then f9_blanks_L0 (fun (μ6 : zMem) => some (0, 0, μ6)) n (zset μ 0 4 (zi (i + 1))) else some (0, 0, zset μ 0 4 (zi i)) := by
        rw [f9_blanks_L0, zset_eq, m_byteAt (tx_0 hc) (by rw [zset_nj (by decide)]; exact A1) (by omega), bnd0_ok, zlet_e, zset_zset, zset_eq, show zi i + (1 : Int32) = zi (i + 1) from zi_add i 1]
        by_cases e : c i = 32
        · rw [if_pos (show byA c N i = (32 : Int32) from by rw [show (32 : Int32) = zi 32 from rfl, byA_eq hc (by decide)]; exact ⟨hi, e⟩), if_pos e]
        · rw [if_neg (show ¬ byA c N i = (32 : Int32) from by rw [show (32 : Int32) = zi 32 from rfl, byA_eq hc (by decide)]; exact fun q => e q.2), if_neg e]
      by_cases e : c i = 32
      · right
        refine ⟨(), ?_, by omega, fun j h1 h2 => ?_⟩
        · show f9_blanks_L0 _ (n + 1) (zset μ 0 4 (zi i)) = _
          rw [hq, if_pos e]
        · by_cases ej : j = i
          · rw [ej]; exact decide_eq_true e
          · exact hI.2 j h1 (by omega)
      · left
        show f9_blanks_L0 _ (n + 1) (zset μ 0 4 (zi i)) = _
        rw [hq, if_neg e, advN_eq hI.1 (by omega) hI.2 (Or.inr (decide_eq_false e))]; rfl)
    (N - a) a () zF (by omega) (by unfold zF; omega) ⟨Nat.le_refl _, fun j h1 h2 => absurd h2 (by omega)⟩
  rw [zset_same A2] at h
  exact h
theorem m_isDigit {c : Nat → Nat} {N a : Nat} {μ μ' : zMem} (hc : tx c N μ') : f9_isDigit (byA c N a) μ = some (0, zi (b01 (decide (a < N) && isD c a)), μ) := by
  have b0 : ∀ A, zbl (0 : Int32) A = A := fun A => zbl_0
  have b1 : ∀ A, zbl (1 : Int32) A = A := fun A => zbl_1
  unfold f9_isDigit byA
  rw [zlet_e, zlet_e]
  by_cases h : a < N
  · have hb := (hc.2 a h).1
    rw [if_pos h, decide_eq_true h, Bool.true_and]
    by_cases c1 : c a < 48
    · rw [if_pos (show zi (c a) < (48 : Int32) from by rw [show (48 : Int32) = zi 48 from rfl, zi_lt (by omega) (by omega)]; exact c1)]
      show zbl (0 : Int32) _ = _
      rw [b0, show isD c a = false from decide_eq_false (fun q => by omega)]; rfl
    · rw [if_neg (show ¬ zi (c a) < (48 : Int32) from by rw [show (48 : Int32) = zi 48 from rfl, zi_lt (by omega) (by omega)]; exact c1)]
      by_cases c2 : 57 < c a
      · rw [if_pos (show (57 : Int32) < zi (c a) from by rw [show (57 : Int32) = zi 57 from rfl, zi_lt (by omega) (by omega)]; exact c2)]
        show zbl (0 : Int32) _ = _
        rw [b0, show isD c a = false from decide_eq_false (fun q => by omega)]; rfl
      · rw [if_neg (show ¬ (57 : Int32) < zi (c a) from by rw [show (57 : Int32) = zi 57 from rfl, zi_lt (by omega) (by omega)]; exact c2)]
        show zbl (1 : Int32) _ = _
        rw [b1, show isD c a = true from decide_eq_true (by omega)]; rfl
  · rw [if_neg h, decide_eq_false h, Bool.false_and, if_pos (show zN1 < (48 : Int32) from by decide)]
    show zbl (0 : Int32) _ = _
    rw [b0]; rfl
