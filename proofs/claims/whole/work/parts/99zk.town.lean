/-! THE PURE SIDE, 76: a TOWN's text, numbers -/
def dval (c : Nat → Nat) (b e : Nat) : Nat := zit (fun j v => min 100000 (10 * v + (c j - 48))) (e - b) b 0
theorem zit_min {c : Nat → Nat} : ∀ m i s, s ≤ 100000 → zit (fun j v => min 100000 (10 * v + (c j - 48))) m i s ≤ 100000
  | 0, _, _, h => h
  | m + 1, i, s, _ => zit_min m (i + 1) _ (Nat.min_le_left _ _)
theorem dval_le {c : Nat → Nat} {b e : Nat} : dval c b e ≤ 100000 := zit_min _ _ _ (by decide)
abbrev aR : Type := (Nat × Nat) ⊕ (Nat × Nat)
def bl9 (c : Nat → Nat) (N a : Nat) : Nat := advN (isB c) N a
def de9 (c : Nat → Nat) (N a : Nat) : Nat := advN (isD c) N a
/-- a number is read -/
def aNum (c : Nat → Nat) (N lo H nt a : Nat) : aR :=
  if de9 c N (bl9 c N a) = bl9 c N a then .inl (1, bl9 c N a)
  else if dval c (bl9 c N a) (de9 c N (bl9 c N a)) < lo ∨ H ≤ dval c (bl9 c N a) (de9 c N (bl9 c N a)) ∨ dval c (bl9 c N a) (de9 c N (bl9 c N a)) = nt then .inl (2, bl9 c N a)
  else .inr (dval c (bl9 c N a) (de9 c N (bl9 c N a)), de9 c N (bl9 c N a))
theorem bl9_sp {c : Nat → Nat} {N a : Nat} (h : a ≤ N) : a ≤ bl9 c N a ∧ bl9 c N a ≤ N := ⟨(advN_sp h).1, (advN_sp h).2.1⟩
theorem de9_sp {c : Nat → Nat} {N a : Nat} (h : a ≤ N) : a ≤ de9 c N a ∧ de9 c N a ≤ N ∧ ∀ j, a ≤ j → j < de9 c N a → 48 ≤ c j ∧ c j ≤ 57 := ⟨(advN_sp h).1, (advN_sp h).2.1, fun j h1 h2 => of_decide_eq_true ((advN_sp h).2.2.1 j h1 h2)⟩
theorem de9_same {c : Nat → Nat} {N a : Nat} (h : a ≤ N) : de9 c N a = a ↔ (decide (a < N) && isD c a) = false := by
  constructor
  · intro e
    rcases (advN_sp (p := isD c) h).2.2.2 with q | q
    · rw [decide_eq_false (show ¬ a < N from by have e' : de9 c N a = N := q; omega)]; rfl
    · have e' : isD c a = false := by
        have : isD c (de9 c N a) = false := q
        rw [e] at this; exact this
      rw [e', Bool.and_false]
  · intro e
    refine advN_eq (Nat.le_refl _) h (fun j h1 h2 => by omega) ?_
    by_cases h' : a < N
    · rw [decide_eq_true h', Bool.true_and] at e; exact Or.inr e
    · exact Or.inl (by omega)
theorem aNum_r {c : Nat → Nat} {N lo H nt a v e : Nat} (h : a ≤ N) (hr : aNum c N lo H nt a = .inr (v, e)) : lo ≤ v ∧ v < H ∧ v ≠ nt ∧ v ≤ 100000 ∧ e ≤ N := by
  unfold aNum at hr
  split at hr
  · cases hr
  · rename_i h0
    split at hr
    · cases hr
    · rename_i h1
      injection hr with hr
      injection hr with e1 e2
      have k1 := (de9_sp (c := c) (bl9_sp (c := c) h).2).2.1
      have k2 := dval_le (c := c) (b := bl9 c N a) (e := de9 c N (bl9 c N a))
      omega
theorem aNum_l {c : Nat → Nat} {N lo H nt a k p : Nat} (h : a ≤ N) (hr : aNum c N lo H nt a = .inl (k, p)) : (k = 1 ∨ k = 2) ∧ p ≤ N := by
  have hb := (bl9_sp (c := c) h).2
  unfold aNum at hr
  split at hr
  · injection hr with hr
    injection hr with e1 e2
    exact ⟨Or.inl e1.symm, by omega⟩
  · split at hr
    · injection hr with hr
      injection hr with e1 e2
      exact ⟨Or.inr e1.symm, by omega⟩
    · cases hr
/-! the class -/
/-- a FAULT is kept -/
def xW (k p : Nat) (μ μ' : zMem) : Prop := ∃ y, μ' = zset (zset (zset μ 22 3 y) 22 4 (zi k)) 22 5 (zi p)
theorem x_wrong {k p : Nat} {μ : zMem} : f3_wrong (zi k) (zi p) μ = some (0, zi 0, zset (zset μ 22 4 (zi k)) 22 5 (zi p)) := rfl
theorem x_readDigits {c : Nat → Nat} {N a : Nat} {μ : zMem} (hc : tx c N μ) (hA : xA N a μ) : f3_readDigits μ = if de9 c N (bl9 c N a) = bl9 c N a then some (0, zi (bl9 c N a), zset (zset (zset μ 22 3 (zi (bl9 c N a))) 22 4 (zi 1)) 22 5 (zi (bl9 c N a))) else some (0, zi (bl9 c N a), zset μ 22 3 (zi (de9 c N (bl9 c N a)))) := by
  have hN := hc.1
  obtain ⟨b1, b2⟩ := bl9_sp (c := c) hA.2.2
  obtain ⟨d1, d2, -⟩ := de9_sp (c := c) b2
  have hA1 : xA N (bl9 c N a) (zset μ 22 3 (zi (bl9 c N a))) := ⟨by rw [zset_nj (by decide)]; exact hA.1, zset_eq, b2⟩
  unfold f3_readDigits
  rw [x_blanks hc hA, bnd0_ok, zlet_e, zlet_e]
  refine (x_digL (tx_22 hc) hA1 _).trans ?_
  show zlet _ _ = _
  rw [zlet_e, zset_zset, zset_eq]
  show (if zi (de9 c N (bl9 c N a)) = zset μ 22 3 (zi (bl9 c N a)) 22 3 then _ else _) = _
  rw [zset_eq]
  by_cases e : de9 c N (bl9 c N a) = bl9 c N a
  · rw [if_pos (by rw [e]), if_pos e]
    show bnd0 (f3_wrong (zi 1) (zi (de9 c N (bl9 c N a))) (zset μ 22 3 (zi (de9 c N (bl9 c N a))))) _ = _
    rw [x_wrong, bnd0_ok, e]; rfl
  · rw [if_neg (by rw [zi_eq (by omega) (by omega)]; exact e), if_neg e]; rfl
theorem x_numL {c : Nat → Nat} {N b e : Nat} {μ : zMem} (hc : tx c N μ) (h3 : μ 22 3 = zi e) (hbe : b ≤ e) (heN : e ≤ N) (hd : ∀ j, b ≤ j → j < e → 48 ≤ c j ∧ c j ≤ 57) (K : Int32 → zMem → zRes) : f3_readNumber_L20 K zF (zi 0) (zi b) μ = K (zi (dval c b e)) μ := by
  have hN := hc.1
  obtain ⟨e1, -⟩ := zloopF (L := fun n i (v : Nat) => f3_readNumber_L20 K n (zi v) (zi i) μ) (N := e) (F := fun j v => min 100000 (10 * v + (c j - 48))) (o := fun v => K (zi v) μ) (fun i v => b ≤ i ∧ v ≤ 100000)
    (fun n v _ => by
      show f3_readNumber_L20 K (n + 1) (zi v) (zi e) μ = _
      rw [f3_readNumber_L20, h3, if_pos (Int32.le_refl _)])
    (fun n i v hi hI => by
      have hdi := hd i hI.1 hi
      refine ⟨?_, by omega, Nat.min_le_left _ _⟩
      show f3_readNumber_L20 K (n + 1) (zi v) (zi i) μ = _
      rw [f3_readNumber_L20, h3, if_neg (show ¬ zi e ≤ zi i from by rw [zi_le (by omega) (by omega)]; omega), zin_i (by omega) (by omega), zlet_e, zi_cl (by omega), (hc.2 i (by omega)).2, show (10 : Int32) = zi 10 from rfl, zi_mul, zi_add, show (48 : Int32) = zi 48 from rfl, zi_sub (by omega), show (100000 : Int32) = zi 100000 from rfl, zmin_i (by omega) (by omega), show zi i + (1 : Int32) = zi (i + 1) from zi_add i 1, show v * 10 + c i - 48 = 10 * v + (c i - 48) by omega])
    (e - b) b 0 zF (by omega) (by unfold zF; omega) ⟨Nat.le_refl _, by omega⟩
  exact e1
def xN (r : aR) (x : Int32) (μ μ' : zMem) : Prop := match r with
  | .inl (k, p) => x = zi 0 ∧ xW k p μ μ'
  | .inr (v, e) => x = zi v ∧ μ' = zset μ 22 3 (zi e)
theorem x_number {c : Nat → Nat} {N a lo H : Nat} {x2 : Int32} {μ : zMem} (hc : tx c N μ) (hA : xA N a μ) (h4 : μ 22 4 = zi 0) (hlo : lo < 1000000) (hx2 : ∀ v, v ≤ 100000 → (zi v ≤ x2) = (v < H)) :
    ∃ x μ', f3_readNumber (zi lo) x2 μ = some (0, x, μ') ∧ xN (aNum c N lo H 1000000 a) x μ μ' := by
  have hN := hc.1
  obtain ⟨b1, b2⟩ := bl9_sp (c := c) hA.2.2
  obtain ⟨d1, d2, d3⟩ := de9_sp (c := c) b2
  have hv := dval_le (c := c) (b := bl9 c N a) (e := de9 c N (bl9 c N a))
  unfold f3_readNumber aNum
  rw [x_readDigits hc hA]
  by_cases e : de9 c N (bl9 c N a) = bl9 c N a
  · rw [if_pos e, if_pos e, bnd0_ok, zset_nj (by decide), zset_eq, if_neg (show ¬ zi 1 = (0 : Int32) from by decide)]
    exact ⟨zi 0, _, rfl, rfl, _, rfl⟩
  · rw [if_neg e, if_neg e, bnd0_ok, zset_nj (by decide), h4, if_pos (show zi 0 = (0 : Int32) from rfl)]
    have hL := x_numL (μ := zset μ 22 3 (zi (de9 c N (bl9 c N a)))) (tx_22 hc) zset_eq d1 d2 d3 (fun (x4_9 : Int32) (μ10 : zMem) => zlet (bnd0 (f3_wrong (2 : Int32) (zi (bl9 c N a)) μ10) (fun (v11 : Int32) (μ12 : zMem) => some (0, (0 : Int32), μ12))) (fun j13 => if x4_9 < zi lo then j13 else if x4_9 ≤ x2 then some (0, x4_9, μ10) else j13))
    have ew : bnd0 (f3_wrong (2 : Int32) (zi (bl9 c N a)) (zset μ 22 3 (zi (de9 c N (bl9 c N a))))) (fun (v11 : Int32) (μ12 : zMem) => some (0, (0 : Int32), μ12)) = some (0, zi 0, zset (zset (zset μ 22 3 (zi (de9 c N (bl9 c N a)))) 22 4 (zi 2)) 22 5 (zi (bl9 c N a))) := rfl
    by_cases cc : dval c (bl9 c N a) (de9 c N (bl9 c N a)) < lo ∨ H ≤ dval c (bl9 c N a) (de9 c N (bl9 c N a)) ∨ dval c (bl9 c N a) (de9 c N (bl9 c N a)) = 1000000
    · rw [if_pos cc]
      refine ⟨zi 0, zset (zset (zset μ 22 3 (zi (de9 c N (bl9 c N a)))) 22 4 (zi 2)) 22 5 (zi (bl9 c N a)), hL.trans ?_, rfl, _, rfl⟩
      show zlet _ _ = _
      rw [zlet_e, ew]
      by_cases c1 : dval c (bl9 c N a) (de9 c N (bl9 c N a)) < lo
      · rw [if_pos (by rw [zi_lt (by omega) (by omega)]; exact c1)]
      · rw [if_neg (by rw [zi_lt (by omega) (by omega)]; exact c1), if_neg (by rw [hx2 _ hv]; omega)]
    · rw [if_neg cc]
      refine ⟨zi (dval c (bl9 c N a) (de9 c N (bl9 c N a))), _, hL.trans ?_, rfl, rfl⟩
      show zlet _ _ = _
      rw [zlet_e, if_neg (by rw [zi_lt (by omega) (by omega)]; omega), if_pos (by rw [hx2 _ hv]; omega)]
/-! the reference -/
def mW (k p : Nat) (μ μ' : zMem) : Prop := ∃ y, y ≤ 500 ∧ μ' = zset (zset (zset μ 0 4 (zi y)) 0 5 (zi k)) 0 6 (zi p)
theorem m_wrong0 {k p : Int32} {μ : zMem} (h : μ 0 5 = zi 0) : f9_wrong k p μ = some (0, zi 0, zset (zset μ 0 5 k) 0 6 p) := by
  unfold f9_wrong
  rw [zlet_e, h, if_pos (show zi 0 = (0 : Int32) from rfl)]; rfl
theorem m_wrong1 {k p : Int32} {n : Nat} {μ : zMem} (h : μ 0 5 = zi n) (hn : 0 < n) (hn' : n < 10) : f9_wrong k p μ = some (0, zi 0, μ) := by
  unfold f9_wrong
  rw [zlet_e, h, if_neg (show ¬ zi n = (0 : Int32) from by rw [show (0 : Int32) = zi 0 from rfl, zi_eq (by omega) (by omega)]; omega)]; rfl
theorem m_numL {c : Nat → Nat} {N b : Nat} {μ : zMem} (hc : tx c N μ) (h2 : μ 0 2 = zi N) (hb : b ≤ N) (K : Int32 → zMem → zRes) : f9_number_L45 K zF (zi 0) (zset μ 0 4 (zi b)) = K (zi (dval c b (de9 c N b))) (zset μ 0 4 (zi (de9 c N b))) := by
  have hN := hc.1
  obtain ⟨d1, d2, d3⟩ := de9_sp (c := c) hb
  have hend := (advN_sp (p := isD c) hb).2.2.2
  obtain ⟨e1, -⟩ := zloopF (L := fun n i (v : Nat) => f9_number_L45 K n (zi v) (zset μ 0 4 (zi i))) (N := de9 c N b) (F := fun j v => min 100000 (10 * v + (c j - 48))) (o := fun v => K (zi v) (zset μ 0 4 (zi (de9 c N b)))) (fun i v => b ≤ i ∧ v ≤ 100000)
    (fun n v _ => by
      have hs : (decide (de9 c N b < N) && isD c (de9 c N b)) = false := by
        rcases hend with q | q
        · have q' : de9 c N b = N := q
          rw [decide_eq_false (by omega)]; rfl
        · have q' : isD c (de9 c N b) = false := q
          rw [q', Bool.and_false]
      show f9_number_L45 K (n + 1) (zi v) (zset μ 0 4 (zi (de9 c N b))) = _
      rw [f9_number_L45, zset_eq, m_byteAt (tx_0 hc) (by rw [zset_nj (by decide)]; exact h2) (by omega), bnd0_ok, m_isDigit hc, bnd0_ok, hs, if_pos (show zi (b01 false) = (0 : Int32) from rfl)])
    (fun n i v hi hI => by
      have hdi := d3 i hI.1 hi
      have hs : (decide (i < N) && isD c i) = true := by rw [decide_eq_true (show i < N by omega), show isD c i = true from decide_eq_true hdi]; rfl
      refine ⟨?_, by omega, Nat.min_le_left _ _⟩
      show f9_number_L45 K (n + 1) (zi v) (zset μ 0 4 (zi i)) = _
      have hba : byA c N i = zi (c i) := if_pos (by omega)
      rw [f9_number_L45, zset_eq, m_byteAt (tx_0 hc) (by rw [zset_nj (by decide)]; exact h2) (by omega), bnd0_ok, m_isDigit hc, bnd0_ok, hs, if_neg (show ¬ zi (b01 true) = (0 : Int32) from by decide), zset_eq, m_byteAt (tx_0 hc) (by rw [zset_nj (by decide)]; exact h2) (by omega), bnd0_ok, hba, zlet_e, zlet_e, show (10 : Int32) = zi 10 from rfl, zi_mul, zi_add, show (48 : Int32) = zi 48 from rfl, zi_sub (by omega), show 10 * v + c i - 48 = 10 * v + (c i - 48) by omega]
      by_cases cc : 10 * v + (c i - 48) ≤ 100000
      · rw [if_pos (show zi (10 * v + (c i - 48)) ≤ (100000 : Int32) from by rw [show (100000 : Int32) = zi 100000 from rfl, zi_le (by omega) (by omega)]; exact cc)]
        show zlet _ _ = _
        rw [zlet_e, zset_eq, zset_zset, show zi i + (1 : Int32) = zi (i + 1) from zi_add i 1, Nat.min_eq_right cc]
      · rw [if_neg (show ¬ zi (10 * v + (c i - 48)) ≤ (100000 : Int32) from by rw [show (100000 : Int32) = zi 100000 from rfl, zi_le (by omega) (by omega)]; exact cc)]
        show zlet _ _ = _
        rw [zlet_e, zset_eq, zset_zset, show zi i + (1 : Int32) = zi (i + 1) from zi_add i 1, Nat.min_eq_left (by omega)]; rfl)
    (de9 c N b - b) b 0 zF (by omega) (by unfold zF; omega) ⟨Nat.le_refl _, by omega⟩
  exact e1
def mN (r : aR) (x : Int32) (μ μ' : zMem) : Prop := match r with
  | .inl (k, p) => mW k p μ μ'
  | .inr (v, e) => x = zi v ∧ μ' = zset μ 0 4 (zi e)
theorem m_number {c : Nat → Nat} {N a lo H nt : Nat} {x2 x3 : Int32} {μ : zMem} (hc : tx c N μ) (hA : mA N a μ) (h5 : μ 0 5 = zi 0) (hlo : lo < 1000000) (hx2 : ∀ v, v ≤ 100000 → (zi v ≤ x2) = (v < H)) (hx3 : ∀ v, v ≤ 100000 → (zi v = x3) = (v = nt)) :
    ∃ x μ', f9_number (zi lo) x2 x3 μ = some (0, x, μ') ∧ mN (aNum c N lo H nt a) x μ μ' := by
  have hN := hc.1
  obtain ⟨b1, b2⟩ := bl9_sp (c := c) hA.2.2
  obtain ⟨d1, d2, d3⟩ := de9_sp (c := c) b2
  have hv := dval_le (c := c) (b := bl9 c N a) (e := de9 c N (bl9 c N a))
  have e02 : zset μ 0 4 (zi (bl9 c N a)) 0 2 = zi N := by rw [zset_nj (by decide)]; exact hA.1
  have hsm := de9_same (c := c) b2
  unfold f9_number aNum
  rw [h5, if_pos (show zi 0 = (0 : Int32) from rfl), m_blanks hc hA, bnd0_ok, zlet_e]
  show ∃ x μ', bnd0 (f9_byteAt (zset μ 0 4 (zi (bl9 c N a)) 0 4) (zset μ 0 4 (zi (bl9 c N a)))) _ = _ ∧ _
  rw [zset_eq, m_byteAt (tx_0 hc) e02 (by omega), bnd0_ok, m_isDigit hc, bnd0_ok, zlet_e]
  by_cases e : de9 c N (bl9 c N a) = bl9 c N a
  · rw [hsm.1 e, if_pos e, if_pos (show zi (b01 false) = (0 : Int32) from rfl)]
    rw [show (zset μ 0 4 (zi (advN (isB c) N a))) = zset μ 0 4 (zi (bl9 c N a)) from rfl, zset_eq, m_wrong0 (by rw [zset_nj (by decide)]; exact h5), bnd0_ok]
    have em : zset (zset (zset μ 0 4 (zi (bl9 c N a))) 0 5 (1 : Int32)) 0 6 (zi (bl9 c N a)) = zset (zset (zset μ 0 5 (zi 1)) 0 6 (zi (bl9 c N a))) 0 4 (zi (bl9 c N a)) := by
      funext k j
      simp only [zset_at]
      by_cases k0 : k = 0
      · by_cases j6 : j = 6
        · simp only [k0, j6, and_self, if_true, and_true, show ¬ (6 = 4) by decide, show ¬ (6 = 5) by decide, and_false, if_false]
        · by_cases j5 : j = 5
          · simp only [k0, j5, and_self, if_true, and_true, show ¬ (5 = 4) by decide, show ¬ (5 = 6) by decide, and_false, if_false]; rfl
          · simp only [k0, j6, j5, and_false, if_false]
      · simp only [k0, false_and, if_false]
    have hL := m_numL (μ := zset (zset μ 0 5 (zi 1)) 0 6 (zi (bl9 c N a))) (tx_0 (tx_0 hc)) (by rw [zset_nj (by decide), zset_nj (by decide)]; exact hA.1) b2 (fun (x5_25 : Int32) (μ26 : zMem) => bnd0 (f9_in x5_25 (zi lo) x2 μ26) (fun (v27 : Int32) (μ28 : zMem) => zlet (fun (μ29 : zMem) => some (0, x5_25, μ29)) (fun j30 => zlet (bnd0 (f9_wrong (2 : Int32) (zi (bl9 c N a)) μ28) (fun (v31 : Int32) (μ32 : zMem) => j30 μ32)) (fun j33 => if v27 = 0 then j33 else if x5_25 = x3 then j33 else j30 μ28))))
    rw [e, ← em] at hL
    have h51 : zset (zset (zset μ 0 4 (zi (bl9 c N a))) 0 5 (1 : Int32)) 0 6 (zi (bl9 c N a)) 0 5 = zi 1 := by rw [zset_nj (by decide), zset_eq]; rfl
    refine ⟨zi (dval c (bl9 c N a) (bl9 c N a)), zset (zset (zset μ 0 4 (zi (bl9 c N a))) 0 5 (1 : Int32)) 0 6 (zi (bl9 c N a)), hL.trans ?_, bl9 c N a, by omega, rfl⟩
    have fin : ∀ (v : Int32) (w : Int32), zlet (fun (μ29 : zMem) => some (0, v, μ29)) (fun j30 => zlet (bnd0 (f9_wrong (2 : Int32) (zi (bl9 c N a)) (zset (zset (zset μ 0 4 (zi (bl9 c N a))) 0 5 (1 : Int32)) 0 6 (zi (bl9 c N a)))) (fun (v31 : Int32) (μ32 : zMem) => j30 μ32)) (fun j33 => if w = 0 then j33 else if v = x3 then j33 else j30 (zset (zset (zset μ 0 4 (zi (bl9 c N a))) 0 5 (1 : Int32)) 0 6 (zi (bl9 c N a))))) = some (0, v, zset (zset (zset μ 0 4 (zi (bl9 c N a))) 0 5 (1 : Int32)) 0 6 (zi (bl9 c N a))) := fun v w => by
      rw [zlet_e, zlet_e, m_wrong1 (n := 1) h51 (by decide) (by decide), bnd0_ok]
      split
      · rfl
      · split <;> rfl
    show bnd0 (f9_in _ (zi lo) x2 _) _ = _
    by_cases ci : zi (dval c (bl9 c N a) (bl9 c N a)) < zi lo ∨ x2 < zi (dval c (bl9 c N a) (bl9 c N a))
    · rw [m_in_no ci, bnd0_ok]; exact fin _ _
    · rw [m_in_ok (fun q => ci (Or.inl q)) (fun q => ci (Or.inr q)), bnd0_ok]; exact fin _ _
  · have hyes : (decide (bl9 c N a < N) && isD c (bl9 c N a)) = true := by
      cases q : (decide (bl9 c N a < N) && isD c (bl9 c N a))
      · exact absurd (hsm.2 q) e
      · rfl
    rw [hyes, if_neg e, if_neg (show ¬ zi (b01 true) = (0 : Int32) from by decide)]
    have hL := m_numL hc hA.1 b2 (fun (x5_25 : Int32) (μ26 : zMem) => bnd0 (f9_in x5_25 (zi lo) x2 μ26) (fun (v27 : Int32) (μ28 : zMem) => zlet (fun (μ29 : zMem) => some (0, x5_25, μ29)) (fun j30 => zlet (bnd0 (f9_wrong (2 : Int32) (zi (bl9 c N a)) μ28) (fun (v31 : Int32) (μ32 : zMem) => j30 μ32)) (fun j33 => if v27 = 0 then j33 else if x5_25 = x3 then j33 else j30 μ28))))
    have h50 : zset μ 0 4 (zi (de9 c N (bl9 c N a))) 0 5 = zi 0 := by rw [zset_nj (by decide)]; exact h5
    by_cases cc : dval c (bl9 c N a) (de9 c N (bl9 c N a)) < lo ∨ H ≤ dval c (bl9 c N a) (de9 c N (bl9 c N a)) ∨ dval c (bl9 c N a) (de9 c N (bl9 c N a)) = nt
    · rw [if_pos cc]
      refine ⟨zi (dval c (bl9 c N a) (de9 c N (bl9 c N a))), zset (zset (zset μ 0 4 (zi (de9 c N (bl9 c N a)))) 0 5 (zi 2)) 0 6 (zi (bl9 c N a)), hL.trans ?_, de9 c N (bl9 c N a), by omega, rfl⟩
      have fin : ∀ (w : Int32), (w = 0 ∨ zi (dval c (bl9 c N a) (de9 c N (bl9 c N a))) = x3) → zlet (fun (μ29 : zMem) => some (0, zi (dval c (bl9 c N a) (de9 c N (bl9 c N a))), μ29)) (fun j30 => zlet (bnd0 (f9_wrong (2 : Int32) (zi (bl9 c N a)) (zset μ 0 4 (zi (de9 c N (bl9 c N a))))) (fun (v31 : Int32) (μ32 : zMem) => j30 μ32)) (fun j33 => if w = 0 then j33 else if zi (dval c (bl9 c N a) (de9 c N (bl9 c N a))) = x3 then j33 else j30 (zset μ 0 4 (zi (de9 c N (bl9 c N a)))))) = some (0, zi (dval c (bl9 c N a) (de9 c N (bl9 c N a))), zset (zset (zset μ 0 4 (zi (de9 c N (bl9 c N a)))) 0 5 (zi 2)) 0 6 (zi (bl9 c N a))) := fun w hw => by
        rw [zlet_e, zlet_e, m_wrong0 h50, bnd0_ok]
        by_cases w0 : w = 0
        · rw [if_pos w0]; rfl
        · rw [if_neg w0, if_pos (hw.resolve_left w0)]; rfl
      show bnd0 (f9_in _ (zi lo) x2 _) _ = _
      by_cases ci : zi (dval c (bl9 c N a) (de9 c N (bl9 c N a))) < zi lo ∨ x2 < zi (dval c (bl9 c N a) (de9 c N (bl9 c N a)))
      · rw [m_in_no ci, bnd0_ok]; exact fin _ (Or.inl rfl)
      · rw [m_in_ok (fun q => ci (Or.inl q)) (fun q => ci (Or.inr q)), bnd0_ok]
        refine fin _ (Or.inr ?_)
        rw [hx3 _ hv]
        have k1 : ¬ dval c (bl9 c N a) (de9 c N (bl9 c N a)) < lo := fun q => ci (Or.inl (by rw [zi_lt (by omega) (by omega)]; exact q))
        have k2 : ¬ H ≤ dval c (bl9 c N a) (de9 c N (bl9 c N a)) := fun q => ci (Or.inr (Int32.not_le.mp (by rw [hx2 _ hv]; omega)))
        omega
    · rw [if_neg cc]
      refine ⟨zi (dval c (bl9 c N a) (de9 c N (bl9 c N a))), _, hL.trans ?_, rfl, rfl⟩
      show bnd0 (f9_in _ (zi lo) x2 _) _ = _
      rw [m_in_ok (by rw [zi_lt (by omega) (by omega)]; omega) (fun q => by
        have := Int32.not_le.mpr q
        rw [hx2 _ hv] at this
        omega), bnd0_ok, zlet_e, zlet_e, if_neg (show ¬ zi 1 = (0 : Int32) from by decide), if_neg (by rw [hx3 _ hv]; omega)]
