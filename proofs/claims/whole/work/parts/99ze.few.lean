/-! THE PURE SIDE, 70: FEW in the reference, a step -/
/-- only what PERSONS think of one QUESTION has changed -/
def tfr (q : (Nat → Nat) × Nat × Nat) (μ μ' : zMem) : Prop := ∀ k j, ¬ (51 ≤ k ∧ k < 60 ∧ (∃ i, i < q.2.1 ∧ k = 51 + q.1 i) ∧ j = q.2.2) → μ' k j = μ k j
theorem tfr.refl {q : (Nat → Nat) × Nat × Nat} {μ : zMem} : tfr q μ μ := fun _ _ _ => rfl
theorem tfr.trans {q : (Nat → Nat) × Nat × Nat} {μ μ' μ'' : zMem} (h : tfr q μ μ') (h' : tfr q μ' μ'') : tfr q μ μ'' := fun k j hk => (h' k j hk).trans (h k j hk)
theorem tfr.key {q : (Nat → Nat) × Nat × Nat} {μ μ' : zMem} (h : tfr q μ μ') {k : Nat} (hk : ¬ (51 ≤ k ∧ k < 60)) : μ' k = μ k := funext (fun j => h k j (fun c => hk ⟨c.1, c.2.1⟩))
/-- what a step of FEW reads in the reference -/
def mB9 (T W : zN2) (pm : Nat → Nat) (m : Nat) (μ : zMem) : Prop := MT T μ ∧ μ 4 3 = zi (W 0 2) ∧ (∀ p, p < T 2 1 → μ (15 + p) 4 = zi (W 2 p)) ∧ μ 0 40 = zi m ∧ ∀ i, i < m → μ 1129 (m - 1 - i) = zi (pm i)
theorem mB9_t {T W : zN2} {pm : Nat → Nat} {m : Nat} {q : (Nat → Nat) × Nat × Nat} {μ μ' : zMem} (hT : TB T) (h : tfr q μ μ') (hB : mB9 T W pm m μ) : mB9 T W pm m μ' := by
  have hP := hT.2.1
  obtain ⟨h1, h2, h3, h4, h5⟩ := hB
  refine ⟨MT_at (fun j _ => congrFun (h.key (by omega)) j) (h.key (by omega)) (h.key (by omega)) (fun p _ => congrFun (h.key (by omega)) 5) (fun d _ => h.key (by omega)) hT h1, ?_, fun p hp => ?_, ?_, fun i hi => ?_⟩
  · rw [h.key (by omega)]; exact h2
  · rw [h.key (by omega)]; exact h3 p hp
  · rw [h.key (by omega)]; exact h4
  · rw [h.key (by omega)]; exact h5 i hi
/-- PERSONS, no one twice -/
def pmOk (T : zN2) (pm : Nat → Nat) (m : Nat) : Prop := (∀ i, i < m → pm i < T 2 1) ∧ ∀ i j, i < m → j < m → pm i = pm j → i = j
theorem m_becomes {T W : zN2} {pm : Nat → Nat} {m v q : Nat} {μ : zMem} (hT : TB T) (hm : m ≤ 4) (hpm : pmOk T pm m) (hB : mB9 T W pm m μ) (hv : v < 6561) (hq : q < T 2 0) :
    ∃ μ', f9_becomes (zi v) (zi q) μ = some (0, zi 0, μ') ∧ (∀ i, i < m → μ' (51 + pm i) q = zi (dg v i)) ∧ tfr (pm, m, q) μ μ' := by
  have hP := hT.2.1
  have hQ := hT.1
  obtain ⟨⟨y, μ'⟩, e1, e2, e3, e4⟩ := zloopE (L := fun n i (s : Int32 × zMem) => f9_becomes_L10 (zi q) (fun (μ9 : zMem) => some (0, 0, μ9)) n s.1 (dn m i) s.2) (N := m) (o := fun s => some (0, 0, s.2))
    (fun i s => s.1 = zi (v / 9 ^ i) ∧ (∀ k, k < i → s.2 (51 + pm k) q = zi (dg v k)) ∧ tfr (pm, m, q) μ s.2)
    (fun n s _ => by
      show f9_becomes_L10 (zi q) _ (n + 1) s.1 (dn m m) s.2 = _
      rw [show dn m m = zN1 from if_neg (Nat.lt_irrefl _), f9_becomes_L10, if_pos (show zN1 < (0 : Int32) from by decide)])
    (fun n i s hi hs => by
      obtain ⟨y, μ1⟩ := s
      obtain ⟨h1, h2, h3⟩ := hs
      dsimp only at h1 h2 h3
      subst h1
      have hdv : v / 9 ^ i ≤ v := Nat.div_le_self _ _
      have ed' : dn m i = zi (m - 1 - i) := if_pos hi
      have hpi := hpm.1 i hi
      have er : zrem (zi (v / 9 ^ i)) (9 : Int32) = zi (dg v i) := zrem_i (b := 9) (by omega) (by decide)
      have ev : zi (v / 9 ^ i) / (9 : Int32) = zi (v / 9 ^ (i + 1)) := by
        rw [Nat.pow_succ, ← Nat.div_div_eq_div_mul]; exact zi_div (b := 9) (by omega) (by decide)
      refine ⟨(zi (v / 9 ^ (i + 1)), zset μ1 (51 + pm i) q (zi (dg v i))), ?_, rfl, fun k hk => ?_, fun k j hk => ?_⟩
      · show f9_becomes_L10 (zi q) _ (n + 1) (zi (v / 9 ^ i)) (dn m i) μ1 = _
        rw [← dn_step hi, ed', f9_becomes_L10, if_neg (show ¬ zi (m - 1 - i) < (0 : Int32) from by rw [show (0 : Int32) = zi 0 from rfl, zi_lt (by omega) (by omega)]; omega), zin_i (by omega) (by omega), zi_cl (by omega), h3.key (k := 1129) (by omega), hB.2.2.2.2 i hi, zin_i (by omega) (by omega), zin_i (by omega) (by omega), zlet_e, zlet_e, er, ev, zi_cl (by omega), zi_cl (by omega)]
      · show zset μ1 (51 + pm i) q (zi (dg v i)) (51 + pm k) q = _
        by_cases e : k = i
        · rw [e, zset_eq]
        · have : pm k ≠ pm i := fun q => e (hpm.2 k i (by omega) hi q)
          rw [zset_nk (by omega)]; exact h2 k (by omega)
      · show zset μ1 (51 + pm i) q (zi (dg v i)) k j = _
        rw [zset_at, if_neg (fun c => hk ⟨by omega, by omega, ⟨i, hi, c.1⟩, c.2⟩)]; exact h3 k j hk)
    m 0 (zi v, μ) zF (by omega) (by unfold zF; omega) ⟨by rw [Nat.pow_zero, Nat.div_one], fun k hk => absurd hk (by omega), tfr.refl⟩
  refine ⟨μ', ?_, e3, e4⟩
  unfold f9_becomes
  rw [hB.2.2.2.1, zlet_e]
  rw [show zi m - (1 : Int32) = dn m 0 from by
    unfold dn
    by_cases c : 0 < m
    · rw [if_pos c]; exact zi_sub (b := 1) c
    · rw [if_neg c, show m = 0 by omega]; rfl]
  exact e1
theorem m_stateNow {T W : zN2} {pm t : Nat → Nat} {m q : Nat} {μ : zMem} (hT : TB T) (hm : m ≤ 4) (hpm : pmOk T pm m) (hB : mB9 T W pm m μ) (hq : q < T 2 0) (ht : ∀ i, i < m → μ (51 + pm i) q = zi (t i)) : f9_stateNow (zi q) μ = some (0, zi (val9 t m), μ) := by
  have hP := hT.2.1
  have hQ := hT.1
  obtain ⟨e1, -⟩ := zloopF (L := fun n i (v : Nat) => f9_stateNow_L4 (zi q) μ (fun (x2_7 : Int32) => some (0, x2_7, μ)) n (zi v) (zi i)) (N := m) (F := fun i v => 9 * v + t (m - 1 - i)) (o := fun v => some (0, zi v, μ)) (fun _ _ => True)
    (fun n v _ => by
      show f9_stateNow_L4 (zi q) μ _ (n + 1) (zi v) (zi m) = _
      rw [f9_stateNow_L4, hB.2.2.2.1, if_pos (Int32.le_refl _)])
    (fun n i v hi _ => by
      refine ⟨?_, trivial⟩
      have hw := hB.2.2.2.2 (m - 1 - i) (by omega)
      rw [show m - 1 - (m - 1 - i) = i by omega] at hw
      have hpi := hpm.1 (m - 1 - i) (by omega)
      show f9_stateNow_L4 (zi q) μ _ (n + 1) (zi v) (zi i) = _
      rw [f9_stateNow_L4, hB.2.2.2.1, if_neg (show ¬ zi m ≤ zi i from by rw [zi_le (by omega) (by omega)]; omega), zin_i (by omega) (by omega), zi_cl (n := i) (by omega), hw, zin_i (by omega) (by omega), zin_i (by omega) (by omega), zlet_e, zi_cl (by omega), zi_cl (by omega), ht _ (by omega), show (9 : Int32) = zi 9 from rfl, zi_mul, zi_add, show zi i + (1 : Int32) = zi (i + 1) from zi_add i 1])
    m 0 0 zF (by omega) (by unfold zF; omega) trivial
  have hh := horner (t := t) (m := m) m (Nat.le_refl _)
  rw [Nat.sub_self, Nat.pow_zero, Nat.mul_one] at hh
  rw [← hh]
  exact e1
theorem m_isApart {T W : zN2} {pm : Nat → Nat} {m q a b x y : Nat} {μ : zMem} (hT : TB T) (hW : WB T W) (hB : mB9 T W pm m μ) (hq : q < T 2 0) (ha : a < T 2 1) (hb : b < T 2 1) (hab : a ≠ b) (hx : μ (51 + a) q = zi x) (hy : μ (51 + b) q = zi y) (hx8 : x ≤ 8) (hy8 : y ≤ 8) :
    f9_isApart (zi a) (zi b) (zi q) μ = some (0, zi (b01 (decide ((T 7 a).testBit b = false ∧ W 0 2 ≤ zd x y))), μ) := by
  have hP := hT.2.1
  have hQ := hT.1
  have hg := hW.2.2.1
  have hz : zd x y ≤ 8 := by unfold zd; omega
  have b0 : ∀ A, zbl (0 : Int32) A = A := fun A => zbl_0
  have b1 : ∀ A, zbl (1 : Int32) A = A := fun A => zbl_1
  have z3 : ∀ A, zin (3 : Int32) 6 A = A := fun A => zin_i (i := 3) (by decide) (by decide)
  have n3 : (3 : Int32).toNatClampNeg = 3 := by decide
  unfold f9_isApart
  rw [zlet_e, zlet_e, if_neg (by rw [zi_eq (by omega) (by omega)]; exact hab), m_isKin hT hB.1 (by omega) (by omega), bnd0_ok]
  by_cases c1 : (T 7 a).testBit b = true
  · rw [if_pos c1, if_neg (show ¬ zi 1 = (0 : Int32) from by decide)]
    show zbl (0 : Int32) _ = _
    rw [b0, decide_eq_false (fun q => by rw [c1] at q; exact absurd q.1 (by decide))]; rfl
  · rw [if_neg c1, if_pos (show zi 0 = (0 : Int32) from rfl), zin_i (by omega) (by omega), zin_i (by omega) (by omega), zin_i (by omega) (by omega), zin_i (by omega) (by omega), zi_cl (n := a) (by omega), zi_cl (n := b) (by omega), zi_cl (n := q) (by omega), hx, hy, m_amount (by omega) (by omega), bnd0_ok, z3, n3, hB.2.1]
    by_cases c2 : zd x y < W 0 2
    · rw [if_pos (by rw [zi_lt (by omega) (by omega)]; exact c2)]
      show zbl (0 : Int32) _ = _
      rw [b0, decide_eq_false (fun q => by omega)]; rfl
    · rw [if_neg (by rw [zi_lt (by omega) (by omega)]; exact c2)]
      show zbl (1 : Int32) _ = _
      rw [b1, decide_eq_true ⟨(Bool.not_eq_true _).mp c1, by omega⟩]; rfl
/-- what a WORK of two leads to: k the two -/
def bh (T W : zN2) (pm : Nat → Nat) (m k v : Nat) : Option Nat := if k / 4 < k % 4 ∧ k % 4 < m ∧ fC T W pm v (m - 1 - k / 4) (m - 1 - k % 4) = true then some (fN W pm m v (m - 1 - k / 4) (m - 1 - k % 4)) else none
theorem bh_lt {T W : zN2} {pm : Nat → Nat} {m k v u : Nat} (h : bh T W pm m k v = some u) : u < 9 ^ m := by
  unfold bh at h
  split at h
  · injection h with h; rw [← h]; exact fN_lt
  · cases h
theorem bh_E {T W : zN2} (hT : TB T) {pm : Nat → Nat} {m v u : Nat} (hm : m ≤ 4) (hg : 1 ≤ W 0 2) : (∃ k, k < 16 ∧ bh T W pm m k v = some u) ↔ fE T W pm m v u := by
  have ne : ∀ i j, fC T W pm v i j = true → dg v i ≠ dg v j := fun i j h e => by
    have := (of_decide_eq_true h).2
    rw [e] at this
    unfold zd at this
    omega
  constructor
  · rintro ⟨k, hk, h⟩
    unfold bh at h
    by_cases c : k / 4 < k % 4 ∧ k % 4 < m ∧ fC T W pm v (m - 1 - k / 4) (m - 1 - k % 4) = true
    · rw [if_pos c] at h
      injection h with h
      refine ⟨m - 1 - k % 4, m - 1 - k / 4, by omega, by omega, by rw [fC_sym hT]; exact c.2.2, ?_⟩
      rw [← h]
      exact (fN_sym (by omega) (ne _ _ c.2.2)).symm
    · rw [if_neg c] at h; cases h
  · rintro ⟨i, j, h1, h2, h3, h4⟩
    refine ⟨4 * (m - 1 - j) + (m - 1 - i), by omega, ?_⟩
    have e1 : (4 * (m - 1 - j) + (m - 1 - i)) / 4 = m - 1 - j := by omega
    have e2 : (4 * (m - 1 - j) + (m - 1 - i)) % 4 = m - 1 - i := by omega
    unfold bh
    rw [e1, e2, show m - 1 - (m - 1 - j) = j by omega, show m - 1 - (m - 1 - i) = i by omega, if_pos ⟨by omega, by omega, by rw [fC_sym hT]; exact h3⟩, fN_sym (by omega) (fun e => ne i j h3 e.symm), h4]
theorem m_behind {T W : zN2} {pm : Nat → Nat} {m v q k : Nat} {μ : zMem} (hT : TB T) (hW : WB T W) (hm : m ≤ 4) (hpm : pmOk T pm m) (hB : mB9 T W pm m μ) (hv : v < 9 ^ m) (hq : q < T 2 0) (hk : k < 16) :
    ∃ μ', f9_behind (zi v) (zi k) (zi q) μ = some (0, oI (bh T W pm m k v), μ') ∧ tfr (pm, m, q) μ μ' := by
  have h9 := pow9 hm
  have hP := hT.2.1
  have hQ := hT.1
  have e4 : zi k / (4 : Int32) = zi (k / 4) := zi_div (b := 4) (by omega) (by decide)
  have r4 : zrem (zi k) (4 : Int32) = zi (k % 4) := zrem_i (b := 4) (by omega) (by decide)
  obtain ⟨μ1, a1, a2, a3⟩ := m_becomes hT hm hpm hB (show v < 6561 by omega) hq
  have hB1 := mB9_t hT a3 hB
  unfold f9_behind
  rw [e4, r4, zin_i (by omega) (by omega), zlet_e, zin_i (by omega) (by omega), zlet_e, a1, bnd0_ok, zlet_e, zi_cl (n := k / 4) (by omega), zi_cl (n := k % 4) (by omega)]
  by_cases c1 : k % 4 ≤ k / 4
  · rw [if_pos (by rw [zi_le (by omega) (by omega)]; exact c1), show bh T W pm m k v = none from if_neg (fun q => by omega)]
    exact ⟨μ1, rfl, a3⟩
  · rw [if_neg (by rw [zi_le (by omega) (by omega)]; exact c1), hB1.2.2.2.1]
    by_cases c2 : m ≤ k % 4
    · rw [if_pos (by rw [zi_le (by omega) (by omega)]; exact c2), show bh T W pm m k v = none from if_neg (fun q => by omega)]
      exact ⟨μ1, rfl, a3⟩
    · have w1 := hB.2.2.2.2 (m - 1 - k / 4) (by omega)
      rw [show m - 1 - (m - 1 - k / 4) = k / 4 by omega] at w1
      have w2 := hB.2.2.2.2 (m - 1 - k % 4) (by omega)
      rw [show m - 1 - (m - 1 - k % 4) = k % 4 by omega] at w2
      have p1 := hpm.1 (m - 1 - k / 4) (by omega)
      have p2 := hpm.1 (m - 1 - k % 4) (by omega)
      have pne : pm (m - 1 - k / 4) ≠ pm (m - 1 - k % 4) := fun e => by have := hpm.2 _ _ (by omega) (by omega) e; omega
      have t1 := a2 (m - 1 - k / 4) (by omega)
      have t2 := a2 (m - 1 - k % 4) (by omega)
      rw [if_neg (by rw [zi_le (by omega) (by omega)]; exact c2), w1, w2, m_isApart hT hW hB1 hq p1 p2 pne t1 t2 (dg_le _ _) (dg_le _ _), bnd0_ok]
      by_cases c3 : fC T W pm v (m - 1 - k / 4) (m - 1 - k % 4) = true
      · rw [show decide ((T 7 (pm (m - 1 - k / 4))).testBit (pm (m - 1 - k % 4)) = false ∧ W 0 2 ≤ zd (dg v (m - 1 - k / 4)) (dg v (m - 1 - k % 4))) = true from c3, if_neg (show ¬ zi (b01 true) = (0 : Int32) from by decide)]
        obtain ⟨μ2, b1, b2⟩ := m_nears (μ := μ1) (a := pm (m - 1 - k / 4)) (b := pm (m - 1 - k % 4)) (q := q) (by omega) (by omega) pne (by omega) t1 t2 (hB1.2.2.1 _ p1) (hB1.2.2.1 _ p2) (dg_le _ _) (dg_le _ _) (wb_2 hW _) (wb_2 hW _)
        have f2 : tfr (pm, m, q) μ1 μ2 := fun k' j' hk' => by rw [b2, if_neg (fun e => hk' ⟨by omega, by omega, ⟨m - 1 - k / 4, by show m - 1 - k / 4 < m; omega, e.1⟩, e.2⟩), if_neg (fun e => hk' ⟨by omega, by omega, ⟨m - 1 - k % 4, by show m - 1 - k % 4 < m; omega, e.1⟩, e.2⟩)]
        have hs := m_stateNow (t := fW W pm v (m - 1 - k / 4) (m - 1 - k % 4)) hT hm hpm (mB9_t hT f2 hB1) hq (fun i hi => by
          rw [b2]
          unfold fW
          by_cases d1 : i = m - 1 - k / 4
          · rw [if_pos ⟨by rw [d1], rfl⟩, if_pos d1]
          · have : pm i ≠ pm (m - 1 - k / 4) := fun e => d1 (hpm.2 _ _ hi (by omega) e)
            rw [if_neg (fun e => by omega), if_neg d1]
            by_cases d2 : i = m - 1 - k % 4
            · rw [if_pos ⟨by rw [d2], rfl⟩, if_pos d2]
            · have : pm i ≠ pm (m - 1 - k % 4) := fun e => d2 (hpm.2 _ _ hi (by omega) e)
              rw [if_neg (fun e => by omega), if_neg d2]; exact a2 i hi)
        rw [b1, bnd0_ok, hs, bnd0_ok, show bh T W pm m k v = some (fN W pm m v (m - 1 - k / 4) (m - 1 - k % 4)) from if_pos ⟨by omega, by omega, c3⟩]
        exact ⟨μ2, rfl, a3.trans f2⟩
      · rw [show decide ((T 7 (pm (m - 1 - k / 4))).testBit (pm (m - 1 - k % 4)) = false ∧ W 0 2 ≤ zd (dg v (m - 1 - k / 4)) (dg v (m - 1 - k % 4))) = false from (Bool.not_eq_true _).mp c3, if_pos (show zi (b01 false) = (0 : Int32) from rfl), show bh T W pm m k v = none from if_neg (fun q => c3 q.2.2)]
        exact ⟨μ1, rfl, a3⟩
