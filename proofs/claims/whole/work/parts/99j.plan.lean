/-! THE PURE SIDE, 49: TODAY, the class's twos -/
def fO (T W : zN2) (d a b : Nat) : Bool := decide (a < b ∧ b < W 0 3 ∧ tE T W d a b = 0)
theorem fO_iff {T W : zN2} {d a b : Nat} : fO T W d a b = true ↔ tO T W d a b := decide_eq_true_iff
theorem bset_0 {f : Nat → Bool} : ∀ n, (∀ i, i < n → f i = false) → bset f n = 0
  | 0, _ => rfl
  | n + 1, h => by
    rw [bset, bset_0 n (fun i hi => h i (by omega)), h n (by omega), if_neg (by decide)]; rfl
/-- whether something was found -/
def fnd (v : Int32) (p : Prop) : Prop := (v = zi 1 ∧ p) ∨ (v = zi 0 ∧ ¬ p)
theorem fnd_iff {v : Int32} {p q : Prop} (h : fnd v p) (hq : p ↔ q) : fnd v q := by
  rcases h with ⟨h1, h2⟩ | ⟨h1, h2⟩
  · exact Or.inl ⟨h1, hq.1 h2⟩
  · exact Or.inr ⟨h1, fun q => h2 (hq.2 q)⟩
/-- how many below n with p -/
def cn (p : Nat → Bool) : Nat → Nat
  | 0 => 0
  | n + 1 => cn p n + (if p n = true then 1 else 0)
theorem cn_s1 {p : Nat → Bool} {c : Nat} (h : p c = true) : cn p (c + 1) = cn p c + 1 := by
  show cn p c + (if p c = true then 1 else 0) = _
  rw [if_pos h]
theorem cn_s0 {p : Nat → Bool} {c : Nat} (h : ¬ p c = true) : cn p (c + 1) = cn p c := by
  show cn p c + (if p c = true then 1 else 0) = _
  rw [if_neg h, Nat.add_zero]
theorem cn_add (p : Nat → Bool) (m : Nat) : ∀ k, cn p m ≤ cn p (m + k)
  | 0 => Nat.le_refl _
  | k + 1 => Nat.le_trans (cn_add p m k) (Nat.le_add_right _ _)
theorem cn_le {p : Nat → Bool} {m n : Nat} (h : m ≤ n) : cn p m ≤ cn p n := by
  obtain ⟨k, rfl⟩ := Nat.exists_eq_add_of_le h
  exact cn_add p m k
theorem cn_lt {p : Nat → Bool} {c n : Nat} (h : p c = true) (hn : c < n) : cn p c < cn p n := by
  have := cn_le (p := p) (show c + 1 ≤ n from hn)
  rw [cn_s1 h] at this
  omega
theorem cn_ex {p : Nat → Bool} {i : Nat} : ∀ n, i < cn p n → ∃ c, c < n ∧ p c = true ∧ cn p c = i
  | 0, h => absurd h (Nat.not_lt_zero _)
  | n + 1, h => by
    by_cases hp : p n = true
    · rw [cn_s1 hp] at h
      by_cases e : i = cn p n
      · exact ⟨n, by omega, hp, e.symm⟩
      · obtain ⟨c, h1, h2, h3⟩ := cn_ex n (show i < cn p n by omega)
        exact ⟨c, by omega, h2, h3⟩
    · rw [cn_s0 hp] at h
      obtain ⟨c, h1, h2, h3⟩ := cn_ex n h
      exact ⟨c, by omega, h2, h3⟩
theorem cn_inj {p : Nat → Bool} {c c' : Nat} (h : p c = true) (h' : p c' = true) (e : cn p c = cn p c') : c = c' := by
  rcases Nat.lt_trichotomy c c' with q | q | q
  · have := cn_lt h q; omega
  · exact q
  · have := cn_lt h' q; omega
theorem cn_flat {p : Nat → Bool} {m : Nat} : ∀ k, (∀ c, m ≤ c → c < m + k → ¬ p c = true) → cn p (m + k) = cn p m
  | 0, _ => rfl
  | k + 1, h => by
    show cn p (m + k + 1) = _
    rw [cn_s0 (h (m + k) (by omega) (by omega))]
    exact cn_flat k (fun c h1 h2 => h c h1 (by omega))
theorem cn_mono {p q : Nat → Bool} (h : ∀ c, p c = true → q c = true) : ∀ n, cn p n ≤ cn q n
  | 0 => Nat.le_refl _
  | n + 1 => by
    have := cn_mono h n
    by_cases hp : p n = true
    · rw [cn_s1 hp, cn_s1 (h n hp)]; omega
    · rw [cn_s0 hp]; exact Nat.le_trans this (cn_le (Nat.le_succ n))
/-- two by their number 10 a + b -/
def pO (T W : zN2) (d c : Nat) : Bool := fO T W d (c / 10) (c % 10)
def tb2 (c : Nat) : Nat := 2 ^ (c / 10) ||| 2 ^ (c % 10)
theorem tb2_at {a b : Nat} (hb : b < 10) : tb2 (10 * a + b) = 2 ^ a ||| 2 ^ b := by
  unfold tb2
  rw [show (10 * a + b) / 10 = a by omega, show (10 * a + b) % 10 = b by omega]
theorem pO_at {T W : zN2} {d a b : Nat} (hb : b < 10) : pO T W d (10 * a + b) = fO T W d a b := by
  unfold pO
  rw [show (10 * a + b) / 10 = a by omega, show (10 * a + b) % 10 = b by omega]
theorem pO_tO {T W : zN2} {d c : Nat} (h : pO T W d c = true) : tO T W d (c / 10) (c % 10) := fO_iff.1 h
theorem pO_of {T W : zN2} (hW : WB T W) {d a b : Nat} (h : tO T W d a b) : pO T W d (10 * a + b) = true := by
  have hP := hW.2.2.2.1
  have := h.2.1
  rw [pO_at (by omega)]
  exact fO_iff.2 h
theorem pO_bd {T W : zN2} (hW : WB T W) {d c : Nat} (h : pO T W d c = true) : c / 10 < c % 10 ∧ c % 10 < W 0 3 ∧ c % 10 < 9 ∧ c < 90 := by
  have h1 := pO_tO h
  have hP := hW.2.2.2.1
  have h2 := h1.1
  have h3 := h1.2.1
  exact ⟨h2, h3, by omega, by omega⟩
def qO (c : Nat) : Bool := decide (c / 10 < c % 10 ∧ c % 10 < 9)
theorem cn_q : cn qO 90 = 36 := by decide +kernel
theorem pO_36 {T W : zN2} (hW : WB T W) {d : Nat} : cn (pO T W d) 90 ≤ 36 := by
  have := cn_mono (p := pO T W d) (q := qO) (fun c h => decide_eq_true ⟨(pO_bd hW h).1, (pO_bd hW h).2.2.1⟩) 90
  rw [cn_q] at this
  exact this
/-- the class's row of twos of a DOOR -/
def xTw (T W : zN2) (d : Nat) (μ : zMem) : Prop := μ 51 d = zi (cn (pO T W d) 90) ∧ ∀ c, pO T W d c = true → μ 50 (d * 36 + cn (pO T W d) c) = zi (tb2 c)
theorem x_twos20 {T W : zN2} {d a : Nat} (hT : TB T) (hW : WB T W) (hd : d < T 2 2) (ha : a < W 0 3) (K : Int32 → zMem → zRes) {μ : zMem} (hX : XT T μ) (hS : XS T W 28 μ) (h49 : μ 49 5 = zi (W 0 3)) (h50 : ∀ c, c < 10 * a + (a + 1) → pO T W d c = true → μ 50 (d * 36 + cn (pO T W d) c) = zi (tb2 c)) :
    ∃ μ', f2_findTwos_L20 (zi d) (zi a) K zF (zi (cn (pO T W d) (10 * a + (a + 1)))) (zi (a + 1)) μ = K (zi (cn (pO T W d) (10 * a + W 0 3))) μ' ∧ (∀ c, c < 10 * a + W 0 3 → pO T W d c = true → μ' 50 (d * 36 + cn (pO T W d) c) = zi (tb2 c)) ∧ (∀ j, j < d * 36 ∨ d * 36 + 36 ≤ j → μ' 50 j = μ 50 j) ∧ zfr (fun k => k = 50) μ μ' := by
  have hP := hW.2.2.2.1
  have hD := hT.2.2.1
  have h36 := pO_36 hW (d := d)
  obtain ⟨μ', e1, e2, e3, e4, -⟩ := zloopE (L := fun n i (s : zMem) => f2_findTwos_L20 (zi d) (zi a) K n (zi (cn (pO T W d) (10 * a + i))) (zi i) s) (N := W 0 3) (o := fun s => K (zi (cn (pO T W d) (10 * a + W 0 3))) s)
    (fun i s => (∀ c, c < 10 * a + i → pO T W d c = true → s 50 (d * 36 + cn (pO T W d) c) = zi (tb2 c)) ∧ (∀ j, j < d * 36 ∨ d * 36 + 36 ≤ j → s 50 j = μ 50 j) ∧ zfr (fun k => k = 50) μ s ∧ a < i)
    (fun n s hs => by
      show f2_findTwos_L20 (zi d) (zi a) K (n + 1) _ (zi (W 0 3)) s = _
      rw [f2_findTwos_L20, hs.2.2.1 49 (by decide), h49, if_pos (Int32.le_refl _)])
    (fun n i s hi hs => by
      obtain ⟨s1, s2, s3, s4⟩ := hs
      have z1 : zi i + (1 : Int32) = zi (i + 1) := zi_add i 1
      have hX' : XT T s := XT_of (fun key hk => s3 key (by omega)) hX
      have hS' : XS T W 28 s := XS_of (fun key h1 h2 => s3 key (by omega)) hS
      have hlt := tE_lt (T := T) (W := W) (d := d) (a := a) (b := i)
      have hle : ¬ zi (W 0 3) ≤ zi i := by rw [zi_le (by omega) (by omega)]; omega
      by_cases h0 : tE T W d a i = 0
      · have hp : pO T W d (10 * a + i) = true := pO_of hW ⟨s4, hi, h0⟩
        have hc := cn_lt (n := 90) hp (pO_bd hW hp).2.2.2
        have e9 : cn (pO T W d) (10 * a + (i + 1)) = cn (pO T W d) (10 * a + i) + 1 := cn_s1 (c := 10 * a + i) hp
        refine ⟨zset s 50 (d * 36 + cn (pO T W d) (10 * a + i)) (zi (tb2 (10 * a + i))), ?_, fun c hc1 hc2 => ?_, fun j hj => ?_, s3.set rfl, by omega⟩
        · show f2_findTwos_L20 (zi d) (zi a) K (n + 1) (zi (cn (pO T W d) (10 * a + i))) (zi i) s = f2_findTwos_L20 (zi d) (zi a) K n (zi (cn (pO T W d) (10 * a + (i + 1)))) (zi (i + 1)) (zset s 50 (d * 36 + cn (pO T W d) (10 * a + i)) (zi (tb2 (10 * a + i))))
          rw [e9, tb2_at (show i < 10 by omega)]
          generalize cn (pO T W d) (10 * a + i) = m at hc
          have ei : zi d * (36 : Int32) + zi m = zi (d * 36 + m) := by rw [show (36 : Int32) = zi 36 from rfl, zi_mul, zi_add]
          have em : zi m + (1 : Int32) = zi (m + 1) := zi_add m 1
          rw [f2_findTwos_L20, s3 49 (by decide), h49, if_neg hle, x_errs hT hW hX' hS' hd ha hi, bnd0_ok, zlet_e, h0, if_pos (show zi 0 = (0 : Int32) from rfl), if_neg (show ¬ (36 : Int32) ≤ zi m from by rw [show (36 : Int32) = zi 36 from rfl, zi_le (by omega) (by omega)]; omega), ei, zin_i (by omega) (by omega), zlet_e, zi_cl (by omega), show zshl (1 : Int32) (zi a) = zi (2 ^ a) from zshl1 (by omega), show zshl (1 : Int32) (zi i) = zi (2 ^ i) from zshl1 (by omega), zi_or, z1, em]
        · by_cases e : c = 10 * a + i
          · subst e; exact zset_eq
          · have := cn_lt (n := 10 * a + i) hc2 (by omega)
            rw [zset_nj (by omega)]; exact s1 c (by omega) hc2
        · rw [zset_nj (by omega)]; exact s2 j hj
      · have hp : ¬ pO T W d (10 * a + i) = true := fun q => by
          rw [pO_at (by omega)] at q
          exact h0 (fO_iff.1 q).2.2
        have e9 : cn (pO T W d) (10 * a + (i + 1)) = cn (pO T W d) (10 * a + i) := cn_s0 (c := 10 * a + i) hp
        refine ⟨s, ?_, fun c hc1 hc2 => ?_, s2, s3, by omega⟩
        · show f2_findTwos_L20 (zi d) (zi a) K (n + 1) (zi (cn (pO T W d) (10 * a + i))) (zi i) s = f2_findTwos_L20 (zi d) (zi a) K n (zi (cn (pO T W d) (10 * a + (i + 1)))) (zi (i + 1)) s
          rw [e9, f2_findTwos_L20, s3 49 (by decide), h49, if_neg hle, x_errs hT hW hX' hS' hd ha hi, bnd0_ok, zlet_e, if_neg (show ¬ zi (tE T W d a i) = (0 : Int32) from by rw [show (0 : Int32) = zi 0 from rfl, zi_eq (by omega) (by omega)]; exact h0), z1]
        · by_cases e : c = 10 * a + i
          · exact absurd (e ▸ hc2) hp
          · exact s1 c (by omega) hc2)
    (W 0 3 - (a + 1)) (a + 1) μ zF (by omega) (by unfold zF; omega) ⟨h50, fun _ _ => rfl, fun _ _ => rfl, by omega⟩
  exact ⟨μ', e1, e2, e3, e4⟩
theorem x_twos5 {T W : zN2} {d : Nat} (hT : TB T) (hW : WB T W) (hd : d < T 2 2) (K : Int32 → zMem → zRes) {μ : zMem} (hX : XT T μ) (hS : XS T W 28 μ) (h49 : μ 49 5 = zi (W 0 3)) :
    ∃ μ', f2_findTwos_L5 (zi d) K zF (zi 0) (zi 0) μ = K (zi (cn (pO T W d) 90)) μ' ∧ (∀ c, pO T W d c = true → μ' 50 (d * 36 + cn (pO T W d) c) = zi (tb2 c)) ∧ (∀ j, j < d * 36 ∨ d * 36 + 36 ≤ j → μ' 50 j = μ 50 j) ∧ zfr (fun k => k = 50) μ μ' := by
  have hP := hW.2.2.2.1
  have hD := hT.2.2.1
  obtain ⟨μ', e1, e2, e3, e4⟩ := zloopE (L := fun n i (s : zMem) => f2_findTwos_L5 (zi d) K n (zi (cn (pO T W d) (10 * i))) (zi i) s) (N := W 0 3) (o := fun s => K (zi (cn (pO T W d) (10 * W 0 3))) s)
    (fun i s => (∀ c, c < 10 * i → pO T W d c = true → s 50 (d * 36 + cn (pO T W d) c) = zi (tb2 c)) ∧ (∀ j, j < d * 36 ∨ d * 36 + 36 ≤ j → s 50 j = μ 50 j) ∧ zfr (fun k => k = 50) μ s)
    (fun n s hs => by
      show f2_findTwos_L5 (zi d) K (n + 1) _ (zi (W 0 3)) s = _
      rw [f2_findTwos_L5, hs.2.2 49 (by decide), h49, if_pos (Int32.le_refl _)])
    (fun n i s hi hs => by
      obtain ⟨s1, s2, s3⟩ := hs
      have z1 : zi i + (1 : Int32) = zi (i + 1) := zi_add i 1
      have hX' : XT T s := XT_of (fun key hk => s3 key (by omega)) hX
      have hS' : XS T W 28 s := XS_of (fun key h1 h2 => s3 key (by omega)) hS
      have hle : ¬ zi (W 0 3) ≤ zi i := by rw [zi_le (by omega) (by omega)]; omega
      have f1 : cn (pO T W d) (10 * i + (i + 1)) = cn (pO T W d) (10 * i) := cn_flat (i + 1) (fun c h1 h2 q => by
        have := (pO_bd hW q).1
        omega)
      have f2 : cn (pO T W d) (10 * (i + 1)) = cn (pO T W d) (10 * i + W 0 3) := by
        have := cn_flat (p := pO T W d) (m := 10 * i + W 0 3) (10 - W 0 3) (fun c h1 h2 q => by
          have := (pO_bd hW q).2.1
          omega)
        rw [← this]
        exact congrArg _ (by omega)
      obtain ⟨μ2, b1, b2, b3, b4⟩ := x_twos20 hT hW hd hi (fun (x3_17 : Int32) (μ18 : zMem) => f2_findTwos_L5 (zi d) K n x3_17 (zi i + (1 : Int32)) μ18) hX' hS' (by rw [s3 49 (by decide)]; exact h49) (fun c hc q => s1 c (by
        have := (pO_bd hW q).1
        omega) q)
      refine ⟨μ2, ?_, fun c hc q => b2 c (by
        have := (pO_bd hW q).2.1
        omega) q, fun j hj => (b3 j hj).trans (s2 j hj), s3.trans b4⟩
      show f2_findTwos_L5 (zi d) K (n + 1) (zi (cn (pO T W d) (10 * i))) (zi i) s = f2_findTwos_L5 (zi d) K n (zi (cn (pO T W d) (10 * (i + 1)))) (zi (i + 1)) μ2
      rw [f2_findTwos_L5, s3 49 (by decide), h49, if_neg hle, zlet_e, f2, ← z1, ← f1]
      rw [← z1] at b1
      exact b1)
    (W 0 3) 0 μ zF (by omega) (by unfold zF; omega) ⟨fun c hc => absurd hc (by omega), fun _ _ => rfl, fun _ _ => rfl⟩
  have f9 : cn (pO T W d) 90 = cn (pO T W d) (10 * W 0 3) := by
    have := cn_flat (p := pO T W d) (m := 10 * W 0 3) (90 - 10 * W 0 3) (fun c h1 h2 q => by
      have h3 := pO_bd hW q
      omega)
    rw [← this]
    exact congrArg _ (by omega)
  rw [f9]
  exact ⟨μ', e1, fun c q => e2 c (by have h3 := pO_bd hW q; omega) q, e3, e4⟩
theorem x_findTwos {T W : zN2} {d : Nat} (hT : TB T) (hW : WB T W) (hd : d < T 2 2) {μ : zMem} (hX : XT T μ) (hS : XS T W 28 μ) (h49 : μ 49 5 = zi (W 0 3)) :
    ∃ μ', f2_findTwos (zi d) μ = some (0, zi 0, μ') ∧ xTw T W d μ' ∧ (∀ j, j < d * 36 ∨ d * 36 + 36 ≤ j → μ' 50 j = μ 50 j) ∧ (∀ j, j ≠ d → μ' 51 j = μ 51 j) ∧ zfr (fun k => k = 50 ∨ k = 51) μ μ' := by
  have hD := hT.2.2.1
  obtain ⟨μ1, a1, a2, a3, a4⟩ := x_twos5 hT hW hd (fun (x3_19 : Int32) (μ20 : zMem) => zin (zi d) 10 (zlet (zset μ20 51 (zi d).toNatClampNeg x3_19) (fun (μ22 : zMem) => some (0, 0, μ22)))) hX hS h49
  refine ⟨zset μ1 51 d (zi (cn (pO T W d) 90)), ?_, ⟨zset_eq, fun c q => ?_⟩, fun j hj => ?_, fun j hj => ?_, (a4.mono (fun k hk => Or.inl hk)).set (Or.inr rfl)⟩
  · unfold f2_findTwos
    refine a1.trans ?_
    show zin (zi d) 10 _ = _
    rw [zin_i (by omega) (by omega), zlet_e, zi_cl (by omega)]
    rfl
  · rw [zset_nk (by decide)]; exact a2 c q
  · rw [zset_nk (by decide)]; exact a3 j hj
  · rw [zset_nj hj, a4 51 (by decide)]
