/-! THE PURE SIDE, 64: FEW as a graph of numbers to the base of 9 -/
def val9 (f : Nat → Nat) (m : Nat) : Nat := nsum (fun i => f i * 9 ^ i) m
def dg (v i : Nat) : Nat := v / 9 ^ i % 9
theorem dg_le (v i : Nat) : dg v i ≤ 8 := by unfold dg; omega
theorem val9_lt {f : Nat → Nat} : ∀ m, (∀ i, i < m → f i ≤ 8) → val9 f m < 9 ^ m
  | 0, _ => Nat.one_pos
  | m + 1, h => by
    have h1 := val9_lt m (fun i hi => h i (by omega))
    have h2 : f m * 9 ^ m ≤ 8 * 9 ^ m := Nat.mul_le_mul_right _ (h m (by omega))
    show val9 f m + f m * 9 ^ m < 9 ^ (m + 1)
    rw [Nat.pow_succ]
    omega
theorem val9_dg (v : Nat) : ∀ m, val9 (dg v) m = v % 9 ^ m
  | 0 => by rw [Nat.pow_zero, Nat.mod_one]; rfl
  | m + 1 => by
    show val9 (dg v) m + dg v m * 9 ^ m = _
    rw [val9_dg v m, Nat.pow_succ, Nat.mod_mul, Nat.mul_comm (dg v m)]; rfl
theorem val9_id {v m : Nat} (h : v < 9 ^ m) : val9 (dg v) m = v := by rw [val9_dg, Nat.mod_eq_of_lt h]
theorem val9_congr {f g : Nat → Nat} (m : Nat) (h : ∀ i, i < m → f i = g i) : val9 f m = val9 g m := nsum_congr m (fun i hi => by rw [h i hi])
theorem dg_val9 {f : Nat → Nat} : ∀ m i, i < m → (∀ i, i < m → f i ≤ 8) → dg (val9 f m) i = f i
  | 0, i, h, _ => absurd h (by omega)
  | m + 1, i, hi, h => by
    have hv := val9_lt (f := f) m (fun i hi => h i (by omega))
    show (val9 f m + f m * 9 ^ m) / 9 ^ i % 9 = f i
    by_cases e : i = m
    · subst e
      rw [Nat.add_mul_div_right _ _ (Nat.pow_pos (by decide)), Nat.div_eq_of_lt hv, Nat.zero_add]
      have := h i (by omega)
      omega
    · have ih := dg_val9 (f := f) m i (by omega) (fun i hi => h i (by omega))
      have e1 : f m * 9 ^ m = (f m * 9 ^ (m - i - 1) * 9) * 9 ^ i := by
        rw [show m = (m - i - 1) + 1 + i by omega, Nat.pow_add, Nat.pow_succ, show (m - i - 1) + 1 + i - i - 1 = m - i - 1 by omega]
        simp only [Nat.mul_assoc]
      rw [e1, Nat.add_mul_div_right _ _ (Nat.pow_pos (by decide)), Nat.add_mul_mod_self_right]
      exact ih
theorem val9_up {f g : Nat → Nat} {i j m : Nat} (hij : i ≠ j) (hi : i < m) (hj : j < m) (h : ∀ k, k < m → k ≠ i → k ≠ j → g k = f k) : val9 g m + f i * 9 ^ i + f j * 9 ^ j = val9 f m + g i * 9 ^ i + g j * 9 ^ j := by
  have h1 := nsum_at (f := fun k => (if k = i then g k else f k) * 9 ^ k) (g := fun k => f k * 9 ^ k) (u := i) m hi (fun k _ hne => by rw [if_neg hne])
  have h2 := nsum_at (f := fun k => g k * 9 ^ k) (g := fun k => (if k = i then g k else f k) * 9 ^ k) (u := j) m hj (fun k hk hne => by
    by_cases e : k = i
    · rw [if_pos e]
    · rw [if_neg e, h k hk e hne])
  simp only [if_true, if_neg (fun e : j = i => hij e.symm)] at h1 h2
  unfold val9
  omega
theorem horner {t : Nat → Nat} {m : Nat} : ∀ k, k ≤ m → zit (fun i v => 9 * v + t (m - 1 - i)) k 0 0 * 9 ^ (m - k) + val9 t (m - k) = val9 t m
  | 0, _ => by
    show 0 * 9 ^ m + val9 t m = _
    rw [Nat.zero_mul, Nat.zero_add]
  | k + 1, h => by
    have ih := horner (t := t) (m := m) k (by omega)
    rw [zit_succ, Nat.zero_add]
    have e1 : 9 ^ (m - k) = 9 * 9 ^ (m - (k + 1)) := by rw [show m - k = (m - (k + 1)) + 1 by omega, Nat.pow_succ, Nat.mul_comm]
    have e2 : val9 t (m - k) = val9 t (m - (k + 1)) + t (m - 1 - k) * 9 ^ (m - (k + 1)) := by
      rw [show m - k = (m - (k + 1)) + 1 by omega, show m - 1 - k = m - (k + 1) by omega]; rfl
    rw [e1, e2] at ih
    rw [Nat.add_mul, show 9 * zit (fun i v => 9 * v + t (m - 1 - i)) k 0 0 * 9 ^ (m - (k + 1)) = zit (fun i v => 9 * v + t (m - 1 - i)) k 0 0 * (9 * 9 ^ (m - (k + 1))) from by rw [Nat.mul_comm 9, Nat.mul_assoc]]
    omega
/-- the PERSONS pm 0 .. pm (m - 1), the least number's first -/
def fC (T W : zN2) (pm : Nat → Nat) (v i j : Nat) : Bool := decide ((T 7 (pm i)).testBit (pm j) = false ∧ W 0 2 ≤ zd (dg v i) (dg v j))
def fW (W : zN2) (pm : Nat → Nat) (v i j k : Nat) : Nat := if k = i then nA (dg v i) (dg v j) (W 2 (pm i)) (W 2 (pm j)) else if k = j then nB (dg v i) (dg v j) (W 2 (pm i)) (W 2 (pm j)) else dg v k
def fN (W : zN2) (pm : Nat → Nat) (m v i j : Nat) : Nat := val9 (fW W pm v i j) m
def fE (T W : zN2) (pm : Nat → Nat) (m u v : Nat) : Prop := ∃ i j, i < j ∧ j < m ∧ fC T W pm u i j = true ∧ fN W pm m u i j = v
theorem fW_le {W : zN2} {pm : Nat → Nat} {v i j k : Nat} : fW W pm v i j k ≤ 8 := by
  unfold fW
  split
  · exact nA_le (dg_le _ _) (dg_le _ _)
  · split
    · exact nB_le (dg_le _ _) (dg_le _ _)
    · exact dg_le _ _
theorem fN_lt {W : zN2} {pm : Nat → Nat} {m v i j : Nat} : fN W pm m v i j < 9 ^ m := val9_lt m (fun _ _ => fW_le)
theorem fC_sym {T W : zN2} (hT : TB T) {pm : Nat → Nat} {v i j : Nat} : fC T W pm v i j = fC T W pm v j i := by
  unfold fC
  rw [tb_sym hT, zd_comm]
theorem nAB {x y a b : Nat} (h : x ≠ y) : nA x y a b = nB y x b a := by
  unfold nA nB
  by_cases c : x ≤ y
  · rw [if_pos c, if_neg (by omega)]
  · rw [if_neg c, if_pos (by omega)]
theorem fN_sym {W : zN2} {pm : Nat → Nat} {m v i j : Nat} (hij : i ≠ j) (h : dg v i ≠ dg v j) : fN W pm m v i j = fN W pm m v j i := by
  apply val9_congr
  intro k _
  unfold fW
  by_cases c1 : k = i
  · rw [if_pos c1, if_neg (by omega), if_pos c1, nAB h]
  · by_cases c2 : k = j
    · rw [if_neg c1, if_pos c2, if_pos c2, nAB (fun e => h e.symm)]
    · rw [if_neg c1, if_neg c2, if_neg c2, if_neg c1]
theorem pow9 {m : Nat} (h : m ≤ 4) : 9 ^ m ≤ 6561 := Nat.pow_le_pow_right (n := 9) (by decide) h
/-! the class -/
def xF (W : zN2) (pm : Nat → Nat) (m : Nat) (μ : zMem) : Prop := μ 69 7 = zi m ∧ μ 69 8 = zi (W 0 2) ∧ ∀ i, i < m → μ 70 i = zi (pm i) ∧ μ 71 i = zi (W 2 (pm i))
def xU (m v : Nat) (μ : zMem) : Prop := ∀ i, i < m → μ 72 i = zi (dg v i)
theorem x_unfold {W : zN2} {pm : Nat → Nat} {m v : Nat} {μ : zMem} (hm : m ≤ 4) (hF : xF W pm m μ) (hv : v < 6561) : ∃ μ', f1_unfold (zi v) μ = some (0, zi 0, μ') ∧ xU m v μ' ∧ zfr (fun k => k = 72) μ μ' := by
  obtain ⟨⟨y, μ'⟩, e1, e2, e3, e4⟩ := zloopE (L := fun n i (s : Int32 × zMem) => f1_unfold_L4 (fun (μ6 : zMem) => some (0, 0, μ6)) n s.1 (zi i) s.2) (N := m) (o := fun s => some (0, 0, s.2))
    (fun i s => s.1 = zi (v / 9 ^ i) ∧ (∀ q, q < i → s.2 72 q = zi (dg v q)) ∧ zfr (fun k => k = 72) μ s.2)
    (fun n s hs => by
      show f1_unfold_L4 _ (n + 1) s.1 (zi m) s.2 = _
      rw [f1_unfold_L4, hs.2.2 69 (by decide), hF.1, if_pos (Int32.le_refl _)])
    (fun n i s hi hs => by
      obtain ⟨y, μ1⟩ := s
      obtain ⟨h1, h2, h3⟩ := hs
      dsimp only at h1 h2 h3
      subst h1
      have hdv : v / 9 ^ i ≤ v := Nat.div_le_self _ _
      have z1 : zi i + (1 : Int32) = zi (i + 1) := zi_add i 1
      have er : zrem (zi (v / 9 ^ i)) (9 : Int32) = zi (dg v i) := zrem_i (b := 9) (by omega) (by decide)
      have ev : zi (v / 9 ^ i) / (9 : Int32) = zi (v / 9 ^ (i + 1)) := by
        rw [Nat.pow_succ, ← Nat.div_div_eq_div_mul]; exact zi_div (b := 9) (by omega) (by decide)
      refine ⟨(zi (v / 9 ^ (i + 1)), zset μ1 72 i (zi (dg v i))), ?_, rfl, fun q hq => ?_, h3.set rfl⟩
      · show f1_unfold_L4 _ (n + 1) (zi (v / 9 ^ i)) (zi i) μ1 = _
        rw [f1_unfold_L4, h3 69 (by decide), hF.1, if_neg (show ¬ zi m ≤ zi i from by rw [zi_le (by omega) (by omega)]; omega), zin_i (by omega) (by omega), zlet_e, zlet_e, er, ev, z1, zi_cl (by omega)]
      · show zset μ1 72 i (zi (dg v i)) 72 q = _
        by_cases e : q = i
        · rw [e, zset_eq]
        · rw [zset_nj e]; exact h2 q (by omega))
    m 0 (zi v, μ) zF (by omega) (by unfold zF; omega) ⟨by rw [Nat.pow_zero, Nat.div_one], fun q hq => absurd hq (by omega), fun _ _ => rfl⟩
  exact ⟨μ', e1, e3, e4⟩
theorem x_canWork {T W : zN2} {pm : Nat → Nat} {m v i j : Nat} {μ : zMem} (hT : TB T) (hW : WB T W) (hX : XT T μ) (hm : m ≤ 4) (hpm : ∀ i, i < m → pm i < 8) (hF : xF W pm m μ) (hU : xU m v μ) (hi : i < m) (hj : j < m) : f1_canWork (zi i) (zi j) μ = some (0, zi (b01 (fC T W pm v i j)), μ) := by
  have h1 := hpm i hi
  have h2 := hpm j hj
  have k1 := dg_le v i
  have k2 := dg_le v j
  have hg := hW.2.2.1
  have hz : zd (dg v i) (dg v j) ≤ 8 := by unfold zd; omega
  have b0 : ∀ A, zbl (0 : Int32) A = A := fun A => zbl_0
  have b1 : ∀ A, zbl (1 : Int32) A = A := fun A => zbl_1
  have hzi : ∀ A, zin (zi i) 4 A = A := fun A => zin_i (by omega) (by omega)
  have hzj : ∀ A, zin (zi j) 4 A = A := fun A => zin_i (by omega) (by omega)
  unfold f1_canWork
  rw [hzi, hzj, zi_cl (by omega), zi_cl (by omega), (hF.2.2 i hi).1, (hF.2.2 j hj).1, x_areKin hT hX (by omega) (by omega), bnd0_ok, zlet_e, zlet_e]
  by_cases c1 : (T 7 (pm i)).testBit (pm j) = true
  · rw [if_pos c1, if_neg (show ¬ zi 1 = (0 : Int32) from by decide)]
    show zbl (0 : Int32) _ = _
    rw [b0, show fC T W pm v i j = false from decide_eq_false (fun q => by rw [c1] at q; exact absurd q.1 (by decide))]; rfl
  · rw [if_neg c1, if_pos (show zi 0 = (0 : Int32) from rfl), hzi, hzj, hU i hi, hU j hj, zabs_sub (by omega) (by omega), hF.2.1]
    by_cases c2 : zd (dg v i) (dg v j) < W 0 2
    · rw [if_pos (by rw [zi_lt (by omega) (by omega)]; exact c2)]
      show zbl (0 : Int32) _ = _
      rw [b0, show fC T W pm v i j = false from decide_eq_false (fun q => by omega)]; rfl
    · rw [if_neg (by rw [zi_lt (by omega) (by omega)]; exact c2)]
      show zbl (1 : Int32) _ = _
      rw [b1, show fC T W pm v i j = true from decide_eq_true ⟨(Bool.not_eq_true _).mp c1, by omega⟩]; rfl
theorem x_weight {i : Nat} {μ : zMem} (hi : i < 4) : f1_weight (zi i) μ = some (0, zi (9 ^ i), μ) := by
  obtain ⟨y, e1, e2⟩ := zloopE (L := fun n k (s : Int32) => f1_weight_L4 (zi i) μ (fun (x1_4 : Int32) => some (0, x1_4, μ)) n s (zi k)) (N := i) (o := fun s => some (0, s, μ)) (fun k s => s = zi (9 ^ k))
    (fun n s _ => by
      show f1_weight_L4 _ _ _ (n + 1) s (zi i) = _
      rw [f1_weight_L4, if_pos (Int32.le_refl _)])
    (fun n k s hk hs => ⟨zi (9 ^ (k + 1)), by
      subst hs
      show f1_weight_L4 _ _ _ (n + 1) (zi (9 ^ k)) (zi k) = _
      rw [f1_weight_L4, if_neg (show ¬ zi i ≤ zi k from by rw [zi_le (by omega) (by omega)]; omega), zlet_e, show (9 : Int32) = zi 9 from rfl, zi_mul, show zi k + (1 : Int32) = zi (k + 1) from zi_add k 1, Nat.pow_succ], rfl⟩)
    i 0 (zi 1) zF (by omega) (by unfold zF; omega) rfl
  rw [e2] at e1
  exact e1
theorem x_stateBehind {W : zN2} {T : zN2} {pm : Nat → Nat} {m v i j : Nat} {μ : zMem} (hW : WB T W) (hm : m ≤ 4) (hF : xF W pm m μ) (hU : xU m v μ) (hv : v < 9 ^ m) (hi : i < m) (hj : j < m) (hij : i ≠ j) : f1_stateBehind (zi v) (zi i) (zi j) μ = some (0, zi (fN W pm m v i j), μ) := by
  have h9 := pow9 hm
  have k1 := dg_le v i
  have k2 := dg_le v j
  have l1 := wb_2 hW (pm i)
  have l2 := wb_2 hW (pm j)
  have hzi : ∀ A, zin (zi i) 4 A = A := fun A => zin_i (by omega) (by omega)
  have hzj : ∀ A, zin (zi j) 4 A = A := fun A => zin_i (by omega) (by omega)
  have key := val9_up (f := dg v) (g := fW W pm v i j) hij hi hj (fun k _ h1 h2 => by unfold fW; rw [if_neg h1, if_neg h2])
  rw [val9_id hv] at key
  have gi : fW W pm v i j i = nA (dg v i) (dg v j) (W 2 (pm i)) (W 2 (pm j)) := if_pos rfl
  have gj : fW W pm v i j j = nB (dg v i) (dg v j) (W 2 (pm i)) (W 2 (pm j)) := by unfold fW; rw [if_neg (fun e => hij e.symm), if_pos rfl]
  have p1 : i < 4 := by omega
  have p2 : j < 4 := by omega
  have d1 : dg v i * 9 ^ i ≤ v := by
    have := nsum_term (f := fun k => dg v k * 9 ^ k) (u := i) m hi
    have e := val9_id hv
    unfold val9 at e
    omega
  have d2 : dg v j * 9 ^ j ≤ v := by
    have := nsum_term (f := fun k => dg v k * 9 ^ k) (u := j) m hj
    have e := val9_id hv
    unfold val9 at e
    omega
  have e9 : fN W pm m v i j = val9 (fW W pm v i j) m := rfl
  unfold f1_stateBehind
  rw [hzi, hzj, zlet_e, zi_cl (n := i) (by omega), zi_cl (n := j) (by omega), hU i hi, hU j hj]
  by_cases c : dg v j < dg v i
  · obtain ⟨n1, n2⟩ := nLo_le (lo := dg v j) (hi := dg v i) (a := W 2 (pm j)) (b := W 2 (pm i)) (by omega)
    obtain ⟨n3, n4⟩ := nHi_le (lo := dg v j) (hi := dg v i) (a := W 2 (pm j)) (b := W 2 (pm i)) (by omega)
    have ga : nA (dg v i) (dg v j) (W 2 (pm i)) (W 2 (pm j)) = nHi (dg v j) (dg v i) (W 2 (pm j)) (W 2 (pm i)) := if_neg (by omega)
    have gb : nB (dg v i) (dg v j) (W 2 (pm i)) (W 2 (pm j)) = nLo (dg v j) (dg v i) (W 2 (pm j)) (W 2 (pm i)) := if_neg (by omega)
    rw [gi, gj, ga, gb] at key
    rw [if_pos (by rw [zi_lt (by omega) (by omega)]; exact c)]
    show zlet _ _ = _
    rw [zlet_e, zi_add, zi_sub (show j ≤ i + j by omega), show i + j - j = i by omega, hzj, zlet_e, hzi, zlet_e, hzj, hzi, zi_cl (n := i) (by omega), zi_cl (n := j) (by omega), hU i hi, hU j hj, (hF.2.2 i hi).2, (hF.2.2 j hj).2, x_lesser (by omega) (by omega) l2 l1, bnd0_ok, zi_sub n1, zlet_e, hzj, hzi, (hF.2.2 i hi).2, (hF.2.2 j hj).2, x_greater (by omega) (by omega) l2 l1, bnd0_ok, zi_sub n4, zlet_e, x_weight (by omega), bnd0_ok, x_weight (by omega), bnd0_ok, zi_mul, zi_mul, zi_add]
    have m1 : (nLo (dg v j) (dg v i) (W 2 (pm j)) (W 2 (pm i)) - dg v j) * 9 ^ j = nLo (dg v j) (dg v i) (W 2 (pm j)) (W 2 (pm i)) * 9 ^ j - dg v j * 9 ^ j := Nat.sub_mul _ _ _
    have m2 : (dg v i - nHi (dg v j) (dg v i) (W 2 (pm j)) (W 2 (pm i))) * 9 ^ i = dg v i * 9 ^ i - nHi (dg v j) (dg v i) (W 2 (pm j)) (W 2 (pm i)) * 9 ^ i := Nat.sub_mul _ _ _
    have m3 : dg v j * 9 ^ j ≤ nLo (dg v j) (dg v i) (W 2 (pm j)) (W 2 (pm i)) * 9 ^ j := Nat.mul_le_mul_right _ n1
    have m4 : nHi (dg v j) (dg v i) (W 2 (pm j)) (W 2 (pm i)) * 9 ^ i ≤ dg v i * 9 ^ i := Nat.mul_le_mul_right _ n4
    rw [zi_sub (by omega), e9]
    have : v + (nLo (dg v j) (dg v i) (W 2 (pm j)) (W 2 (pm i)) - dg v j) * 9 ^ j - (dg v i - nHi (dg v j) (dg v i) (W 2 (pm j)) (W 2 (pm i))) * 9 ^ i = val9 (fW W pm v i j) m := by omega
    rw [this]
  · obtain ⟨n1, n2⟩ := nLo_le (lo := dg v i) (hi := dg v j) (a := W 2 (pm i)) (b := W 2 (pm j)) (by omega)
    obtain ⟨n3, n4⟩ := nHi_le (lo := dg v i) (hi := dg v j) (a := W 2 (pm i)) (b := W 2 (pm j)) (by omega)
    have ga : nA (dg v i) (dg v j) (W 2 (pm i)) (W 2 (pm j)) = nLo (dg v i) (dg v j) (W 2 (pm i)) (W 2 (pm j)) := if_pos (by omega)
    have gb : nB (dg v i) (dg v j) (W 2 (pm i)) (W 2 (pm j)) = nHi (dg v i) (dg v j) (W 2 (pm i)) (W 2 (pm j)) := if_pos (by omega)
    rw [gi, gj, ga, gb] at key
    rw [if_neg (by rw [zi_lt (by omega) (by omega)]; exact c)]
    show zlet _ _ = _
    rw [zlet_e, zi_add, zi_sub (show i ≤ i + j by omega), show i + j - i = j by omega, hzi, zlet_e, hzj, zlet_e, hzi, hzj, zi_cl (n := i) (by omega), zi_cl (n := j) (by omega), hU i hi, hU j hj, (hF.2.2 i hi).2, (hF.2.2 j hj).2, x_lesser (by omega) (by omega) l1 l2, bnd0_ok, zi_sub n1, zlet_e, hzi, hzj, (hF.2.2 i hi).2, (hF.2.2 j hj).2, x_greater (by omega) (by omega) l1 l2, bnd0_ok, zi_sub n4, zlet_e, x_weight (by omega), bnd0_ok, x_weight (by omega), bnd0_ok, zi_mul, zi_mul, zi_add]
    have m1 : (nLo (dg v i) (dg v j) (W 2 (pm i)) (W 2 (pm j)) - dg v i) * 9 ^ i = nLo (dg v i) (dg v j) (W 2 (pm i)) (W 2 (pm j)) * 9 ^ i - dg v i * 9 ^ i := Nat.sub_mul _ _ _
    have m2 : (dg v j - nHi (dg v i) (dg v j) (W 2 (pm i)) (W 2 (pm j))) * 9 ^ j = dg v j * 9 ^ j - nHi (dg v i) (dg v j) (W 2 (pm i)) (W 2 (pm j)) * 9 ^ j := Nat.sub_mul _ _ _
    have m3 : dg v i * 9 ^ i ≤ nLo (dg v i) (dg v j) (W 2 (pm i)) (W 2 (pm j)) * 9 ^ i := Nat.mul_le_mul_right _ n1
    have m4 : nHi (dg v i) (dg v j) (W 2 (pm i)) (W 2 (pm j)) * 9 ^ j ≤ dg v j * 9 ^ j := Nat.mul_le_mul_right _ n4
    rw [zi_sub (by omega), e9]
    have : v + (nLo (dg v i) (dg v j) (W 2 (pm i)) (W 2 (pm j)) - dg v i) * 9 ^ i - (dg v j - nHi (dg v i) (dg v j) (W 2 (pm i)) (W 2 (pm j))) * 9 ^ j = val9 (fW W pm v i j) m := by omega
    rw [this]
