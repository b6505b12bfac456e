/-! THE PURE SIDE, 58: stranger -/
def dOk (t : Nat) (Q : Nat) : Bool := ball (fun k => decide (t / 10 ^ k % 10 ≤ 8)) Q
theorem d10 (t i : Nat) : t / 10 ^ i / 10 = t / 10 ^ (i + 1) := by rw [Nat.div_div_eq_div_mul, Nat.pow_succ]
theorem ball_s {p : Nat → Bool} {n : Nat} : ball p (n + 1) = (ball p n && p n) := rfl
/-- the scene with a STRANGER -/
def stW (T W : zN2) (t l : Nat) : zN2 := fun k j => if k = 0 ∧ j = 3 then W 0 3 + 1 else if k = 1 ∧ j = W 0 3 then T 2 4 else if k = 2 ∧ j = W 0 3 then l else if k = 4 + W 0 3 then (if j < T 2 0 then t / 10 ^ j % 10 else 0) else W k j
theorem stW_03 {T W : zN2} {t l : Nat} : stW T W t l 0 3 = W 0 3 + 1 := if_pos ⟨rfl, rfl⟩
theorem stW_0 {T W : zN2} {t l j : Nat} (h : j ≠ 3) : stW T W t l 0 j = W 0 j := by
  unfold stW; rw [if_neg (by omega), if_neg (by omega), if_neg (by omega), if_neg (by omega)]
theorem stW_1 {T W : zN2} {t l p : Nat} (h : p ≠ W 0 3) : stW T W t l 1 p = W 1 p := by
  unfold stW; rw [if_neg (by omega), if_neg (by omega), if_neg (by omega), if_neg (by omega)]
theorem stW_1' {T W : zN2} {t l : Nat} : stW T W t l 1 (W 0 3) = T 2 4 := by
  unfold stW; rw [if_neg (by omega), if_pos ⟨rfl, rfl⟩]
theorem stW_2 {T W : zN2} {t l p : Nat} (h : p ≠ W 0 3) : stW T W t l 2 p = W 2 p := by
  unfold stW; rw [if_neg (by omega), if_neg (by omega), if_neg (by omega), if_neg (by omega)]
theorem stW_2' {T W : zN2} {t l : Nat} : stW T W t l 2 (W 0 3) = l := by
  unfold stW; rw [if_neg (by omega), if_neg (by omega), if_pos ⟨rfl, rfl⟩]
theorem stW_4 {T W : zN2} {t l p q : Nat} (h : p ≠ W 0 3) : stW T W t l (4 + p) q = W (4 + p) q := by
  unfold stW; rw [if_neg (by omega), if_neg (by omega), if_neg (by omega), if_neg (by omega)]
theorem stW_4' {T W : zN2} {t l q : Nat} (h : q < T 2 0) : stW T W t l (4 + W 0 3) q = t / 10 ^ q % 10 := by
  unfold stW; rw [if_neg (by omega), if_neg (by omega), if_neg (by omega), if_pos rfl, if_pos h]
theorem wb_st {T W : zN2} {t l : Nat} (hT : TB T) (hW : WB T W) (hP : W 0 3 = T 2 1) (hl : l ≤ 4) (ht : dOk t (T 2 0) = true) : WB T (stW T W t l) := by
  have hPP := hT.2.1
  have h4 := hT.2.2.2.2.1
  unfold dOk at ht
  rw [ball_iff] at ht
  unfold WB at hW ⊢
  obtain ⟨h1, h2, h3, h4', h5, h6, h7, h8, h9⟩ := hW
  refine ⟨?_, ?_, ?_, ?_, ?_, fun p => ?_, fun p => ?_, fun p q => ?_, ?_⟩
  · rw [stW_0 (by decide)]; exact h1
  · rw [stW_0 (by decide)]; exact h2
  · rw [stW_0 (by decide)]; exact h3
  · rw [stW_03]; omega
  · rw [stW_0 (by decide)]; exact h5
  · by_cases e : p = W 0 3
    · rw [e, stW_1']; exact h4
    · rw [stW_1 e]; exact h6 p
  · by_cases e : p = W 0 3
    · rw [e, stW_2']; exact hl
    · rw [stW_2 e]; exact h7 p
  · by_cases e : p = W 0 3
    · subst e
      by_cases c : q < T 2 0
      · rw [stW_4' c]; exact of_decide_eq_true (ht q c)
      · unfold stW; rw [if_neg (by omega), if_neg (by omega), if_neg (by omega), if_pos rfl, if_neg c]; omega
    · rw [stW_4 e]; exact h8 p q
  · rw [stW_0 (by decide)]; exact h9
theorem st_asked {T W : zN2} {t l q : Nat} : stW T (nup W 0 1 q) t l = nup (stW T W t l) 0 1 q := by
  have e3 : nup W 0 1 q 0 3 = W 0 3 := nup_nj (by decide)
  funext k j
  unfold stW
  rw [e3, nup_at, nup_at]
  by_cases c1 : k = 0 ∧ j = 1
  · rw [if_neg (by omega), if_neg (by omega), if_neg (by omega), if_neg (by omega), if_pos c1, if_pos c1]
  · rw [if_neg c1, if_neg c1]
theorem st_qOk {T W W' : zN2} {x : Int32} {t l : Nat} (h : qOk T W x W') : qOk T (stW T W t l) x (stW T W' t l) := by
  rcases h with ⟨h1, h2⟩ | ⟨q, h0, h1, h2⟩
  · exact Or.inl ⟨h1, by rw [h2]⟩
  · exact Or.inr ⟨q, h0, h1, by rw [h2, st_asked]⟩
theorem x_areTh {T : zN2} {μ : zMem} (hT : TB T) (hX : XT T μ) {t : Nat} (ht : t < 2147483648) : f8_areThoughts (zi t) μ = some (0, zi (b01 (dOk t (T 2 0) && decide (t / 10 ^ T 2 0 = 0))), μ) := by
  have hQ := hT.1
  have b0 : ∀ A, zbl (0 : Int32) A = A := fun A => zbl_0
  have b1 : ∀ A, zbl (1 : Int32) A = A := fun A => zbl_1
  have h := zloopQ (L := fun n i (_ : Unit) => f8_areThoughts_L4 μ (fun (x2_6 : Int32) => zlet (fun (s7 : Int32) => zbl s7 (some (0, s7, μ))) (fun j8 => zlet (j8 (0 : Int32)) (fun j9 => if zi t < 0 then j9 else if x2_6 = 0 then j8 (1 : Int32) else j9))) (some (0, (0 : Int32), μ)) n (zi (t / 10 ^ i)) (zi i)) (N := T 2 0)
    (fun r => r = some (0, zi (b01 (dOk t (T 2 0) && decide (t / 10 ^ T 2 0 = 0))), μ)) (fun i _ => dOk t i = true)
    (fun n _ hs => by
      have hd : t / 10 ^ T 2 0 ≤ t := Nat.div_le_self _ _
      show f8_areThoughts_L4 μ _ _ (n + 1) (zi (t / 10 ^ T 2 0)) (zi (T 2 0)) = _
      rw [f8_areThoughts_L4, hX.1.1, if_pos (Int32.le_refl _), zlet_e, zlet_e, if_neg (show ¬ zi t < (0 : Int32) from by rw [show (0 : Int32) = zi 0 from rfl, zi_lt (by omega) (by omega)]; omega), hs, Bool.true_and]
      by_cases c : t / 10 ^ T 2 0 = 0
      · rw [if_pos (show zi (t / 10 ^ T 2 0) = (0 : Int32) from by rw [c]; rfl), decide_eq_true c]
        show zbl (1 : Int32) _ = _
        rw [b1]; rfl
      · rw [if_neg (show ¬ zi (t / 10 ^ T 2 0) = (0 : Int32) from by rw [show (0 : Int32) = zi 0 from rfl, zi_eq (by omega) (by omega)]; exact c), decide_eq_false c]
        show zbl (0 : Int32) _ = _
        rw [b0]; rfl)
    (fun n i _ hi hs => by
      have hd : t / 10 ^ i ≤ t := Nat.div_le_self _ _
      have z1 : zi i + (1 : Int32) = zi (i + 1) := zi_add i 1
      have er : zrem (zi (t / 10 ^ i)) (10 : Int32) = zi (t / 10 ^ i % 10) := zrem_i (b := 10) (by omega) (by decide)
      have ev : zi (t / 10 ^ i) / (10 : Int32) = zi (t / 10 ^ (i + 1)) := by rw [← d10]; exact zi_div (b := 10) (by omega) (by decide)
      by_cases c : t / 10 ^ i % 10 ≤ 8
      · right
        refine ⟨(), ?_, ?_⟩
        · show f8_areThoughts_L4 μ _ _ (n + 1) (zi (t / 10 ^ i)) (zi i) = _
          rw [f8_areThoughts_L4, hX.1.1, if_neg (show ¬ zi (T 2 0) ≤ zi i from by rw [zi_le (by omega) (by omega)]; omega), er, if_pos (show zi (t / 10 ^ i % 10) ≤ (8 : Int32) from by rw [show (8 : Int32) = zi 8 from rfl, zi_le (by omega) (by omega)]; exact c), zlet_e, ev, z1]
        · unfold dOk at hs ⊢
          rw [ball_s, hs, Bool.true_and]; exact decide_eq_true c
      · left
        show f8_areThoughts_L4 μ _ _ (n + 1) (zi (t / 10 ^ i)) (zi i) = _
        rw [f8_areThoughts_L4, hX.1.1, if_neg (show ¬ zi (T 2 0) ≤ zi i from by rw [zi_le (by omega) (by omega)]; omega), er, if_neg (show ¬ zi (t / 10 ^ i % 10) ≤ (8 : Int32) from by rw [show (8 : Int32) = zi 8 from rfl, zi_le (by omega) (by omega)]; exact c)]
        have : dOk t (T 2 0) = false := by
          cases e : dOk t (T 2 0)
          · rfl
          · unfold dOk at e
            rw [ball_iff] at e
            exact absurd (of_decide_eq_true (e i hi)) c
        rw [this]; rfl)
    (T 2 0) 0 () zF (by omega) (by unfold zF; omega) rfl
  rw [show t / 10 ^ 0 = t from by rw [Nat.pow_zero, Nat.div_one]] at h
  exact h
theorem x_areTn {T : zN2} {μ : zMem} (hT : TB T) (hX : XT T μ) {x : Int32} (hx : x < 0) : f8_areThoughts x μ = some (0, zi 0, μ) := by
  have hQ := hT.1
  have b0 : ∀ A, zbl (0 : Int32) A = A := fun A => zbl_0
  have h := zloopQ (L := fun n i (y : Int32) => f8_areThoughts_L4 μ (fun (x2_6 : Int32) => zlet (fun (s7 : Int32) => zbl s7 (some (0, s7, μ))) (fun j8 => zlet (j8 (0 : Int32)) (fun j9 => if x < 0 then j9 else if x2_6 = 0 then j8 (1 : Int32) else j9))) (some (0, (0 : Int32), μ)) n y (zi i)) (N := T 2 0)
    (fun r => r = some (0, zi 0, μ)) (fun _ _ => True)
    (fun n y _ => by
      show f8_areThoughts_L4 μ _ _ (n + 1) y (zi (T 2 0)) = _
      rw [f8_areThoughts_L4, hX.1.1, if_pos (Int32.le_refl _), zlet_e, zlet_e, if_pos hx]
      show zbl (0 : Int32) _ = _
      rw [b0]; rfl)
    (fun n i y hi _ => by
      have z1 : zi i + (1 : Int32) = zi (i + 1) := zi_add i 1
      by_cases c : zrem y (10 : Int32) ≤ (8 : Int32)
      · right
        refine ⟨y / (10 : Int32), ?_, trivial⟩
        show f8_areThoughts_L4 μ _ _ (n + 1) y (zi i) = _
        rw [f8_areThoughts_L4, hX.1.1, if_neg (show ¬ zi (T 2 0) ≤ zi i from by rw [zi_le (by omega) (by omega)]; omega), if_pos c, zlet_e, z1]
      · left
        show f8_areThoughts_L4 μ _ _ (n + 1) y (zi i) = _
        rw [f8_areThoughts_L4, hX.1.1, if_neg (show ¬ zi (T 2 0) ≤ zi i from by rw [zi_le (by omega) (by omega)]; omega), if_neg c]; rfl)
    (T 2 0) 0 x zF (by omega) (by unfold zF; omega) trivial
  exact h
/-- the reference reads the STRANGER's digits -/
def stF (_ : Nat) (s : Int32 × Int32) : Int32 × Int32 := (if s.1 = 0 then 0 else if (9 : Int32) ≤ zrem s.2 (10 : Int32) then 0 else 1, s.2 / (10 : Int32))
theorem m_str31 {T : zN2} {μ : zMem} (hT : TB T) (hM : MT T μ) (K : Int32 → Int32 → zRes) (s : Int32 × Int32) : f9_stranger_L31 μ K zF s.1 s.2 (zi 0) = K (zit stF (T 2 0) 0 s).1 (zit stF (T 2 0) 0 s).2 := by
  have hQ := hT.1
  have z0 : ∀ A, zin (0 : Int32) 6 A = A := fun A => zin_i (i := 0) (by decide) (by decide)
  have n0 : (0 : Int32).toNatClampNeg = 0 := by decide
  obtain ⟨e1, -⟩ := zloopF (L := fun n i (c : Int32 × Int32) => f9_stranger_L31 μ K n c.1 c.2 (zi i)) (N := T 2 0) (F := stF) (o := fun c => K c.1 c.2) (fun _ _ => True)
    (fun n c _ => by
      show f9_stranger_L31 μ K (n + 1) c.1 c.2 (zi (T 2 0)) = _
      rw [f9_stranger_L31, z0, n0, hM.1.1, if_pos (Int32.le_refl _)])
    (fun n i c hi _ => by
      have z1 : zi i + (1 : Int32) = zi (i + 1) := zi_add i 1
      refine ⟨?_, trivial⟩
      show f9_stranger_L31 μ K (n + 1) c.1 c.2 (zi i) = f9_stranger_L31 μ K n (stF i c).1 (stF i c).2 (zi (i + 1))
      rw [f9_stranger_L31, z0, n0, hM.1.1, if_neg (show ¬ zi (T 2 0) ≤ zi i from by rw [zi_le (by omega) (by omega)]; omega), zlet_e, zlet_e, z1]
      unfold stF
      by_cases c1 : c.1 = 0
      · rw [if_pos c1, if_pos c1]; rfl
      · rw [if_neg c1, if_neg c1]
        by_cases c2 : (9 : Int32) ≤ zrem c.2 (10 : Int32)
        · rw [if_pos c2, if_pos c2]; rfl
        · rw [if_neg c2, if_neg c2]; rfl)
    (T 2 0) 0 s zF (by omega) (by unfold zF; omega) trivial
  exact e1
theorem stF_0 : ∀ m i (s : Int32 × Int32), s.1 = 0 → (zit stF m i s).1 = 0
  | 0, _, _, h => h
  | m + 1, i, s, h => stF_0 m (i + 1) (stF i s) (if_pos h)
theorem stF_i {t : Nat} (ht : t < 2147483648) : ∀ m, zit stF m 0 (zi 1, zi t) = (zi (b01 (dOk t m)), zi (t / 10 ^ m))
  | 0 => by
    show (zi 1, zi t) = _
    rw [show t / 10 ^ 0 = t from by rw [Nat.pow_zero, Nat.div_one]]; rfl
  | m + 1 => by
    have hd : t / 10 ^ m ≤ t := Nat.div_le_self _ _
    have er : zrem (zi (t / 10 ^ m)) (10 : Int32) = zi (t / 10 ^ m % 10) := zrem_i (b := 10) (by omega) (by decide)
    have ev : zi (t / 10 ^ m) / (10 : Int32) = zi (t / 10 ^ (m + 1)) := by rw [← d10]; exact zi_div (b := 10) (by omega) (by decide)
    rw [zit_succ, stF_i ht m]
    unfold stF
    dsimp only
    rw [er, ev]
    congr 1
    have eb : dOk t (m + 1) = (dOk t m && decide (t / 10 ^ m % 10 ≤ 8)) := rfl
    rw [eb]
    cases dOk t m
    · rw [if_pos (show zi (b01 false) = (0 : Int32) from rfl)]; rfl
    · rw [if_neg (show ¬ zi (b01 true) = (0 : Int32) from by decide), Bool.true_and]
      by_cases c : t / 10 ^ m % 10 ≤ 8
      · rw [if_neg (show ¬ (9 : Int32) ≤ zi (t / 10 ^ m % 10) from by rw [show (9 : Int32) = zi 9 from rfl, zi_le (by omega) (by omega)]; omega), decide_eq_true c]; rfl
      · rw [if_pos (show (9 : Int32) ≤ zi (t / 10 ^ m % 10) from by rw [show (9 : Int32) = zi 9 from rfl, zi_le (by omega) (by omega)]; omega), decide_eq_false c]; rfl
theorem x_addSt15 {T W : zN2} {μ : zMem} {t l : Nat} (hT : TB T) (hW : WB T W) (hP : W 0 3 = T 2 1) (hX : XT T μ) (hS : XS T W 28 μ) (ht : t < 2147483648) (hl : l ≤ 4) (hd : dOk t (T 2 0) = true) :
    ∀ (K : zMem → zRes), ∃ μ1, f5_addStranger_L15 28 K zF (zi t) (zi 0) μ = K μ1 ∧ (∀ q, q < T 2 0 → μ1 (28 + 1) (T 2 1 * 4 + q) = zi (t / 10 ^ q % 10)) ∧ (∀ j, j < T 2 1 * 4 → μ1 (28 + 1) j = μ (28 + 1) j) ∧ zfr (fun k => k = 29) μ μ1 := by
  intro K
  have hQ := hT.1
  have hPP := hT.2.1
  have hW1 := wb_st hT hW hP hl hd
  obtain ⟨⟨y, μ1⟩, e1, e2, e3, e4, e5⟩ := zloopE (L := fun n i (s : Int32 × zMem) => f5_addStranger_L15 28 K n s.1 (zi i) s.2) (N := T 2 0) (o := fun s => K s.2)
    (fun i s => s.1 = zi (t / 10 ^ i) ∧ (∀ q, q < i → s.2 (28 + 1) (T 2 1 * 4 + q) = zi (t / 10 ^ q % 10)) ∧ (∀ j, j < T 2 1 * 4 → s.2 (28 + 1) j = μ (28 + 1) j) ∧ zfr (fun k => k = 29) μ s.2)
    (fun n s hs => by
      show f5_addStranger_L15 28 _ (n + 1) s.1 (zi (T 2 0)) s.2 = _
      rw [f5_addStranger_L15, hs.2.2.2 2 (by decide), hX.1.1, if_pos (Int32.le_refl _)])
    (fun n i s hi hs => by
      obtain ⟨y, μ1⟩ := s
      obtain ⟨h1, h2, h3, h4⟩ := hs
      dsimp only at h1 h2 h3 h4
      subst h1
      have hdv : t / 10 ^ i ≤ t := Nat.div_le_self _ _
      have z1 : zi i + (1 : Int32) = zi (i + 1) := zi_add i 1
      have er : zrem (zi (t / 10 ^ i)) (10 : Int32) = zi (t / 10 ^ i % 10) := zrem_i (b := 10) (by omega) (by decide)
      have ev : zi (t / 10 ^ i) / (10 : Int32) = zi (t / 10 ^ (i + 1)) := by rw [← d10]; exact zi_div (b := 10) (by omega) (by decide)
      refine ⟨(zi (t / 10 ^ (i + 1)), zset μ1 (28 + 1) (T 2 1 * 4 + i) (zi (t / 10 ^ i % 10))), ?_, rfl, fun q hq => ?_, fun j hj => ?_, h4.set rfl⟩
      · show f5_addStranger_L15 28 _ (n + 1) (zi (t / 10 ^ i)) (zi i) μ1 = _
        rw [f5_addStranger_L15, h4 2 (by decide), hX.1.1, if_neg (show ¬ zi (T 2 0) ≤ zi i from by rw [zi_le (by omega) (by omega)]; omega), h4 28 (by decide), hS.1.2.2.2.1, hP, er, x_putThought (W := stW T W t l) hT hW1 (by rw [stW_03]; omega) hi, bnd0_ok, zlet_e, ev, z1]
      · by_cases e : q = i
        · subst e
          show zset μ1 (28 + 1) (T 2 1 * 4 + q) (zi (t / 10 ^ q % 10)) (28 + 1) (T 2 1 * 4 + q) = _
          exact zset_eq
        · show zset μ1 (28 + 1) (T 2 1 * 4 + i) (zi (t / 10 ^ i % 10)) (28 + 1) (T 2 1 * 4 + q) = _
          rw [zset_nj (by omega)]; exact h2 q (by omega)
      · show zset μ1 (28 + 1) (T 2 1 * 4 + i) (zi (t / 10 ^ i % 10)) (28 + 1) j = _
        rw [zset_nj (by omega)]; exact h3 j hj)
    (T 2 0) 0 (zi t, μ) zF (by omega) (by unfold zF; omega) ⟨by rw [Nat.pow_zero, Nat.div_one], fun q hq => absurd hq (by omega), fun _ _ => rfl, fun _ _ => rfl⟩
  exact ⟨μ1, e1, e3, e4, e5⟩
theorem x_addSt {T W : zN2} {μ : zMem} {t l : Nat} (hT : TB T) (hW : WB T W) (hP : W 0 3 = T 2 1) (hX : XT T μ) (hS : XS T W 28 μ) (ht : t < 2147483648) (hl : l ≤ 4) (hd : dOk t (T 2 0) = true) :
    ∃ μ', f5_addStranger 28 (zi t) (zi l) μ = some (0, zi 0, μ') ∧ XS T (stW T W t l) 28 μ' ∧ zfr pz μ μ' := by
  have hQ := hT.1
  have hPP := hT.2.1
  have hW1 := wb_st hT hW hP hl hd
  obtain ⟨μ1, e1, e3, e4, e5⟩ := x_addSt15 (l := l) hT hW hP hX hS ht hl hd (fun (μ8 : zMem) => zin (μ8 28 4) 9 (zlet (zset μ8 (28 + 2) (μ8 28 4).toNatClampNeg (μ8 2 4)) (fun (μ10 : zMem) => zin (μ10 28 4) 9 (zlet (zset μ10 (28 + 3) (μ10 28 4).toNatClampNeg (zi l)) (fun (μ12 : zMem) => zlet (zset μ12 28 4 ((μ12 28 4) + (1 : Int32))) (fun (μ13 : zMem) => some (0, 0, μ13)))))))
  have e28 : μ1 28 = μ 28 := e5 28 (by decide)
  have hP9 : zi (W 0 3) < (9 : Int32) := by rw [show (9 : Int32) = zi 9 from rfl, zi_lt (by omega) (by omega)]; omega
  refine ⟨zset (zset (zset μ1 30 (T 2 1) (zi (T 2 4))) 31 (T 2 1) (zi l)) 28 4 (zi (T 2 1 + 1)), ?_, ?_, ?_⟩
  · unfold f5_addStranger
    rw [hS.1.2.2.2.1, if_pos hP9]
    refine e1.trans ?_
    show zin (μ1 28 4) 9 _ = _
    rw [e28, hS.1.2.2.2.1, hP, zin_i (by omega) (by omega), zlet_e, zi_cl (by omega), e5 2 (by decide), hX.1.2.2.2.2.1]
    rw [show zset μ1 (28 + 2) (T 2 1) (zi (T 2 4)) 28 4 = zi (T 2 1) from by rw [zset_nk (by decide), e28, hS.1.2.2.2.1, hP], zin_i (by omega) (by omega), zlet_e, zi_cl (by omega), zlet_e]
    rw [show zset (zset μ1 (28 + 2) (T 2 1) (zi (T 2 4))) (28 + 3) (T 2 1) (zi l) 28 4 = zi (T 2 1) from by rw [zset_nk (by decide), zset_nk (by decide), e28, hS.1.2.2.2.1, hP], show zi (T 2 1) + (1 : Int32) = zi (T 2 1 + 1) from zi_add _ 1]
    rfl
  · obtain ⟨⟨s1, s2, s3, s4, s5⟩, s6⟩ := hS
    refine ⟨⟨?_, ?_, ?_, ?_, ?_⟩, fun p hp => ⟨?_, ?_, fun q hq => ?_⟩⟩
    · rw [zset_nj (by decide), zset_nk (by decide), zset_nk (by decide), e28, stW_0 (by decide)]; exact s1
    · rw [zset_nj (by decide), zset_nk (by decide), zset_nk (by decide), e28, stW_0 (by decide)]; exact s2
    · rw [zset_nj (by decide), zset_nk (by decide), zset_nk (by decide), e28, stW_0 (by decide)]; exact s3
    · rw [zset_eq, stW_03, hP]
    · rw [zset_nj (by decide), zset_nk (by decide), zset_nk (by decide), e28, stW_0 (by decide)]; exact s5
    · rw [stW_03] at hp
      rw [zset_nk (by decide), zset_nk (by decide)]
      by_cases e : p = W 0 3
      · rw [e, stW_1', hP]; exact zset_eq
      · rw [stW_1 e]
        show zset μ1 30 (T 2 1) (zi (T 2 4)) 30 p = _
        rw [zset_nj (by omega), e5 30 (by decide)]; exact (s6 p (by omega)).1
    · rw [stW_03] at hp
      rw [zset_nk (by decide)]
      by_cases e : p = W 0 3
      · rw [e, stW_2', hP]; exact zset_eq
      · rw [stW_2 e]
        show zset (zset μ1 30 (T 2 1) (zi (T 2 4))) 31 (T 2 1) (zi l) 31 p = _
        rw [zset_nj (by omega), zset_nk (by decide), e5 31 (by decide)]; exact (s6 p (by omega)).2.1
    · rw [stW_03] at hp
      rw [zset_nk (by decide), zset_nk (by decide), zset_nk (by decide)]
      by_cases e : p = W 0 3
      · rw [e, stW_4' hq, hP]; exact e3 q hq
      · rw [stW_4 e, e4 _ (by omega)]; exact (s6 p (by omega)).2.2 q hq
  · intro k hk
    unfold pz at hk
    rw [zset_nk (by omega), zset_nk (by omega), zset_nk (by omega)]; exact e5 k (by omega)
theorem m_str150 {T : zN2} {μ : zMem} {t p : Nat} (hT : TB T) (hM : MT T μ) (hp : p < 9) (ht : t < 2147483648) (K : zMem → zRes) :
    ∃ μ', f9_stranger_L150 (zi p) K zF (zi t) (zi 0) μ = K μ' ∧ (∀ q, q < T 2 0 → μ' (51 + p) q = zi (t / 10 ^ q % 10)) ∧ zfr (fun k => k = 51 + p) μ μ' := by
  have hQ := hT.1
  have z0 : ∀ A, zin (0 : Int32) 6 A = A := fun A => zin_i (i := 0) (by decide) (by decide)
  have n0 : (0 : Int32).toNatClampNeg = 0 := by decide
  obtain ⟨⟨y, μ1⟩, e1, e2, e3, e4⟩ := zloopE (L := fun n i (s : Int32 × zMem) => f9_stranger_L150 (zi p) K n s.1 (zi i) s.2) (N := T 2 0) (o := fun s => K s.2)
    (fun i s => s.1 = zi (t / 10 ^ i) ∧ (∀ q, q < i → s.2 (51 + p) q = zi (t / 10 ^ q % 10)) ∧ zfr (fun k => k = 51 + p) μ s.2)
    (fun n s hs => by
      show f9_stranger_L150 (zi p) K (n + 1) s.1 (zi (T 2 0)) s.2 = _
      rw [f9_stranger_L150, z0, n0, hs.2.2 4 (by omega), hM.1.1, if_pos (Int32.le_refl _)])
    (fun n i s hi hs => by
      obtain ⟨y, μ1⟩ := s
      obtain ⟨h1, h2, h4⟩ := hs
      dsimp only at h1 h2 h4
      subst h1
      have hdv : t / 10 ^ i ≤ t := Nat.div_le_self _ _
      have z1 : zi i + (1 : Int32) = zi (i + 1) := zi_add i 1
      have er : zrem (zi (t / 10 ^ i)) (10 : Int32) = zi (t / 10 ^ i % 10) := zrem_i (b := 10) (by omega) (by decide)
      have ev : zi (t / 10 ^ i) / (10 : Int32) = zi (t / 10 ^ (i + 1)) := by rw [← d10]; exact zi_div (b := 10) (by omega) (by decide)
      refine ⟨(zi (t / 10 ^ (i + 1)), zset μ1 (51 + p) i (zi (t / 10 ^ i % 10))), ?_, rfl, fun q hq => ?_, h4.set rfl⟩
      · show f9_stranger_L150 (zi p) K (n + 1) (zi (t / 10 ^ i)) (zi i) μ1 = _
        rw [f9_stranger_L150, z0, n0, h4 4 (by omega), hM.1.1, if_neg (show ¬ zi (T 2 0) ≤ zi i from by rw [zi_le (by omega) (by omega)]; omega), zin_i (by omega) (by omega), zin_i (by omega) (by omega), zlet_e, zlet_e, er, ev, z1, zi_cl (by omega), zi_cl (by omega)]
      · by_cases e : q = i
        · subst e
          show zset μ1 (51 + p) q (zi (t / 10 ^ q % 10)) (51 + p) q = _
          exact zset_eq
        · show zset μ1 (51 + p) i (zi (t / 10 ^ i % 10)) (51 + p) q = _
          rw [zset_nj (by omega)]; exact h2 q (by omega))
    (T 2 0) 0 (zi t, μ) zF (by omega) (by unfold zF; omega) ⟨by rw [Nat.pow_zero, Nat.div_one], fun q hq => absurd hq (by omega), fun _ _ => rfl⟩
  exact ⟨μ1, e1, e3, e4⟩
