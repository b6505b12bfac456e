/-! THE PURE SIDE, 22: calm -/
def ball (p : Nat → Bool) : Nat → Bool
  | 0 => true
  | n + 1 => ball p n && p n
theorem ball_iff {p : Nat → Bool} : ∀ n, ball p n = true ↔ ∀ i, i < n → p i = true
  | 0 => ⟨fun _ i hi => absurd hi (by omega), fun _ => rfl⟩
  | n + 1 => by
    unfold ball
    rw [Bool.and_eq_true, ball_iff n]
    constructor
    · intro h i hi
      by_cases e : i = n
      · rw [e]; exact h.2
      · exact h.1 i (by omega)
    · intro h; exact ⟨fun i hi => h i (by omega), h n (by omega)⟩
theorem m_ones {n : Nat} {μ : zMem} (h : n < 2147483648) : f9_ones (zi n) μ = some (0, zi (popc n), μ) := by
  obtain ⟨s, h1, h2⟩ := zloopE (L := fun k i (s : Int32) => f9_ones_L4 (zi n) μ (fun (x1_4 : Int32) => some (0, x1_4, μ)) k s (zi i)) (N := 12) (o := fun s => some (0, s, μ)) (fun i s => s = zi (nsum (fun j => b01 (n.testBit j)) i))
    (fun k s hs => by simp (disch := omega) only [f9_ones_L4, zlit', zi_le, Nat.le_refl, if_true])
    (fun k i s hi hs => ⟨zi (nsum (fun j => b01 (n.testBit j)) (i + 1)), by
      subst hs
      simp (disch := omega) only [f9_ones_L4, zlit', zi_le, show ¬ 12 ≤ i by omega, if_false, zlet_e', zbit, zi_add]
      rfl, rfl⟩)
    12 0 (zi 0) zF (by omega) (by unfold zF; omega) rfl
  subst h2
  simp only [f9_ones, zlit']
  exact h1
/-- a set no two of whom could -/
def cX (f : Nat → Nat → Bool) (n s : Nat) : Bool := ball (fun a => !s.testBit a || decide (bset (f a) n &&& s = 0)) n
def cM (f : Nat → Nat → Bool) (n s : Nat) : Bool := ball (fun a => ball (fun b => !(s.testBit a && s.testBit b && f a b)) a) n
theorem and_0 {x y : Nat} : x &&& y = 0 ↔ ∀ i, (x.testBit i && y.testBit i) = false := by
  constructor
  · intro h i
    rw [← Nat.testBit_and, h, Nat.zero_testBit]
  · intro h
    apply Nat.eq_of_testBit_eq
    intro i
    rw [Nat.testBit_and, h i, Nat.zero_testBit]
theorem cX_cM {f : Nat → Nat → Bool} {n s : Nat} (hs : ∀ a b, f a b = f b a) (hi : ∀ a, f a a = false) : cX f n s = cM f n s := by
  apply Bool.eq_iff_iff.mpr
  unfold cX cM
  rw [ball_iff, ball_iff]
  constructor
  · intro h a ha
    rw [ball_iff]
    intro b hb
    have h1 := h a ha
    cases e1 : s.testBit a
    · rfl
    · cases e2 : s.testBit b
      · rfl
      · cases e3 : f a b
        · rfl
        · exfalso
          rw [e1] at h1
          simp only [Bool.not_true, Bool.false_or, decide_eq_true_eq] at h1
          have := (and_0.mp h1) b
          rw [bset_bit, decide_eq_true (by omega), e2, e3] at this
          exact absurd this (by decide)
  · intro h a ha
    cases e1 : s.testBit a
    · rfl
    · simp only [Bool.not_true, Bool.false_or, decide_eq_true_eq]
      apply and_0.mpr
      intro b
      rw [bset_bit]
      by_cases hb : b < n
      · rw [decide_eq_true hb, Bool.true_and]
        cases e2 : s.testBit b
        · rw [Bool.and_false]
        · rw [Bool.and_true]
          by_cases hab : b < a
          · have := (ball_iff a).mp (h a ha) b hab
            rw [e1, e2] at this
            cases e3 : f a b
            · rfl
            · rw [e3] at this; exact absurd this (by decide)
          · by_cases e : a = b
            · rw [← e]; exact hi a
            · have := (ball_iff b).mp (h b hb) a (by omega)
              rw [e1, e2] at this
              rw [hs a b]
              cases e3 : f b a
              · rfl
              · rw [e3] at this; exact absurd this (by decide)
      · rw [decide_eq_false hb]; rfl
theorem x_isCalm {T W : zN2} {q g s : Nat} {μ : zMem} (hT : TB T) (hC : xC T W q g μ) (hs : s < 1024) : f0_isCalm (zi s) μ = some (0, zi (b01 (cX (tV T W q g) (T 2 1) s)), μ) := by
  have hPP := hT.2.1
  have key : ∀ m i n, i + m = T 2 1 → m < n → ball (fun a => !s.testBit a || decide (bset (tV T W q g a) (T 2 1) &&& s = 0)) i = true → f0_isCalm_L2 (zi s) μ (some (0, zi 1, μ)) (some (0, zi 0, μ)) n (zi i) = some (0, zi (b01 (cX (tV T W q g) (T 2 1) s)), μ) := by
    intro m
    induction m with
    | zero =>
      intro i n h1 h2 h3
      obtain ⟨n, rfl⟩ : ∃ k, n = k + 1 := ⟨n - 1, by omega⟩
      have e : i = T 2 1 := by omega
      subst e
      simp (disch := omega) only [f0_isCalm_L2, hC.1, zi_le, Nat.le_refl, if_true]
      unfold cX
      rw [h3]; rfl
    | succ m ih =>
      intro i n h1 h2 h3
      obtain ⟨n, rfl⟩ : ∃ k, n = k + 1 := ⟨n - 1, by omega⟩
      have hb := bset_le (f := tV T W q g i) hPP
      have hand : bset (tV T W q g i) (T 2 1) &&& s < 1024 := Nat.lt_of_le_of_lt Nat.and_le_left hb
      simp (disch := omega) only [f0_isCalm_L2, hC.1, zi_le, show ¬ T 2 1 ≤ i by omega, if_false, zlet_e', zlit', zbit0, zin_i, zi_cl, hC.2 i (by omega), zi_and, zi_eq, zi_add]
      cases e1 : s.testBit i
      · simp only [if_true]
        exact ih (i + 1) n (by omega) (by omega) (by unfold ball; rw [h3, e1]; rfl)
      · simp only [Bool.true_eq_false, if_false]
        by_cases e2 : bset (tV T W q g i) (T 2 1) &&& s = 0
        · rw [if_pos e2]
          exact ih (i + 1) n (by omega) (by omega) (by unfold ball; rw [h3, e1, decide_eq_true e2]; rfl)
        · rw [if_neg e2]
          have : cX (tV T W q g) (T 2 1) s = false := by
            cases e : cX (tV T W q g) (T 2 1) s
            · rfl
            · exfalso
              have := (ball_iff _).mp e i (by omega)
              rw [e1] at this
              simp only [Bool.not_true, Bool.false_or, decide_eq_true_eq] at this
              exact e2 this
          rw [this]; rfl
  unfold f0_isCalm
  have := key (T 2 1) 0 zF (by omega) (by unfold zF; omega) rfl
  simp only [zlit']
  exact this
/-- the greatest calm set among those below i -/
def clm (c : Nat → Bool) : Nat → Nat
  | 0 => 0
  | i + 1 => if popc (clm c i) < popc i ∧ c i = true then i else clm c i
theorem clm_le (c : Nat → Bool) : ∀ i, clm c i ≤ i
  | 0 => Nat.le_refl _
  | i + 1 => by
    unfold clm
    have := clm_le c i
    split <;> omega
theorem pow_p {T : zN2} (hT : TB T) : 2 ^ T 2 1 ≤ 256 ∧ 0 < 2 ^ T 2 1 := by
  have := Nat.pow_le_pow_right (n := 2) (by decide) hT.2.1
  have := Nat.two_pow_pos (T 2 1)
  omega
theorem x_greatestCalm {T W : zN2} {q g : Nat} {μ : zMem} (hT : TB T) (hC : xC T W q g μ) : f0_greatestCalm μ = some (0, zi (clm (cX (tV T W q g) (T 2 1)) (2 ^ T 2 1)), μ) := by
  have hPP := hT.2.1
  obtain ⟨hp1, hp2⟩ := pow_p hT
  obtain ⟨s, h1, h2⟩ := zloopE (L := fun n i (s : Int32 × zMem) => f0_greatestCalm_L4 (fun (x1_16 : Int32) (μ17 : zMem) => some (0, x1_16, μ17)) n s.1 (zi i) s.2) (N := 2 ^ T 2 1) (o := fun s => some (0, s.1, s.2)) (fun i s => s = (zi (clm (cX (tV T W q g) (T 2 1)) i), μ))
    (fun n s hs => by subst hs; simp (disch := omega) only [f0_greatestCalm_L4, hC.1, zlit', zshl1, zi_le, Nat.le_refl, if_true])
    (fun n i s hi hs => ⟨(zi (clm (cX (tV T W q g) (T 2 1)) (i + 1)), μ), by
      subst hs
      have hle := clm_le (cX (tV T W q g) (T 2 1)) i
      have p1 := popc_le i
      have p2 := popc_le (clm (cX (tV T W q g) (T 2 1)) i)
      simp (disch := omega) only [f0_greatestCalm_L4, hC.1, zlit', zshl1, zi_le, show ¬ 2 ^ T 2 1 ≤ i by omega, if_false, zlet_e', x_bitCount (show i < 1024 by omega), x_bitCount (show clm (cX (tV T W q g) (T 2 1)) i < 1024 by omega), bnd0_ok', x_isCalm hT hC (show i < 1024 by omega), zi_add]
      have e : clm (cX (tV T W q g) (T 2 1)) (i + 1) = if popc (clm (cX (tV T W q g) (T 2 1)) i) < popc i ∧ cX (tV T W q g) (T 2 1) i = true then i else clm (cX (tV T W q g) (T 2 1)) i := rfl
      rw [e]
      by_cases h : popc i ≤ popc (clm (cX (tV T W q g) (T 2 1)) i)
      · rw [if_pos h, if_neg (by omega)]
      · rw [if_neg h]
        unfold b01
        cases hc : cX (tV T W q g) (T 2 1) i
        · simp only [if_true, if_false, ite_true, ite_false, Bool.false_eq_true, Bool.true_eq_false, reduceIte, z10, z01, Nat.one_ne_zero, Nat.zero_ne_one, and_false]
        · simp only [if_true, if_false, ite_true, ite_false, Bool.false_eq_true, Bool.true_eq_false, reduceIte, z10, z01, Nat.one_ne_zero, Nat.zero_ne_one, and_true, show popc (clm (cX (tV T W q g) (T 2 1)) i) < popc i by omega], rfl⟩)
    (2 ^ T 2 1) 0 (zi 0, μ) zF (by omega) (by unfold zF; omega) rfl
  subst h2
  simp only [f0_greatestCalm, zlit']
  exact h1
theorem m_calm75 {T W : zN2} {μ : zMem} (hT : TB T) (hW : WB T W) (hP : W 0 3 = T 2 1) (hM : MT T μ) (hS : MS T W μ) {q a s : Nat} {c : Bool} (hq : q < T 2 0) (ha : a < T 2 1) (hs : s < 1024) (K : Int32 → zMem → zRes) :
    f9_calm_L75 (zi q) (zi s) (zi a) K zF (zi (b01 c)) (zi 0) μ = K (zi (b01 (c && ball (fun b => !(s.testBit a && s.testBit b && tV T W q (W 0 2) a b)) a))) μ := by
  have hPP := hT.2.1
  have hG := hW.2.2.1
  obtain ⟨x, h1, h2⟩ := zloopE (L := fun n i (x : Int32 × zMem) => f9_calm_L75 (zi q) (zi s) (zi a) K n x.1 (zi i) x.2) (N := a) (o := fun x => K x.1 x.2) (fun i x => x = (zi (b01 (c && ball (fun b => !(s.testBit a && s.testBit b && tV T W q (W 0 2) a b)) i)), μ))
    (fun n x hx => by subst hx; simp (disch := omega) only [f9_calm_L75, zi_le, Nat.le_refl, if_true])
    (fun n i x hi hx => ⟨(zi (b01 (c && ball (fun b => !(s.testBit a && s.testBit b && tV T W q (W 0 2) a b)) (i + 1))), μ), by
      subst hx
      show _ = f9_calm_L75 (zi q) (zi s) (zi a) K n (zi (b01 (c && (ball (fun b => !(s.testBit a && s.testBit b && tV T W q (W 0 2) a b)) i && !(s.testBit a && s.testBit i && tV T W q (W 0 2) a i))))) (zi (i + 1)) μ
      rw [← Bool.and_assoc]
      simp (disch := omega) only [f9_calm_L75, zi_le, show ¬ a ≤ i by omega, if_false, zlet_e', zlit', zbit0, zin_i, zi_cl, hS.1.2.2, m_isTwo hT hW hP hM hS hq (show W 0 2 < 1000 by omega) ha (show i < T 2 1 by omega) (show a ≠ i by omega), bnd0_ok', zi_add]
      generalize (c && ball (fun b => !(s.testBit a && s.testBit b && tV T W q (W 0 2) a b)) i) = d
      unfold b01
      cases d
      · simp only [if_true, if_false, ite_true, ite_false, Bool.false_eq_true, Bool.true_eq_false, reduceIte, z10, z01, Nat.one_ne_zero, Nat.zero_ne_one, Bool.false_and]
      · cases s.testBit a
        · simp only [if_true, if_false, ite_true, ite_false, Bool.false_eq_true, Bool.true_eq_false, reduceIte, z10, z01, Nat.one_ne_zero, Nat.zero_ne_one, Bool.false_and, Bool.true_and, Bool.not_false]
        · cases s.testBit i
          · simp only [if_true, if_false, ite_true, ite_false, Bool.false_eq_true, Bool.true_eq_false, reduceIte, z10, z01, Nat.one_ne_zero, Nat.zero_ne_one, Bool.false_and, Bool.true_and, Bool.not_false]
          · cases tV T W q (W 0 2) a i
            · simp only [if_true, if_false, ite_true, ite_false, Bool.false_eq_true, Bool.true_eq_false, reduceIte, z10, z01, Nat.one_ne_zero, Nat.zero_ne_one, Bool.and_false, Bool.true_and, Bool.not_false]
            · simp only [if_true, if_false, ite_true, ite_false, Bool.false_eq_true, Bool.true_eq_false, reduceIte, z10, z01, Nat.one_ne_zero, Nat.zero_ne_one, Bool.and_true, Bool.not_true, Bool.and_false], rfl⟩)
    a 0 (zi (b01 c), μ) zF (by omega) (by unfold zF; omega) (by rw [show ball (fun b => !(s.testBit a && s.testBit b && tV T W q (W 0 2) a b)) 0 = true from rfl, Bool.and_true])
  subst h2
  exact h1
theorem m_calm61 {T W : zN2} {μ : zMem} (hT : TB T) (hW : WB T W) (hP : W 0 3 = T 2 1) (hM : MT T μ) (hS : MS T W μ) {q s : Nat} (hq : q < T 2 0) (hs : s < 1024) (K : Int32 → zMem → zRes) :
    f9_calm_L61 (zi q) (zi s) K zF (zi 1) (zi 0) μ = K (zi (b01 (cM (tV T W q (W 0 2)) (T 2 1) s))) μ := by
  have hPP := hT.2.1
  obtain ⟨x, h1, h2⟩ := zloopE (L := fun n i (x : Int32 × zMem) => f9_calm_L61 (zi q) (zi s) K n x.1 (zi i) x.2) (N := T 2 1) (o := fun x => K x.1 x.2) (fun i x => x = (zi (b01 (ball (fun a => ball (fun b => !(s.testBit a && s.testBit b && tV T W q (W 0 2) a b)) a) i)), μ))
    (fun n x hx => by subst hx; simp (disch := omega) only [f9_calm_L61, zlit', zin_i, zi_cl, hM.1.2.1, zi_le, Nat.le_refl, if_true])
    (fun n i x hi hx => ⟨(zi (b01 (ball (fun a => ball (fun b => !(s.testBit a && s.testBit b && tV T W q (W 0 2) a b)) a) (i + 1))), μ), by
      subst hx
      simp (disch := omega) only [f9_calm_L61, zlit', zin_i, zi_cl, hM.1.2.1, zi_le, show ¬ T 2 1 ≤ i by omega, if_false, m_calm75 hT hW hP hM hS hq hi hs, zi_add]
      rfl, rfl⟩)
    (T 2 1) 0 (zi 1, μ) zF (by omega) (by unfold zF; omega) rfl
  subst h2
  exact h1
theorem m_calm42 {T W : zN2} {μ : zMem} (hT : TB T) (hW : WB T W) (hP : W 0 3 = T 2 1) (hM : MT T μ) (hS : MS T W μ) {q : Nat} (hq : q < T 2 0) (K : Int32 → zMem → zRes) :
    f9_calm_L42 (zi q) K zF (zi 0) (zi 1) μ = K (zi (clm (cM (tV T W q (W 0 2)) (T 2 1)) (2 ^ T 2 1))) μ := by
  have hPP := hT.2.1
  obtain ⟨hp1, hp2⟩ := pow_p hT
  have e1 : clm (cM (tV T W q (W 0 2)) (T 2 1)) 1 = 0 := by
    show (if popc 0 < popc 0 ∧ _ then 0 else 0) = 0
    split <;> rfl
  obtain ⟨x, h1, h2⟩ := zloopE (L := fun n i (x : Int32 × zMem) => f9_calm_L42 (zi q) K n x.1 (zi i) x.2) (N := 2 ^ T 2 1) (o := fun x => K x.1 x.2) (fun i x => x = (zi (clm (cM (tV T W q (W 0 2)) (T 2 1)) i), μ))
    (fun n x hx => by subst hx; simp (disch := omega) only [f9_calm_L42, zlit', zin_i, zi_cl, hM.1.2.1, zshl1, zi_le, Nat.le_refl, if_true])
    (fun n i x hi hx => ⟨(zi (clm (cM (tV T W q (W 0 2)) (T 2 1)) (i + 1)), μ), by
      subst hx
      have hle := clm_le (cM (tV T W q (W 0 2)) (T 2 1)) i
      have p1 := popc_le i
      have p2 := popc_le (clm (cM (tV T W q (W 0 2)) (T 2 1)) i)
      simp (disch := omega) only [f9_calm_L42, zlit', zin_i, zi_cl, hM.1.2.1, zshl1, zi_le, show ¬ 2 ^ T 2 1 ≤ i by omega, if_false, m_calm61 hT hW hP hM hS hq (show i < 1024 by omega), zlet_e', m_ones, bnd0_ok', zi_add]
      have e : clm (cM (tV T W q (W 0 2)) (T 2 1)) (i + 1) = if popc (clm (cM (tV T W q (W 0 2)) (T 2 1)) i) < popc i ∧ cM (tV T W q (W 0 2)) (T 2 1) i = true then i else clm (cM (tV T W q (W 0 2)) (T 2 1)) i := rfl
      rw [e]
      unfold b01
      cases hc : cM (tV T W q (W 0 2)) (T 2 1) i
      · simp only [if_true, if_false, ite_true, ite_false, Bool.false_eq_true, Bool.true_eq_false, reduceIte, z10, z01, Nat.one_ne_zero, Nat.zero_ne_one, and_false]
      · simp only [if_true, if_false, ite_true, ite_false, Bool.false_eq_true, Bool.true_eq_false, reduceIte, z10, z01, Nat.one_ne_zero, Nat.zero_ne_one, and_true]
        by_cases h : popc i ≤ popc (clm (cM (tV T W q (W 0 2)) (T 2 1)) i)
        · rw [if_pos h, if_neg (by omega)]
        · rw [if_neg h, if_pos (by omega)], rfl⟩)
    (2 ^ T 2 1 - 1) 1 (zi 0, μ) zF (by omega) (by unfold zF; omega) (by rw [e1])
  subst h2
  exact h1
theorem P_calm {x y : Int32} {μX μM : zMem} (h : zInv μX μM) : zPm cI (f8_calm x y μX) (f9_calm x y μM) := by
  have h' := h
  obtain ⟨T, W, r, R, n, m, WI, rI, RI, ⟨hT, hW, hL, hX, hM, hS, hS', h30, hB, hR, hR'⟩, ht, hf, hi⟩ := h
  have hQ := hT.1
  have hG := hW.2.2.1
  obtain ⟨hp1, hp2⟩ := pow_p hT
  have hM0 := MT_0 (v := zi 0) hT hM
  have hS0 := MS_0 (v := zi 0) hT hW hS'
  have e00 : zset μM 0 0 (zi 0) 0 0 = zi 0 := zset_00
  rcases zcase x (T 2 0) (by omega) with ⟨q, hq, rfl⟩ | hx
  · rcases zcase y 2 (by omega) with ⟨w, hw, rfl⟩ | hy
    · obtain ⟨μ', a1, a2, a3⟩ := x_draw hT hW hL.2.2.1 hX hS hq (show W 0 2 < 1000 by omega)
      have ec : cX (tV T W q (W 0 2)) (T 2 1) = cM (tV T W q (W 0 2)) (T 2 1) := funext (fun s => cX_cM (fun a b => tV_sym hT q (W 0 2) a b) (fun a => tV_irr q (W 0 2) a))
      have hle := clm_le (cM (tV T W q (W 0 2)) (T 2 1)) (2 ^ T 2 1)
      have g1 := x_greatestCalm hT a2
      rw [ec] at g1
      refine zPm_q h' (μX' := μ') (μM' := zset μM 0 0 (zi 0)) (e := 0) (v := zi (if w = 0 then popc (clm (cM (tV T W q (W 0 2)) (T 2 1)) (2 ^ T 2 1)) else clm (cM (tV T W q (W 0 2)) (T 2 1)) (2 ^ T 2 1))) (w := zi (if w = 0 then popc (clm (cM (tV T W q (W 0 2)) (T 2 1)) (2 ^ T 2 1)) else clm (cM (tV T W q (W 0 2)) (T 2 1)) (2 ^ T 2 1))) ?_ ?_ zset_00 (fun _ => rfl) (Or.inl rfl) (zsx_53 a3) zmq_0
      · unfold f8_calm
        simp (disch := omega) only [x_needQ_ok hT hX hq, bnd_ok', zlit', x_needW_ok, hS.1.2.2.1, a1, bnd0_ok', zlet_e', zi_eq, g1, x_bitCount (show clm (cM (tV T W q (W 0 2)) (T 2 1)) (2 ^ T 2 1) < 1024 by omega)]
        by_cases h0 : w = 0
        · simp only [h0, if_true]
        · simp only [h0, if_false]
      · unfold f9_calm
        simp (disch := omega) only [zlet_e', zlit', m_isQ_ok hT hM0 hq, m_inn_o, bnd0_ok', if_true, if_false, ite_true, ite_false, Bool.false_eq_true, Bool.true_eq_false, reduceIte, z10, z01, Nat.one_ne_zero, Nat.zero_ne_one, m_bad0 e00, m_calm42 hT hW hL.2.2.1 hM0 hS0 hq, zi_eq, m_ones]
        by_cases h0 : w = 0
        · simp only [h0, if_true]
        · simp only [h0, if_false]
    · refine zPm_q h' (μX' := μX) (μM' := zset (zset μM 0 0 (zi 0)) 0 0 (zi 1)) (e := 1) (v := zi 0) (w := zi 0) ?_ ?_ zset_00 (fun h => absurd h (by decide)) (Or.inr (by decide)) zfr.refl zmq_00
      · unfold f8_calm; simp (disch := omega) only [x_needQ_ok hT hX hq, bnd_ok', zlit', x_needW_no (show 1 < 1000 by decide) hy, bnd_ex' (e := 0)]
      · unfold f9_calm; simp (disch := omega) only [zlet_e, zlit, m_isQ_ok hT hM0 hq, m_inn_c (show 1 < 1000 by decide) hy, bnd0_ok, if_true, if_false, ite_true, ite_false, Bool.false_eq_true, Bool.true_eq_false, reduceIte, z10, z01, Nat.one_ne_zero, Nat.zero_ne_one, m_bad1 e00]
  · refine zPm_q h' (μX' := μX) (μM' := zset (zset μM 0 0 (zi 0)) 0 0 (zi 1)) (e := 1) (v := zi 0) (w := zi 0) ?_ ?_ zset_00 (fun h => absurd h (by decide)) (Or.inr (by decide)) zfr.refl zmq_00
    · unfold f8_calm; simp (disch := omega) only [x_needQ_no hX hx, bnd_ex' (e := 0)]
    · unfold f9_calm; simp (disch := omega) only [zlet_e, zlit, m_isQ_no hT hM0 hx, bnd0_ok, if_true, if_false, ite_true, ite_false, Bool.false_eq_true, Bool.true_eq_false, reduceIte, z10, z01, Nat.one_ne_zero, Nat.zero_ne_one, m_bad1 e00]
