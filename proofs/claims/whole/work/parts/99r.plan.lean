/-! THE PURE SIDE, 57: night -/
theorem tE_of {T W : zN2} {d a b : Nat} (h : (W 0 4).testBit d = false ∧ W 0 0 ≤ T 10 d ∧ a ≠ b ∧ (T 7 a).testBit b = false ∧ T 9 d ≤ W 1 a ∧ T 9 d ≤ W 1 b ∧ W 0 2 ≤ zd (W (4 + a) (tA T W d)) (W (4 + b) (tA T W d))) : tE T W d a b = 0 := by
  obtain ⟨h1, h2, h3, h4, h5, h6, h7⟩ := h
  unfold tE
  rw [if_neg (by rw [h1]; decide), if_neg (by omega), if_neg (fun q => q.elim h3 (fun r => by rw [h4] at r; exact absurd r (by decide))), if_neg (by omega), if_neg (by omega)]
theorem hA_mono {T V V' : zN2} {D : Nat} (h : ∀ d a b, d < D → tO T V' d a b → tO T V d a b) : ∀ d s g, d ≤ D → hA T V' d s g → hA T V d s g
  | 0, _, _, _, hh => hh
  | d + 1, s, g, hd, hh => by
    rcases hh with hh | ⟨p, s0, g0, ⟨a, b, q1, q2⟩, h2, h3, h4⟩
    · exact Or.inl (hA_mono h d s g (by omega) hh)
    · exact Or.inr ⟨p, s0, g0, ⟨a, b, h d a b (by omega) q1, q2⟩, h2, hA_mono h d s0 g0 (by omega) h3, h4⟩
theorem td_mono {T V V' : zN2} (hT : TB T) (h : ∀ d a b, d < T 2 2 → tO T V' d a b → tO T V d a b) : tdW T V' ≤ tdW T V := by
  obtain ⟨⟨g, h1⟩, -⟩ := td_best (W := V') hT
  have h2 := (td_best (W := V) hT).2 _ g (hA_mono h _ _ _ (Nat.le_refl _) h1)
  have k1 := vl_sp hT (td_lt (W := V) hT).2.2
  have k2 := vl_sp hT (td_lt (W := V') hT).2.2
  unfold tdW
  omega
theorem sub_x {g m : Nat} (h : g ^^^ (g &&& m) = 0) : sub2 g m := by
  intro i hi
  have : (g ^^^ (g &&& m)).testBit i = (0 : Nat).testBit i := by rw [h]
  rw [Nat.testBit_xor, Nat.testBit_and, hi, Nat.zero_testBit] at this
  cases e : m.testBit i
  · rw [e] at this; exact absurd this (by decide)
  · rfl
theorem talk_mono {T V : zN2} (hT : TB T) {a q v : Nat} (_ : a < V 0 3) (hs : sub2 (bset (tV T (nup V (4 + a) q v) q (V 0 2) a) (V 0 3)) (bset (tV T V q (V 0 2) a) (V 0 3))) : tdW T (nup V (4 + a) q v) ≤ tdW T V := by
  apply td_mono hT
  intro d x y hd hO
  obtain ⟨h1, h2, h3⟩ := hO
  rw [nup_nk (by omega)] at h2
  refine ⟨h1, h2, ?_⟩
  obtain ⟨k1, k2, k3, k4, k5, k6, k7⟩ := tE_0 h3
  have eA : tA T (nup V (4 + a) q v) d = tA T V d := by unfold tA; rw [nup_nk (by omega)]
  rw [eA] at k7
  rw [nup_nk (by omega)] at k1 k2 k5 k6
  rw [nup_nk (by omega)] at k7
  apply tE_of
  refine ⟨k1, k2, k3, k4, k5, k6, ?_⟩
  -- one who is a rival behind the TALK was one before
  have riv : ∀ p, p < V 0 3 → p ≠ a → (T 7 p).testBit a = false → V 0 2 ≤ zd (V (4 + p) q) v → V 0 2 ≤ zd (V (4 + p) q) (V (4 + a) q) := by
    intro p hp hpa hk hz
    have hb : (bset (tV T (nup V (4 + a) q v) q (V 0 2) a) (V 0 3)).testBit p = true := by
      rw [bset_bit, decide_eq_true hp, Bool.true_and]
      exact decide_eq_true ⟨hpa, hk, by rw [nup_nk (by omega), nup_eq]; exact hz⟩
    have hb2 := hs p hb
    rw [bset_bit, decide_eq_true hp, Bool.true_and] at hb2
    exact (of_decide_eq_true hb2).2.2
  by_cases c : tA T V d = q
  · rw [c] at k7 ⊢
    by_cases ex : x = a
    · subst ex
      rw [nup_eq, nup_nk (by omega), zd_comm] at k7
      rw [zd_comm]
      exact riv y h2 (fun e => k3 e.symm) (by rw [tb_sym hT]; exact k4) k7
    · by_cases ey : y = a
      · subst ey
        rw [nup_eq, nup_nk (by omega)] at k7
        exact riv x (by omega) ex k4 k7
      · rw [nup_nk (by omega), nup_nk (by omega)] at k7
        exact k7
  · rw [nup_nj c, nup_nj c] at k7
    exact k7
theorem x_behindTalk {T V : zN2} {μ : zMem} (hT : TB T) (hW : WB T V) (hX : XT T μ) (hS : XS T V 28 μ) {a b q : Nat} (ha : a < V 0 3) (hb : b < V 0 3) (hq : q < T 2 0) :
    ∃ v μ', f8_worthBehindTalk (zi a) (zi b) (zi q) μ = some (0, v, μ') ∧ XS T V 28 μ' ∧ zfr pz μ μ' ∧ (v = zi (tdW T (tTk V a b q)) ∨ (v = zN1 ∧ tdW T (tTk V a b q) ≤ tdW T V)) := by
  have hP := hW.2.2.2.1
  have hG := hW.2.2.1
  have hQ := hT.1
  have e03 : tTk V a b q 0 3 = V 0 3 := nup_nk (by omega)
  have e02 : tTk V a b q 0 2 = V 0 2 := nup_nk (by omega)
  have hW1 : WB T (tTk V a b q) := wb_talk hW
  have hS1 : XS T (tTk V a b q) 28 (zset μ (28 + 1) (a * 4 + q) (zi (tTv (V (4 + a) q) (V (4 + b) q)))) := xs_put hT hS hq
  have hX1 : XT T (zset μ (28 + 1) (a * 4 + q) (zi (tTv (V (4 + a) q) (V (4 + b) q)))) := XT_of (fun key hk => zset_nk (by omega)) hX
  have r1 := x_rivals hT hW hX hS ha hq (g := V 0 2) (by omega)
  have r2 := x_rivals hT hW1 hX1 hS1 (a := a) (q := q) (g := V 0 2) (by rw [e03]; exact ha) hq (by omega)
  rw [e03] at r2
  have l1 := bset_lt (tV T V q (V 0 2) a) (V 0 3)
  have l2 := bset_lt (tV T (tTk V a b q) q (V 0 2) a) (V 0 3)
  have hG5 : 2 ^ V 0 3 ≤ 512 := pw9 hP
  have back : ∀ μ3, XS T (tTk V a b q) 28 μ3 → f5_putThought 28 (zi a) (zi q) (zi (V (4 + a) q)) μ3 = some (0, zi 0, zset μ3 (28 + 1) (a * 4 + q) (zi (V (4 + a) q))) ∧ XS T V 28 (zset μ3 (28 + 1) (a * 4 + q) (zi (V (4 + a) q))) := fun μ3 h3 => by
    refine ⟨x_putThought hT hW ha hq, ?_⟩
    have := xs_put (v := V (4 + a) q) (p := a) hT h3 hq
    unfold tTk at this
    rw [nup_nup, nup_self rfl] at this
    exact this
  have f1 : zfr pz μ (zset μ (28 + 1) (a * 4 + q) (zi (tTv (V (4 + a) q) (V (4 + b) q)))) := zfr.set zfr.refl (by unfold pz; omega)
  have hand := andn (g := bset (tV T (tTk V a b q) q (V 0 2) a) (V 0 3)) (m := bset (tV T V q (V 0 2) a) (V 0 3)) (by omega)
  have hlt : bset (tV T (tTk V a b q) q (V 0 2) a) (V 0 3) ^^^ (bset (tV T (tTk V a b q) q (V 0 2) a) (V 0 3) &&& bset (tV T V q (V 0 2) a) (V 0 3)) < 2 ^ V 0 3 := Nat.xor_lt_two_pow l2 (Nat.lt_of_le_of_lt Nat.and_le_left l2)
  unfold f8_worthBehindTalk
  rw [x_thought hT hW hS ha hq, bnd0_ok, hS.1.2.2.1, r1, bnd0_ok, x_step hT hW hS ha hb hq, bnd0_ok, hS1.1.2.2.1, e02, r2, bnd0_ok, zlet_e, zneg1, hand]
  by_cases c : bset (tV T (tTk V a b q) q (V 0 2) a) (V 0 3) ^^^ (bset (tV T (tTk V a b q) q (V 0 2) a) (V 0 3) &&& bset (tV T V q (V 0 2) a) (V 0 3)) = 0
  · rw [if_pos (by rw [c]; rfl)]
    obtain ⟨k1, k2⟩ := back _ hS1
    refine ⟨zN1, _, ?_, k2, f1.set (by unfold pz; omega), Or.inr ⟨rfl, talk_mono hT ha (sub_x c)⟩⟩
    show bnd0 (f5_putThought 28 (zi a) (zi q) (zi (V (4 + a) q)) _) _ = _
    rw [k1, bnd0_ok]
  · rw [if_neg (show ¬ zi (bset (tV T (tTk V a b q) q (V 0 2) a) (V 0 3) ^^^ (bset (tV T (tTk V a b q) q (V 0 2) a) (V 0 3) &&& bset (tV T V q (V 0 2) a) (V 0 3))) = (0 : Int32) from by rw [show (0 : Int32) = zi 0 from rfl, zi_eq (by omega) (by omega)]; exact c)]
    obtain ⟨μ3, b1, b2, b3⟩ := x_make hT hW1 hX1 hS1
    obtain ⟨k1, k2⟩ := back μ3 (XS_of (fun key q1 q2 => b3 key (by omega)) hS1)
    refine ⟨zi (tdW T (tTk V a b q)), _, ?_, k2, (f1.trans (b3.mono (fun k hk => by unfold pz; omega))).set (by unfold pz; omega), Or.inl rfl⟩
    rw [b1, bnd0_ok, x_worthAtMost hT hW1 b2, bnd0_ok]
    show bnd0 (f5_putThought 28 (zi a) (zi q) (zi (V (4 + a) q)) _) _ = _
    rw [k1, bnd0_ok]
/-- a TALK is thought of -/
noncomputable def nF (T V : zN2) (q a b : Nat) (s : Nat × Option Nat) : Nat × Option Nat := if s.1 < tdW T (tTk V a b q) then (tdW T (tTk V a b q), some (10 * a + b)) else s
def nOk (T V : zN2) (s : Nat × Option Nat) : Prop := tdW T V ≤ s.1 ∧ s.1 ≤ 990
theorem nF_ok {T V : zN2} (hT : TB T) {q a b : Nat} {s : Nat × Option Nat} (h : nOk T V s) : nOk T V (nF T V q a b s) := by
  have hb := (td_lt (W := tTk V a b q) hT).2.1
  unfold nF nOk at *
  split
  · dsimp only; omega
  · exact h
theorem nF_ge {T V : zN2} {q a b : Nat} {s : Nat × Option Nat} : s.1 ≤ (nF T V q a b s).1 ∧ tdW T (tTk V a b q) ≤ (nF T V q a b s).1 := by
  unfold nF
  split
  · dsimp only; omega
  · omega
/-- the side on which another is: 0 below, 1 of one mind, 2 above -/
def sgn2 (x y : Nat) : Nat := if x < y then 2 else if y < x then 0 else 1
theorem sgn2_lt {x y : Nat} : sgn2 x y < 3 := by
  unfold sgn2
  repeat' split
  all_goals omega
theorem tTk_side {V : zN2} {a b b' q : Nat} (h : sgn2 (V (4 + a) q) (V (4 + b) q) = sgn2 (V (4 + a) q) (V (4 + b') q)) : tTk V a b q = tTk V a b' q := by
  unfold tTk
  have : tTv (V (4 + a) q) (V (4 + b) q) = tTv (V (4 + a) q) (V (4 + b') q) := by
    unfold sgn2 at h
    unfold tTv
    repeat' split at h
    all_goals first | omega | skip
    all_goals repeat' split
    all_goals omega
  rw [this]
theorem x_stepTo {T W : zN2} {k : Nat} {μ : zMem} (hT : TB T) (hW : WB T W) (hS : XS T W k μ) {a b q : Nat} (ha : a < W 0 3) (hb : b < W 0 3) (hq : q < T 2 0) :
    ∃ v, f5_stepTo k (zi a) (zi b) (zi q) μ = some (0, v, μ) ∧ v + (1 : Int32) = zi (sgn2 (W (4 + a) q) (W (4 + b) q)) := by
  have h1 := wb_th hW a q
  have h2 := wb_th hW b q
  unfold f5_stepTo fJ6_compare_7cf53 sgn2
  simp (disch := omega) only [x_thought hT hW hS ha hq, x_thought hT hW hS hb hq, bnd0_ok, zlet_e, zi_le, zi_eq]
  by_cases h : W (4 + a) q < W (4 + b) q
  · refine ⟨1, ?_, ?_⟩
    · simp only [if_pos (show W (4 + a) q ≤ W (4 + b) q by omega), if_neg (show ¬ W (4 + b) q = W (4 + a) q by omega), bnd0_ok]
    · rw [if_pos h]; rfl
  · by_cases h' : W (4 + b) q < W (4 + a) q
    · refine ⟨-1, ?_, ?_⟩
      · simp only [if_neg (show ¬ W (4 + a) q ≤ W (4 + b) q by omega), bnd0_ok]
      · rw [if_neg h, if_pos h']; rfl
    · refine ⟨0, ?_, ?_⟩
      · simp only [if_pos (show W (4 + a) q ≤ W (4 + b) q by omega), if_pos (show W (4 + b) q = W (4 + a) q by omega), bnd0_ok]
      · rw [if_neg h, if_neg h']; rfl
theorem and_bit {m j : Nat} : m &&& 2 ^ j = 0 ↔ ¬ m.testBit j = true := by
  rw [dis_iff]
  constructor
  · intro h q
    exact h j q (Nat.testBit_two_pow_self)
  · intro h i h1 h2
    rw [Nat.testBit_two_pow] at h2
    have := of_decide_eq_true h2
    subst this
    exact h h1
theorem x_night88 {T V : zN2} {μ : zMem} (hT : TB T) (hW : WB T V) (hP : V 0 3 = T 2 1) (hX : XT T μ) (hS : XS T V 28 μ) {a q : Nat} (ha : a < T 2 1) (hq : q < T 2 0) {s : Nat × Option Nat} (hs : nOk T V s) (K : Int32 → Int32 → zMem → zRes) :
    ∃ μ', f8_night_L88 (zi q) (zi a) K zF (zi s.1) (oI s.2) (zi 0) (zi 0) μ = K (zi (zit (nF T V q a) (T 2 1) 0 s).1) (oI (zit (nF T V q a) (T 2 1) 0 s).2) μ' ∧ nOk T V (zit (nF T V q a) (T 2 1) 0 s) ∧ XS T V 28 μ' ∧ zfr pz μ μ' := by
  have hPP := hT.2.1
  obtain ⟨⟨v1, v2, v3, μ'⟩, e1, e2, e3, e4, -, -, e5, e6⟩ := zloopS (L := fun n i (c : Int32 × Int32 × Int32 × zMem) => f8_night_L88 (zi q) (zi a) K n c.1 c.2.1 c.2.2.1 (zi i) c.2.2.2) (N := T 2 1) (o := fun c => K c.1 c.2.1 c.2.2.2) (F := nF T V q a)
    (fun i t c => c.1 = zi t.1 ∧ c.2.1 = oI t.2 ∧ nOk T V t ∧ (∃ m, m < 8 ∧ c.2.2.1 = zi m ∧ ∀ j, m.testBit j = true → ∃ b, b < i ∧ sgn2 (V (4 + a) q) (V (4 + b) q) = j) ∧ (∀ b, b < i → tdW T (tTk V a b q) ≤ t.1) ∧ XS T V 28 c.2.2.2 ∧ zfr pz μ c.2.2.2)
    (fun n c t hc => by
      show f8_night_L88 (zi q) (zi a) K (n + 1) c.1 c.2.1 c.2.2.1 (zi (T 2 1)) c.2.2.2 = _
      rw [f8_night_L88, hc.2.2.2.2.2.2 2 (by unfold pz; omega), hX.1.2.1, if_pos (Int32.le_refl _)])
    (fun n i c t hi hc => by
      obtain ⟨w1, w2, w3, μ1⟩ := c
      obtain ⟨h1, h2, h3, ⟨m, hm1, hm2, hm3⟩, hall, h4, h5⟩ := hc
      dsimp only at h1 h2 h3 hm2 h4 h5
      subst h1 h2 hm2
      have z1 : zi i + (1 : Int32) = zi (i + 1) := zi_add i 1
      have hX' : XT T μ1 := XT_of (fun key hk => h5 key (by unfold pz; omega)) hX
      have hb := (td_lt (W := tTk V a i q) hT).2.1
      have h31 := h3.1
      have h32 := h3.2
      obtain ⟨v, s1, s2⟩ := x_stepTo hT hW h4 (a := a) (b := i) (q := q) (by omega) (by omega) hq
      have hj := sgn2_lt (x := V (4 + a) q) (y := V (4 + i) q)
      generalize ej : sgn2 (V (4 + a) q) (V (4 + i) q) = j at s2 hj
      have e2 : zshl (1 : Int32) (zi j) = zi (2 ^ j) := zshl1 (by omega)
      have hj8 : 2 ^ j < 8 := Nat.pow_lt_pow_right (m := j) (n := 3) (by decide) hj
      have hm' : m ||| 2 ^ j < 8 := Nat.or_lt_two_pow (n := 3) hm1 hj8
      have hman : m &&& 2 ^ j ≤ m := Nat.and_le_left
      have hbits : ∀ j', (m ||| 2 ^ j).testBit j' = true → ∃ b, b < i + 1 ∧ sgn2 (V (4 + a) q) (V (4 + b) q) = j' := fun j' hj' => by
        rw [Nat.testBit_or, Bool.or_eq_true] at hj'
        rcases hj' with hj' | hj'
        · obtain ⟨b, b1, b2⟩ := hm3 j' hj'
          exact ⟨b, by omega, b2⟩
        · rw [Nat.testBit_two_pow] at hj'
          exact ⟨i, by omega, ej.trans (of_decide_eq_true hj')⟩
      have hall' : ∀ b, b < i + 1 → tdW T (tTk V a b q) ≤ (nF T V q a i t).1 := fun b hb' => by
        have g := nF_ge (T := T) (V := V) (q := q) (a := a) (b := i) (s := t)
        by_cases e : b = i
        · subst e; exact g.2
        · exact Nat.le_trans (hall b (by omega)) g.1
      by_cases hseen : m.testBit j = true
      · obtain ⟨b, b1, b2⟩ := hm3 j hseen
        have hle := hall b b1
        rw [tTk_side (b' := i) (b2.trans ej.symm)] at hle
        have hn : nF T V q a i t = t := if_neg (by omega)
        refine ⟨(zi (nF T V q a i t).1, oI (nF T V q a i t).2, zi (m ||| 2 ^ j), μ1), ?_, rfl, rfl, nF_ok hT h3, ⟨_, hm', rfl, hbits⟩, hall', h4, h5⟩
        show f8_night_L88 (zi q) (zi a) K (n + 1) (zi t.1) (oI t.2) (zi m) (zi i) μ1 = f8_night_L88 (zi q) (zi a) K n (zi (nF T V q a i t).1) (oI (nF T V q a i t).2) (zi (m ||| 2 ^ j)) (zi (i + 1)) μ1
        rw [f8_night_L88, h5 2 (by unfold pz; omega), hX.1.2.1, if_neg (show ¬ zi (T 2 1) ≤ zi i from by rw [zi_le (by omega) (by omega)]; omega), s1, bnd0_ok, s2, e2, zlet_e, zlet_e, if_neg (show ¬ zi m &&& zi (2 ^ j) = (0 : Int32) from by rw [zi_and, show (0 : Int32) = zi 0 from rfl, zi_eq (by omega) (by omega), and_bit]; exact fun q => q hseen)]
        show zlet (zi m ||| zi (2 ^ j)) _ = _
        rw [zlet_e, zi_or, zlet_e, zneg1, if_pos (show zN1 ≤ zi t.1 from by rw [zN1_le (by omega)]; trivial), z1, hn]
      · obtain ⟨v', μ2, a1, a2, a3, a4⟩ := x_behindTalk hT hW hX' h4 (a := a) (b := i) (by omega) (by omega) hq
        refine ⟨(zi (nF T V q a i t).1, oI (nF T V q a i t).2, zi (m ||| 2 ^ j), μ2), ?_, rfl, rfl, nF_ok hT h3, ⟨_, hm', rfl, hbits⟩, hall', a2, h5.trans a3⟩
        show f8_night_L88 (zi q) (zi a) K (n + 1) (zi t.1) (oI t.2) (zi m) (zi i) μ1 = f8_night_L88 (zi q) (zi a) K n (zi (nF T V q a i t).1) (oI (nF T V q a i t).2) (zi (m ||| 2 ^ j)) (zi (i + 1)) μ2
        rw [f8_night_L88, h5 2 (by unfold pz; omega), hX.1.2.1, if_neg (show ¬ zi (T 2 1) ≤ zi i from by rw [zi_le (by omega) (by omega)]; omega), s1, bnd0_ok, s2, e2, zlet_e, zlet_e, if_pos (show zi m &&& zi (2 ^ j) = (0 : Int32) from by rw [zi_and, show (0 : Int32) = zi 0 from rfl, zi_eq (by omega) (by omega), and_bit]; exact hseen), a1, bnd0_ok]
        show zlet (zi m ||| zi (2 ^ j)) _ = _
        rw [zlet_e, zi_or, zlet_e, z1]
        rcases a4 with rfl | ⟨rfl, h6⟩
        · by_cases c : t.1 < tdW T (tTk V a i q)
          · rw [if_neg (show ¬ zi (tdW T (tTk V a i q)) ≤ zi t.1 from by rw [zi_le (by omega) (by omega)]; omega), zlet_e, show nF T V q a i t = (tdW T (tTk V a i q), some (10 * a + i)) from if_pos c]
            rw [show (10 : Int32) = zi 10 from rfl, zi_mul, zi_add]; rfl
          · rw [if_pos (show zi (tdW T (tTk V a i q)) ≤ zi t.1 from by rw [zi_le (by omega) (by omega)]; omega), show nF T V q a i t = t from if_neg c]
        · rw [if_pos (show zN1 ≤ zi t.1 from by rw [zN1_le (by omega)]; trivial), show nF T V q a i t = t from if_neg (by omega)])
    (T 2 1) 0 (zi s.1, oI s.2, zi 0, μ) s zF (by omega) (by unfold zF; omega) ⟨rfl, rfl, hs, ⟨0, by decide, rfl, fun j hj => by rw [Nat.zero_testBit] at hj; exact absurd hj (by decide)⟩, fun b hb => absurd hb (Nat.not_lt_zero b), hS, zfr.refl⟩
  dsimp only at e1 e2 e3 e4 e5 e6
  rw [e2, e3] at e1
  exact ⟨μ', e1, e4, e5, e6⟩
theorem x_night70 {T V : zN2} {μ : zMem} (hT : TB T) (hW : WB T V) (hP : V 0 3 = T 2 1) (hX : XT T μ) (hS : XS T V 28 μ) {q : Nat} (hq : q < T 2 0) {s : Nat × Option Nat} (hs : nOk T V s) (K : Int32 → zMem → zRes) :
    ∃ μ', f8_night_L70 (zi q) K zF (zi s.1) (oI s.2) (zi 0) μ = K (oI (zit (fun a => zit (nF T V q a) (T 2 1) 0) (T 2 1) 0 s).2) μ' ∧ zfr pz μ μ' := by
  have hPP := hT.2.1
  obtain ⟨⟨v1, v2, μ'⟩, e1, e2, e3, e4, e5, e6⟩ := zloopS (L := fun n i (c : Int32 × Int32 × zMem) => f8_night_L70 (zi q) K n c.1 c.2.1 (zi i) c.2.2) (N := T 2 1) (o := fun c => K c.2.1 c.2.2) (F := fun a => zit (nF T V q a) (T 2 1) 0)
    (fun i t c => c.1 = zi t.1 ∧ c.2.1 = oI t.2 ∧ nOk T V t ∧ XS T V 28 c.2.2 ∧ zfr pz μ c.2.2)
    (fun n c t hc => by
      show f8_night_L70 (zi q) K (n + 1) c.1 c.2.1 (zi (T 2 1)) c.2.2 = _
      rw [f8_night_L70, hc.2.2.2.2 2 (by unfold pz; omega), hX.1.2.1, if_pos (Int32.le_refl _)])
    (fun n i c t hi hc => by
      obtain ⟨w1, w2, μ1⟩ := c
      obtain ⟨h1, h2, h3, h4, h5⟩ := hc
      dsimp only at h1 h2 h3 h4 h5
      subst h1 h2
      have z1 : zi i + (1 : Int32) = zi (i + 1) := zi_add i 1
      have hX' : XT T μ1 := XT_of (fun key hk => h5 key (by unfold pz; omega)) hX
      obtain ⟨μ2, a1, a2, a3, a4⟩ := x_night88 hT hW hP hX' h4 hi hq h3 (fun (x2_25 : Int32) (x3_26 : Int32) (μ27 : zMem) => f8_night_L70 (zi q) K n x2_25 x3_26 (zi i + (1 : Int32)) μ27)
      refine ⟨(zi (zit (nF T V q i) (T 2 1) 0 t).1, oI (zit (nF T V q i) (T 2 1) 0 t).2, μ2), ?_, rfl, rfl, a2, a3, h5.trans a4⟩
      show f8_night_L70 (zi q) K (n + 1) (zi t.1) (oI t.2) (zi i) μ1 = f8_night_L70 (zi q) K n (zi (zit (nF T V q i) (T 2 1) 0 t).1) (oI (zit (nF T V q i) (T 2 1) 0 t).2) (zi (i + 1)) μ2
      rw [f8_night_L70, h5 2 (by unfold pz; omega), hX.1.2.1, if_neg (show ¬ zi (T 2 1) ≤ zi i from by rw [zi_le (by omega) (by omega)]; omega), ← z1]
      exact a1)
    (T 2 1) 0 (zi s.1, oI s.2, μ) s zF (by omega) (by unfold zF; omega) ⟨rfl, rfl, hs, hS, zfr.refl⟩
  dsimp only at e1 e2 e3 e4 e5 e6
  rw [e3] at e1
  exact ⟨μ', e1, e6⟩
/-- what night changes in the reference -/
def nfr (μ μ' : zMem) : Prop := mfr (fun j => j = 34 ∨ j = 35) (fun k => (51 ≤ k ∧ k < 60) ∨ (101 ≤ k ∧ k < 1125)) μ μ'
theorem MT_nfr {T : zN2} {μ μ' : zMem} (h : nfr μ μ') (hT : TB T) (hM : MT T μ) : MT T μ' :=
  MT_at (fun j _ => congrFun (h.1 4 (by omega) (by omega)) j) (h.1 47 (by omega) (by omega)) (h.1 49 (by omega) (by omega)) (fun p _ => congrFun (h.1 (15 + p) (by omega) (by omega)) 5) (fun d _ => h.1 (36 + d) (by omega) (by omega)) hT hM
theorem zset_30 {μ : zMem} {T W : zN2} (hT : TB T) (hW : WB T W) (hS : MS T W μ) : MS T W (zset μ 0 30 (if (-1 : Int32) = (-1 : Int32) then μ 0 30 else (-1 : Int32))) := by
  rw [if_pos rfl]
  refine MS_at ?_ ?_ ?_ ?_ ?_ (fun p _ => ?_) (fun p _ => ?_) hT hW hS
  · exact zset_nj (by decide)
  · exact zset_eq
  · rw [zset_nk (by decide)]
  · exact zset_nk (by decide)
  · exact zset_nk (by decide)
  · exact zset_nk (by omega)
  · rw [zset_nk (by omega)]
theorem m_night94 {T V : zN2} {μ : zMem} (hT : TB T) (hW : WB T V) (hP : V 0 3 = T 2 1) (hM : MT T μ) (hS : MS T V μ) {a q : Nat} (ha : a < T 2 1) (hq : q < T 2 0) {s : Nat × Option Nat} (hs : nOk T V s) (K : Int32 → Int32 → zMem → zRes) :
    ∃ μ', f9_night_L94 (zi q) (zi a) K zF (oI s.2) (zi s.1) (zi 0) μ = K (oI (zit (nF T V q a) (T 2 1) 0 s).2) (zi (zit (nF T V q a) (T 2 1) 0 s).1) μ' ∧ nOk T V (zit (nF T V q a) (T 2 1) 0 s) ∧ MS T V μ' ∧ nfr μ μ' := by
  have hPP := hT.2.1
  have hQ := hT.1
  have z1' : ∀ A, zin (1 : Int32) 6 A = A := fun A => zin_i (i := 1) (by decide) (by decide)
  have n1 : (1 : Int32).toNatClampNeg = 1 := by decide
  have hza : ∀ A, zin (zi a) 9 A = A := fun A => zin_i (by omega) (by omega)
  have hzq : ∀ A, zin (zi q) 4 A = A := fun A => zin_i (by omega) (by omega)
  obtain ⟨⟨v1, v2, μ'⟩, e1, e2, e3, e4, e5, e6⟩ := zloopS (L := fun n i (c : Int32 × Int32 × zMem) => f9_night_L94 (zi q) (zi a) K n c.1 c.2.1 (zi i) c.2.2) (N := T 2 1) (o := fun c => K c.1 c.2.1 c.2.2) (F := nF T V q a)
    (fun i t c => c.1 = oI t.2 ∧ c.2.1 = zi t.1 ∧ nOk T V t ∧ MS T V c.2.2 ∧ nfr μ c.2.2)
    (fun n c t hc => by
      show f9_night_L94 (zi q) (zi a) K (n + 1) c.1 c.2.1 (zi (T 2 1)) c.2.2 = _
      rw [f9_night_L94, z1', n1, hc.2.2.2.2.1 4 (by omega) (by omega), hM.1.2.1, if_pos (Int32.le_refl _)])
    (fun n i c t hi hc => by
      obtain ⟨w1, w2, μ1⟩ := c
      obtain ⟨h1, h2, h3, h4, h5⟩ := hc
      dsimp only at h1 h2 h3 h4 h5
      subst h1 h2
      have z1 : zi i + (1 : Int32) = zi (i + 1) := zi_add i 1
      have hzi : ∀ A, zin (zi i) 9 A = A := fun A => zin_i (by omega) (by omega)
      have hM' := MT_nfr h5 hT hM
      have ta := (h4.2.1 a (by omega)).2 q hq
      have ti := (h4.2.1 i (by omega)).2 q hq
      have k1 := wb_th hW a q
      have k2 := wb_th hW i q
      have h31 := h3.1
      have h32 := h3.2
      have skip : V (4 + a) q = V (4 + i) q → nF T V q a i t = t := fun e => by
        have : tTk V a i q = V := by
          unfold tTk
          rw [show tTv (V (4 + a) q) (V (4 + i) q) = V (4 + a) q from by unfold tTv; rw [e, if_neg (Nat.lt_irrefl _), if_neg (Nat.lt_irrefl _)]]
          exact nup_self rfl
        unfold nF
        rw [this, if_neg (by omega)]
      have hq0 : f9_night_L94 (zi q) (zi a) K (n + 1) (oI t.2) (zi t.1) (zi i) μ1 = if zi a = zi i then f9_night_L94 (zi q) (zi a) K n (oI t.2) (zi t.1) (zi (i + 1)) μ1 else if zi (V (4 + a) q) = zi (V (4 + i) q) then f9_night_L94 (zi q) (zi a) K n (oI t.2) (zi t.1) (zi (i + 1)) μ1 else bnd0 (f9_talks (zi a) (zi i) (zi q) μ1) (fun (v41 : Int32) (μ42 : zMem) => zin (1 : Int32) 6 (bnd0 (f9_findToday (μ42 4 (1 : Int32).toNatClampNeg) (-1 : Int32) μ42) (fun (v44 : Int32) (μ45 : zMem) => zin (zi a) 9 (zin (zi q) 4 (zlet (zset μ45 (51 + (zi a).toNatClampNeg) (zi q).toNatClampNeg (zi (V (4 + a) q))) (fun (μ48 : zMem) => if (zi t.1) < (μ48 0 34) then zlet (((10 : Int32) * (zi a)) + (zi i)) (fun (v51 : Int32) => zlet (μ48 0 34) (fun (v52 : Int32) => f9_night_L94 (zi q) (zi a) K n v51 v52 (zi (i + 1)) μ48)) else f9_night_L94 (zi q) (zi a) K n (oI t.2) (zi t.1) (zi (i + 1)) μ48)))))) := by
        rw [f9_night_L94, z1', n1, h5.1 4 (by omega) (by omega), hM.1.2.1, if_neg (show ¬ zi (T 2 1) ≤ zi i from by rw [zi_le (by omega) (by omega)]; omega), zlet_e, hza, hzq, hzi, hzq, zi_cl (n := a) (by omega), zi_cl (n := q) (by omega), zi_cl (n := i) (by omega), ta, ti, hza, hzq, zlet_e, z1]
      show ∃ s', f9_night_L94 (zi q) (zi a) K (n + 1) (oI t.2) (zi t.1) (zi i) μ1 = _ ∧ _
      rw [hq0]
      by_cases c1 : a = i
      · rw [if_pos (by rw [c1])]
        exact ⟨(oI t.2, zi t.1, μ1), rfl, by rw [skip (by rw [c1])], by rw [skip (by rw [c1])], by rw [skip (by rw [c1])]; exact h3, h4, h5⟩
      · rw [if_neg (by rw [zi_eq (by omega) (by omega)]; exact c1)]
        by_cases c2 : V (4 + a) q = V (4 + i) q
        · rw [if_pos (by rw [c2])]
          exact ⟨(oI t.2, zi t.1, μ1), rfl, by rw [skip c2], by rw [skip c2], by rw [skip c2]; exact h3, h4, h5⟩
        · rw [if_neg (by rw [zi_eq (by omega) (by omega)]; exact c2), m_talks hT hW h4 (by omega) (by omega) hq, bnd0_ok, z1', n1]
          have hW1 : WB T (tTk V a i q) := wb_talk hW
          have hS1 : MS T (tTk V a i q) (zset μ1 (51 + a) q (zi (tTv (V (4 + a) q) (V (4 + i) q)))) := ms_put hT hW h4 (by omega) hq
          have hM1 : MT T (zset μ1 (51 + a) q (zi (tTv (V (4 + a) q) (V (4 + i) q)))) := MT_at (fun j _ => by rw [zset_nk (by omega)]) (zset_nk (by omega)) (zset_nk (by omega)) (fun p _ => by rw [zset_nk (by omega)]) (fun d _ => zset_nk (by omega)) hT hM'
          obtain ⟨μ2, b1, b2, b3, b4, b5⟩ := m_today hT hW1 (x2 := (-1 : Int32)) rfl hM1 (zset_30 hT hW1 hS1)
          rw [show tTk V a i q 0 3 = T 2 1 from (nup_nk (by omega)).trans hP] at b1
          rw [hM1.1.2.1, b1, bnd0_ok, hza, hzq, zlet_e, zi_cl (n := a) (by omega), zi_cl (n := q) (by omega), zset_nk (by omega), b2]
          have hS2 : MS T V (zset μ2 (51 + a) q (zi (V (4 + a) q))) := by
            have := ms_put (v := V (4 + a) q) (p := a) hT hW1 (MS_q (zmq_today b5) hT hW1 hS1) (by omega) hq
            unfold tTk at this
            rw [nup_nup, nup_self rfl] at this
            exact this
          have f2 : nfr μ (zset μ2 (51 + a) q (zi (V (4 + a) q))) := by
            refine mfr.set ?_ (by omega) (by omega)
            refine mfr.trans (mfr.set h5 (k := 51 + a) (j := q) (v := zi (tTv (V (4 + a) q) (V (4 + i) q))) (by omega) (by omega)) ?_
            exact b5.mono (fun j hj => hj) (fun k hk => Or.inr hk)
          have hb := (td_lt (W := tTk V a i q) hT).2.1
          refine ⟨(oI (nF T V q a i t).2, zi (nF T V q a i t).1, zset μ2 (51 + a) q (zi (V (4 + a) q))), ?_, rfl, rfl, nF_ok hT h3, hS2, f2⟩
          by_cases c : t.1 < tdW T (tTk V a i q)
          · rw [if_pos (by rw [zi_lt (by omega) (by omega)]; exact c), zlet_e, zlet_e, show nF T V q a i t = (tdW T (tTk V a i q), some (10 * a + i)) from if_pos c]
            rw [show (10 : Int32) = zi 10 from rfl, zi_mul, zi_add]; rfl
          · rw [if_neg (by rw [zi_lt (by omega) (by omega)]; exact c), show nF T V q a i t = t from if_neg c])
    (T 2 1) 0 (oI s.2, zi s.1, μ) s zF (by omega) (by unfold zF; omega) ⟨rfl, rfl, hs, hS, mfr.refl⟩
  dsimp only at e1 e2 e3 e4 e5 e6
  rw [e2, e3] at e1
  exact ⟨μ', e1, e4, e5, e6⟩
theorem m_night80 {T V : zN2} {μ : zMem} (hT : TB T) (hW : WB T V) (hP : V 0 3 = T 2 1) (hM : MT T μ) (hS : MS T V μ) {q : Nat} (hq : q < T 2 0) {s : Nat × Option Nat} (hs : nOk T V s) (K : Int32 → zMem → zRes) :
    ∃ μ', f9_night_L80 (zi q) K zF (oI s.2) (zi s.1) (zi 0) μ = K (oI (zit (fun a => zit (nF T V q a) (T 2 1) 0) (T 2 1) 0 s).2) μ' ∧ nfr μ μ' := by
  have hPP := hT.2.1
  have z1' : ∀ A, zin (1 : Int32) 6 A = A := fun A => zin_i (i := 1) (by decide) (by decide)
  have n1 : (1 : Int32).toNatClampNeg = 1 := by decide
  obtain ⟨⟨v1, v2, μ'⟩, e1, e2, e3, e4, e5, e6⟩ := zloopS (L := fun n i (c : Int32 × Int32 × zMem) => f9_night_L80 (zi q) K n c.1 c.2.1 (zi i) c.2.2) (N := T 2 1) (o := fun c => K c.1 c.2.2) (F := fun a => zit (nF T V q a) (T 2 1) 0)
    (fun i t c => c.1 = oI t.2 ∧ c.2.1 = zi t.1 ∧ nOk T V t ∧ MS T V c.2.2 ∧ nfr μ c.2.2)
    (fun n c t hc => by
      show f9_night_L80 (zi q) K (n + 1) c.1 c.2.1 (zi (T 2 1)) c.2.2 = _
      rw [f9_night_L80, z1', n1, hc.2.2.2.2.1 4 (by omega) (by omega), hM.1.2.1, if_pos (Int32.le_refl _)])
    (fun n i c t hi hc => by
      obtain ⟨w1, w2, μ1⟩ := c
      obtain ⟨h1, h2, h3, h4, h5⟩ := hc
      dsimp only at h1 h2 h3 h4 h5
      subst h1 h2
      have z1 : zi i + (1 : Int32) = zi (i + 1) := zi_add i 1
      obtain ⟨μ2, a1, a2, a3, a4⟩ := m_night94 hT hW hP (MT_nfr h5 hT hM) h4 hi hq h3 (fun (x2_53 : Int32) (x3_54 : Int32) (μ55 : zMem) => f9_night_L80 (zi q) K n x2_53 x3_54 (zi i + (1 : Int32)) μ55)
      refine ⟨(oI (zit (nF T V q i) (T 2 1) 0 t).2, zi (zit (nF T V q i) (T 2 1) 0 t).1, μ2), ?_, rfl, rfl, a2, a3, mfr.trans h5 a4⟩
      show f9_night_L80 (zi q) K (n + 1) (oI t.2) (zi t.1) (zi i) μ1 = f9_night_L80 (zi q) K n (oI (zit (nF T V q i) (T 2 1) 0 t).2) (zi (zit (nF T V q i) (T 2 1) 0 t).1) (zi (i + 1)) μ2
      rw [f9_night_L80, z1', n1, h5.1 4 (by omega) (by omega), hM.1.2.1, if_neg (show ¬ zi (T 2 1) ≤ zi i from by rw [zi_le (by omega) (by omega)]; omega), ← z1]
      exact a1)
    (T 2 1) 0 (oI s.2, zi s.1, μ) s zF (by omega) (by unfold zF; omega) ⟨rfl, rfl, hs, hS, mfr.refl⟩
  dsimp only at e1 e2 e3 e4 e5 e6
  rw [e2] at e1
  exact ⟨μ', e1, e6⟩
theorem P_night {x : Int32} {μX μM : zMem} (h : zInv μX μM) : zPm cI (f8_night x μX) (f9_night x μM) := by
  have h' := h
  obtain ⟨T, W, r, R, n, m, WI, rI, RI, ⟨hT, hW, hL, hX, hM, hS, hS', h30, hB, hR, hR'⟩, ht, hf, hi⟩ := h
  have hPP := hT.2.1
  have hQ := hT.1
  have hN := hW.1
  have hM0 := MT_0 (v := zi 0) hT hM
  have hS0 := MS_0 (v := zi 0) hT hW hS'
  have e00 : zset μM 0 0 (zi 0) 0 0 = zi 0 := zset_00
  have e30 : zset μM 0 0 (zi 0) 0 30 = zN1 := by rw [zset_nj (by decide)]; exact h30
  have z1' : ∀ A, zin (1 : Int32) 6 A = A := fun A => zin_i (i := 1) (by decide) (by decide)
  have n1 : (1 : Int32).toNatClampNeg = 1 := by decide
  have b29 : ∀ {a : Nat}, a < 1000 → ((zi a < (29 : Int32)) = (a < 29)) := fun ha => zi_lt (b := 29) (by omega) (by decide)
  have q29 : ∀ {a : Nat}, a < 1000 → ((zi a = (29 : Int32)) = (a = 29)) := fun ha => zi_eq (b := 29) (by omega) (by decide)
  rcases zcase x (T 2 0) (by omega) with ⟨q, hq, rfl⟩ | hx
  · have hpre : f9_night (zi q) μM = (if zset μM 0 0 (zi 0) 0 20 = (29 : Int32) then some (0, (-1 : Int32), zset μM 0 0 (zi 0)) else bnd0 (f9_lays (0 : Int32) (0 : Int32) (zset μM 0 0 (zi 0))) (fun (v11 : Int32) (μ12 : zMem) => zlet (zset μ12 0 20 ((μ12 0 20) + (1 : Int32))) (fun (μ13 : zMem) => bnd0 (f9_dawns μ13) (fun (v14 : Int32) (μ15 : zMem) => zin (1 : Int32) 6 (bnd0 (f9_findToday (μ15 4 (1 : Int32).toNatClampNeg) (-1 : Int32) μ15) (fun (v17 : Int32) (μ18 : zMem) => zlet (μ18 0 34) (fun (v19 : Int32) => f9_night_L80 (zi q) (fun (x2_56 : Int32) (μ57 : zMem) => bnd0 (f9_lays (0 : Int32) (1 : Int32) μ57) (fun (v58 : Int32) (μ59 : zMem) => some (0, x2_56, μ59))) zF (-1 : Int32) v19 (0 : Int32) μ18))))))) := by
      unfold f9_night
      rw [zlet_e, show zset μM 0 0 (0 : Int32) = zset μM 0 0 (zi 0) from rfl, m_isQ_ok hT hM0 hq, bnd0_ok, zlet_e, if_neg (show ¬ zi 1 = (0 : Int32) from by decide)]
      show bnd0 (f9_bad (0 : Int32) (1 : Int32) (zset μM 0 0 (zi 0))) _ = _
      rw [show f9_bad (0 : Int32) (1 : Int32) (zset μM 0 0 (zi 0)) = _ from m_bad0 e00, bnd0_ok, if_pos (show zi 0 = (0 : Int32) from rfl)]
    by_cases c29 : W 0 0 = 29
    · refine zPm_q h' (μX' := μX) (μM' := zset μM 0 0 (zi 0)) (e := 0) (v := zN1) (w := zN1) ?_ (hpre.trans ?_) zset_00 (fun _ => rfl) (Or.inl rfl) zfr.refl zmq_0
      · unfold f8_night
        rw [x_needQ_ok hT hX hq, bnd_ok, hS.1.1, if_neg (by rw [b29 (by omega)]; omega)]; rfl
      · rw [hS0.1.1, if_pos (by rw [q29 (by omega)]; exact c29)]; rfl
    · obtain ⟨μ1, a1, a2, a3, -⟩ := x_copyWorld (k := 28) (k2 := 23) (by omega) hT hW hS
      have hX1 : XT T μ1 := XT_of (fun key hk => a3 key (by omega)) hX
      obtain ⟨μ2, b1, b2, b3, -⟩ := x_beginDay (k := 28) (day := W 0 0 + 1) (by decide) hT hW hX1 a2 (by omega)
      have hX2 : XT T μ2 := XT_of (fun key hk => b3 key (by omega)) hX1
      have hWd : WB T (tD T W (W 0 0 + 1)) := wb_dawn hT hW (by omega)
      have hPd : tD T W (W 0 0 + 1) 0 3 = T 2 1 := hL.2.2.1
      obtain ⟨μ3, c1, c2, c3⟩ := x_make hT hWd hX2 b2
      have hX3 : XT T μ3 := XT_of (fun key hk => c3 key (by omega)) hX2
      have hb := (td_lt (W := tD T W (W 0 0 + 1)) hT).2.1
      have hs0 : nOk T (tD T W (W 0 0 + 1)) (tdW T (tD T W (W 0 0 + 1)), none) := ⟨Nat.le_refl _, hb⟩
      obtain ⟨μ4, d1, d2⟩ := x_night70 hT hWd hPd hX3 (XS_of (fun key q1 q2 => c3 key (by omega)) b2) hq hs0 (fun (x3_28 : Int32) (μ29 : zMem) => some (0, x3_28, μ29))
      have fX : zfr pz μX μ4 := (a3.mono (fun k hk => by unfold pz; omega)).trans ((b3.mono (fun k hk => by unfold pz; omega)).trans ((c3.mono (fun k hk => by unfold pz; omega)).trans d2))
      -- the reference
      obtain ⟨m1, l1, l2, l3⟩ := m_lays0 (i := 0) (μ := zset μM 0 0 (zi 0)) (by decide)
      have hM1 : MT T m1 := MT_at (fun j _ => congrFun (l3.1 4 (by decide) (by decide)) j) (l3.1 47 (by decide) (by decide)) (l3.1 49 (by decide) (by decide)) (fun p _ => congrFun (l3.1 (15 + p) (by omega) (by omega)) 5) (fun d _ => l3.1 (36 + d) (by omega) (by omega)) hT hM0
      have hM2 : MT T (zset m1 0 20 (zi (W 0 0 + 1))) := MT_at (fun j _ => by rw [zset_nk (by decide)]) (zset_nk (by decide)) (zset_nk (by decide)) (fun p _ => by rw [zset_nk (by omega)]) (fun d _ => zset_nk (by omega)) hT hM1
      have hM3 : MT T (zfil (zset m1 0 20 (zi (W 0 0 + 1))) 91 9 (zi (T 2 4))) := MT_at (fun j _ => by rw [zfil_nk (by decide)]) (zfil_nk (by decide)) (zfil_nk (by decide)) (fun p _ => by rw [zfil_nk (by omega)]) (fun d _ => zfil_nk (by omega)) hT hM2
      have hS3 : MS T (tD T W (W 0 0 + 1)) (zfil (zset m1 0 20 (zi (W 0 0 + 1))) 91 9 (zi (T 2 4))) := by
        refine ms_dawn hT hW hS0 e30 ?_ ?_ ?_ (fun p hp => ?_) ?_ (fun p hp => ?_) (fun p hp => ?_)
        · rw [zfil_nk (by decide), zset_eq]
        · rw [zfil_nk (by decide), zset_nj (by decide), l3.2 30 (by decide)]; exact e30
        · rw [zfil_nk (by decide), zset_nk (by decide), l3.1 4 (by decide) (by decide)]
        · rw [zfil_at, if_pos ⟨rfl, hp⟩]
        · rw [zfil_nk (by decide), zset_nk (by decide), l3.1 92 (by decide) (by decide)]
        · rw [zfil_nk (by omega), zset_nk (by omega), l3.1 (51 + p) (by omega) (by omega)]
        · rw [zfil_nk (by omega), zset_nk (by omega), l3.1 (15 + p) (by omega) (by omega)]
      obtain ⟨m4, g1, g2, g3, g4, g5⟩ := m_today hT hWd (x2 := (-1 : Int32)) rfl hM3 (zset_30 hT hWd hS3)
      rw [hPd] at g1
      have hM4 := MT_q (zmq_today g5).2.2 hT hM3
      obtain ⟨m5, k1, k2⟩ := m_night80 hT hWd hPd hM4 (MS_q (zmq_today g5) hT hWd hS3) hq hs0 (fun (x2_56 : Int32) (μ57 : zMem) => bnd0 (f9_lays (0 : Int32) (1 : Int32) μ57) (fun (v58 : Int32) (μ59 : zMem) => some (0, x2_56, μ59)))
      obtain ⟨m6, o1, o2, o3⟩ := m_lays1 (i := 0) (μ := m5) (by decide)
      have ff : mfr (fun j => j = 20 ∨ j = 34 ∨ j = 35) (fun k => k = 91 ∨ (51 ≤ k ∧ k < 60) ∨ (101 ≤ k ∧ k < 1125)) m1 m5 := by
        refine mfr.trans (μ' := zfil (zset m1 0 20 (zi (W 0 0 + 1))) 91 9 (zi (T 2 4))) ?_ (mfr.trans (μ' := m4) ?_ ?_)
        · exact mfr.fil (mfr.set0 mfr.refl (Or.inl rfl)) (by decide) (Or.inl rfl)
        · exact g5.mono (fun j hj => Or.inr hj) (fun k hk => Or.inr (Or.inr hk))
        · exact k2.mono (fun j hj => Or.inr hj) (fun k hk => Or.inr hk)
      obtain ⟨zz, z0⟩ := zmq_aside (i := 0) (by decide) l2 l3 ff o2 o3 (by omega) (fun k hk => by unfold zmk at hk; omega) (by omega)
      refine zPm_q h' (μX' := μ4) (μM' := m6) (e := 0) (v := oI (zit (fun a => zit (nF T (tD T W (W 0 0 + 1)) q a) (T 2 1) 0) (T 2 1) 0 (tdW T (tD T W (W 0 0 + 1)), none)).2) (w := oI (zit (fun a => zit (nF T (tD T W (W 0 0 + 1)) q a) (T 2 1) 0) (T 2 1) 0 (tdW T (tD T W (W 0 0 + 1)), none)).2) ?_ (hpre.trans ?_) ?_ (fun _ => rfl) (Or.inl rfl) (pz_zsx fX) (zmq_0.trans zz)
      · unfold f8_night
        rw [x_needQ_ok hT hX hq, bnd_ok, hS.1.1, if_pos (by rw [b29 (by omega)]; omega), a1, bnd0_ok, a3 23 (by omega), hS.1.1, show zi (W 0 0) + (1 : Int32) = zi (W 0 0 + 1) from zi_add _ 1, b1, bnd0_ok, c1, bnd0_ok, x_worthAtMost hT hWd c2, bnd0_ok]
        exact d1
      · rw [hS0.1.1, if_neg (by rw [q29 (by omega)]; exact c29)]
        rw [show f9_lays (0 : Int32) (0 : Int32) (zset μM 0 0 (zi 0)) = _ from l1, bnd0_ok, zlet_e, l3.2 20 (by decide), hS0.1.1, show zi (W 0 0) + (1 : Int32) = zi (W 0 0 + 1) from zi_add _ 1, m_dawns hT hM2, bnd0_ok, z1', n1, hM3.1.2.1, g1, bnd0_ok, zlet_e, g2]
        refine k1.trans ?_
        show bnd0 (f9_lays (0 : Int32) (1 : Int32) m5) _ = _
        rw [show f9_lays (0 : Int32) (1 : Int32) m5 = _ from o1, bnd0_ok]
      · rw [z0 0 (by decide) (by decide) (by decide) (by decide)]; exact e00
  · refine zPm_q h' (μX' := μX) (μM' := zset (zset μM 0 0 (zi 0)) 0 0 (zi 1)) (e := 1) (v := zi 0) (w := zi 0) ?_ ?_ zset_00 (fun h => absurd h (by decide)) (Or.inr (by decide)) zfr.refl zmq_00
    · unfold f8_night
      rw [x_needQ_no hX hx]; rfl
    · unfold f9_night
      rw [zlet_e, show zset μM 0 0 (0 : Int32) = zset μM 0 0 (zi 0) from rfl, m_isQ_no hT hM0 hx, bnd0_ok, zlet_e, if_pos (show zi 0 = (0 : Int32) from rfl)]
      show bnd0 (f9_bad (1 : Int32) (1 : Int32) (zset μM 0 0 (zi 0))) _ = _
      rw [show f9_bad (1 : Int32) (1 : Int32) (zset μM 0 0 (zi 0)) = _ from m_bad1 e00 (by decide) (by decide), bnd0_ok, if_neg (show ¬ zi 1 = (0 : Int32) from by decide)]; rfl
