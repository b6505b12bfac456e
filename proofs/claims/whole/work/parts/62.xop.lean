/-! THE PURE SIDE, 3: the class's scenes -/
theorem x_lesser {lo hi a b : Nat} {μ : zMem} (hlo : lo ≤ hi) (hhi : hi ≤ 8) (ha : a ≤ 4) (hb : b ≤ 4) : f8_lesserBehind (zi lo) (zi hi) (zi a) (zi b) μ = some (0, zi (nLo lo hi a b), μ) := by
  unfold f8_lesserBehind nLo
  have hm : (hi - lo) * a ≤ 8 * 4 := Nat.mul_le_mul (by omega) ha
  simp (disch := omega) only [zlet_e, zi_sub, zi_add, zi_le, zi_mul, zlit, zi_lt]
  by_cases h : a + b ≤ hi - lo
  · rw [if_pos h, if_pos h]
  · rw [if_neg h, if_neg h, if_pos (by omega)]
    simp (disch := omega) only [znz_i, zi_div, zi_add]
theorem x_greater {lo hi a b : Nat} {μ : zMem} (hlo : lo ≤ hi) (hhi : hi ≤ 8) (ha : a ≤ 4) (hb : b ≤ 4) : f8_greaterBehind (zi lo) (zi hi) (zi a) (zi b) μ = some (0, zi (nHi lo hi a b), μ) := by
  unfold f8_greaterBehind
  simp (disch := omega) only [zi_sub, zi_add, zi_lt, x_lesser hlo hhi ha hb, bnd0_ok]
  unfold nHi nLo
  by_cases h : a + b ≤ hi - lo
  · rw [if_neg (by omega), if_pos h]
  · rw [if_pos (by omega), if_neg h, if_neg h]
theorem zd_comm (a b : Nat) : zd a b = zd b a := by unfold zd; omega
theorem nLo_le {lo hi a b : Nat} (h : lo ≤ hi) : lo ≤ nLo lo hi a b ∧ nLo lo hi a b ≤ hi := by
  unfold nLo
  by_cases h1 : a + b ≤ hi - lo
  · rw [if_pos h1]; omega
  · rw [if_neg h1]
    have : (hi - lo) * a / (a + b) ≤ hi - lo := by
      apply Nat.div_le_of_le_mul
      rw [Nat.mul_comm]
      exact Nat.mul_le_mul_right _ (by omega)
    generalize (hi - lo) * a / (a + b) = x at *
    omega
theorem nHi_le {lo hi a b : Nat} (h : lo ≤ hi) : nLo lo hi a b ≤ nHi lo hi a b ∧ nHi lo hi a b ≤ hi := by
  have h2 := nLo_le (a := a) (b := b) h
  unfold nLo at h2
  unfold nHi nLo
  by_cases h1 : a + b ≤ hi - lo
  · rw [if_pos h1] at *; rw [if_pos h1]; omega
  · rw [if_neg h1] at *; rw [if_neg h1]; omega
/-- what two think behind a WORK: the first one's, the other one's -/
def nA (x y a b : Nat) : Nat := if x ≤ y then nLo x y a b else nHi y x b a
def nB (x y a b : Nat) : Nat := if x ≤ y then nHi x y a b else nLo y x b a
theorem tN_at {W : zN2} {a b q : Nat} (hab : a ≠ b) (k j : Nat) : tN W a b q k j = if k = 4 + a ∧ j = q then nA (W (4 + a) q) (W (4 + b) q) (W 2 a) (W 2 b) else if k = 4 + b ∧ j = q then nB (W (4 + a) q) (W (4 + b) q) (W 2 a) (W 2 b) else W k j := by
  unfold tN tN1 nA nB
  by_cases h : W (4 + a) q ≤ W (4 + b) q
  · simp only [if_pos h, nup_at]
    by_cases h1 : k = 4 + a ∧ j = q
    · rw [if_pos h1, if_neg (by omega), if_pos h1]
    · rw [if_neg h1, if_neg h1]
  · simp only [if_neg h, nup_at]
theorem tK_at {T W : zN2} {d a b : Nat} (hab : a ≠ b) (k j : Nat) : tK T W d a b k j = if k = 0 ∧ j = 4 then W 0 4 ||| 2 ^ d else if k = 1 ∧ j = b then W 1 b - T 9 d else if k = 1 ∧ j = a then W 1 a - T 9 d else if k = 4 + a ∧ j = tA T W d then nA (W (4 + a) (tA T W d)) (W (4 + b) (tA T W d)) (W 2 a) (W 2 b) else if k = 4 + b ∧ j = tA T W d then nB (W (4 + a) (tA T W d)) (W (4 + b) (tA T W d)) (W 2 a) (W 2 b) else W k j := by
  unfold tK
  rw [nup_at, nup_at, nup_at, tN_at hab]
theorem tK_0 {T W : zN2} {d a b j : Nat} (hab : a ≠ b) (hj : j ≠ 4) : tK T W d a b 0 j = W 0 j := by
  rw [tK_at hab, if_neg (by omega), if_neg (by omega), if_neg (by omega), if_neg (by omega), if_neg (by omega)]
theorem tK_2 {T W : zN2} {d a b j : Nat} (hab : a ≠ b) : tK T W d a b 2 j = W 2 j := by
  rw [tK_at hab, if_neg (by omega), if_neg (by omega), if_neg (by omega), if_neg (by omega), if_neg (by omega)]
theorem nA_le {x y a b : Nat} (hx : x ≤ 8) (hy : y ≤ 8) : nA x y a b ≤ 8 := by
  unfold nA
  by_cases h : x ≤ y
  · rw [if_pos h]; have := nLo_le (a := a) (b := b) h; omega
  · rw [if_neg h]; have := nHi_le (a := b) (b := a) (show y ≤ x by omega); omega
theorem nB_le {x y a b : Nat} (hx : x ≤ 8) (hy : y ≤ 8) : nB x y a b ≤ 8 := by
  unfold nB
  by_cases h : x ≤ y
  · rw [if_pos h]; have := nHi_le (a := a) (b := b) h; omega
  · rw [if_neg h]; have := nLo_le (a := b) (b := a) (show y ≤ x by omega); omega
theorem bor_lt {o d n : Nat} (ho : o < 2 ^ n) (hd : d < n) : o ||| 2 ^ d < 2 ^ n := Nat.or_lt_two_pow ho (Nat.pow_lt_pow_right (by decide) hd)
theorem wb_work {T W : zN2} {d a b : Nat} (hT : TB T) (hW : WB T W) (hd : d < T 2 2) (hab : a ≠ b) : WB T (tK T W d a b) := by
  have hD10 := hT.2.2.1
  refine ⟨?_, ?_, ?_, ?_, ?_, ?_, ?_, ?_, ?_⟩
  · rw [tK_at hab]; simp only [show ¬ ((0 : Nat) = 0 ∧ (0 : Nat) = 4) by omega, show ¬ ((0 : Nat) = 1 ∧ 0 = b) by omega, show ¬ ((0 : Nat) = 1 ∧ 0 = a) by omega, show ¬ ((0 : Nat) = 4 + a ∧ 0 = tA T W d) by omega, show ¬ ((0 : Nat) = 4 + b ∧ 0 = tA T W d) by omega, if_false]; exact hW.1
  · rw [tK_at hab]; simp only [show ¬ ((0 : Nat) = 0 ∧ (1 : Nat) = 4) by omega, show ¬ ((0 : Nat) = 1 ∧ 1 = b) by omega, show ¬ ((0 : Nat) = 1 ∧ 1 = a) by omega, show ¬ ((0 : Nat) = 4 + a ∧ 1 = tA T W d) by omega, show ¬ ((0 : Nat) = 4 + b ∧ 1 = tA T W d) by omega, if_false]; exact hW.2.1
  · rw [tK_at hab]; simp only [show ¬ ((0 : Nat) = 0 ∧ (2 : Nat) = 4) by omega, show ¬ ((0 : Nat) = 1 ∧ 2 = b) by omega, show ¬ ((0 : Nat) = 1 ∧ 2 = a) by omega, show ¬ ((0 : Nat) = 4 + a ∧ 2 = tA T W d) by omega, show ¬ ((0 : Nat) = 4 + b ∧ 2 = tA T W d) by omega, if_false]; exact hW.2.2.1
  · rw [tK_at hab]; simp only [show ¬ ((0 : Nat) = 0 ∧ (3 : Nat) = 4) by omega, show ¬ ((0 : Nat) = 1 ∧ 3 = b) by omega, show ¬ ((0 : Nat) = 1 ∧ 3 = a) by omega, show ¬ ((0 : Nat) = 4 + a ∧ 3 = tA T W d) by omega, show ¬ ((0 : Nat) = 4 + b ∧ 3 = tA T W d) by omega, if_false]; exact hW.2.2.2.1
  · rw [tK_at hab, if_pos ⟨rfl, rfl⟩]; exact bor_lt (n := 10) hW.2.2.2.2.1 (by omega)
  · intro p
    rw [tK_at hab]
    have h1 := wb_1 hW a
    have h2 := wb_1 hW b
    have h3 := wb_1 hW p
    repeat' split
    all_goals omega
  · intro p
    rw [tK_at hab]
    have h3 := wb_2 hW p
    repeat' split
    all_goals omega
  · intro p q
    rw [tK_at hab]
    have h1 := nA_le (a := W 2 a) (b := W 2 b) (wb_th hW a (tA T W d)) (wb_th hW b (tA T W d))
    have h2 := nB_le (a := W 2 a) (b := W 2 b) (wb_th hW a (tA T W d)) (wb_th hW b (tA T W d))
    have h3 := wb_th hW p q
    repeat' split
    all_goals omega
  · rw [show tK T W d a b 0 4 = W 0 4 ||| 2 ^ d from nup_eq]; exact bor_lt hW.2.2.2.2.2.2.2.2 hd
theorem x_doWork {T W : zN2} {k : Nat} {μ : zMem} (hk : 12 < k) (hT : TB T) (hW : WB T W) (hX : XT T μ) (hS : XS T W k μ) {d a b : Nat} (hd : d < T 2 2) (ha : a < W 0 3) (hb : b < W 0 3) (hab : a ≠ b) (hla : T 9 d ≤ W 1 a) (hlb : T 9 d ≤ W 1 b) :
    ∃ μ', f5_doWork k (zi d) (zi a) (zi b) μ = some (0, zi (zd (tK T W d a b (4 + a) (tA T W d)) (tK T W d a b (4 + b) (tA T W d))), μ') ∧ XS T (tK T W d a b) k μ' ∧ zfr (fun q => q = k ∨ q = k + 1 ∨ q = k + 2) μ μ' ∧ μ' k 9 = μ k 9 := by
  have hD := hT.2.2.1
  have hP := hW.2.2.2.1
  have hA := tA_lt hT hW hd
  have hA4 := hT.1
  have h9 := tb_9 hT d
  have hla' := wb_1 hW a
  have hlb' := wb_1 hW b
  have hta := wb_th hW a (tA T W d)
  have htb := wb_th hW b (tA T W d)
  have hea := wb_2 hW a
  have heb := wb_2 hW b
  have qa : tK T W d a b (4 + a) (tA T W d) = nA (W (4 + a) (tA T W d)) (W (4 + b) (tA T W d)) (W 2 a) (W 2 b) := by
    rw [tK_at hab, if_neg (by omega), if_neg (by omega), if_neg (by omega), if_pos ⟨rfl, rfl⟩]
  have qb : tK T W d a b (4 + b) (tA T W d) = nB (W (4 + a) (tA T W d)) (W (4 + b) (tA T W d)) (W 2 a) (W 2 b) := by
    rw [tK_at hab, if_neg (by omega), if_neg (by omega), if_neg (by omega), if_neg (by omega), if_pos ⟨rfl, rfl⟩]
  have nab := nA_le (a := W 2 a) (b := W 2 b) hta htb
  have nbb := nB_le (a := W 2 a) (b := W 2 b) hta htb
  have fin : ∀ μ1 : zMem, (∀ key j, μ1 key j = if key = k ∧ j = 5 then zi (W 0 4 ||| 2 ^ d) else if key = k + 2 ∧ j = b then zi (W 1 b - T 9 d) else if key = k + 2 ∧ j = a then zi (W 1 a - T 9 d) else if key = k + 1 ∧ j = a * 4 + tA T W d then zi (nA (W (4 + a) (tA T W d)) (W (4 + b) (tA T W d)) (W 2 a) (W 2 b)) else if key = k + 1 ∧ j = b * 4 + tA T W d then zi (nB (W (4 + a) (tA T W d)) (W (4 + b) (tA T W d)) (W 2 a) (W 2 b)) else μ key j) →
      ∃ μ', bnd0 (f5_apart k (zi a) (zi b) (zi (tA T W d)) μ1) (fun v m => some (0, v, m)) = some (0, zi (zd (tK T W d a b (4 + a) (tA T W d)) (tK T W d a b (4 + b) (tA T W d))), μ') ∧ XS T (tK T W d a b) k μ' ∧ zfr (fun q => q = k ∨ q = k + 1 ∨ q = k + 2) μ μ' ∧ μ' k 9 = μ k 9 := by
    intro μ1 hm
    have hs : XS T (tK T W d a b) k μ1 := by
      have e3 : tK T W d a b 0 3 = W 0 3 := tK_0 hab (by decide)
      refine ⟨⟨?_, ?_, ?_, ?_, ?_⟩, ?_⟩
      · rw [hm, tK_at hab, hS.1.1]; repeat' split
        all_goals first | rfl | (exfalso; omega)
      · rw [hm, tK_at hab, hS.1.2.1]; repeat' split
        all_goals first | rfl | (exfalso; omega)
      · rw [hm, tK_at hab, hS.1.2.2.1]; repeat' split
        all_goals first | rfl | (exfalso; omega)
      · rw [hm, e3, hS.1.2.2.2.1]; repeat' split
        all_goals first | rfl | (exfalso; omega)
      · rw [hm, tK_at hab]; simp only [and_self, if_true]
      · intro p hp
        rw [e3] at hp
        refine ⟨?_, ?_, ?_⟩
        · rw [hm, tK_at hab, (hS.2 p hp).1]; repeat' split
          all_goals first | rfl | (exfalso; omega)
        · rw [hm, tK_at hab, (hS.2 p hp).2.1]; repeat' split
          all_goals first | rfl | (exfalso; omega)
        · intro q hq
          rw [hm, tK_at hab, (hS.2 p hp).2.2 q hq]; repeat' split
          all_goals first | rfl | (exfalso; omega)
    refine ⟨μ1, ?_, hs, ?_, ?_⟩
    · rw [x_apart hT (wb_work hT hW hd hab) hs (by rw [tK_0 hab (by decide)]; assumption) (by rw [tK_0 hab (by decide)]; assumption) hA]; rfl
    · intro key hkey
      funext j
      rw [hm]
      repeat' split
      all_goals first | rfl | (exfalso; omega)
    · rw [hm]
      repeat' split
      all_goals first | rfl | (exfalso; omega)
  unfold f5_doWork
  simp (disch := omega) only [x_questionOf hT hX hS hd, bnd0_ok, x_thought hT hW hS ha hA, x_thought hT hW hS hb hA, zlet_e, zi_lt, zlit]
  by_cases h : W (4 + a) (tA T W d) ≤ W (4 + b) (tA T W d)
  · rw [if_neg (by omega)]
    have na : nA (W (4 + a) (tA T W d)) (W (4 + b) (tA T W d)) (W 2 a) (W 2 b) = nLo (W (4 + a) (tA T W d)) (W (4 + b) (tA T W d)) (W 2 a) (W 2 b) := if_pos h
    have nb : nB (W (4 + a) (tA T W d)) (W (4 + b) (tA T W d)) (W 2 a) (W 2 b) = nHi (W (4 + a) (tA T W d)) (W (4 + b) (tA T W d)) (W 2 a) (W 2 b) := if_pos h
    simp (disch := omega) only [if_true, if_false, ite_true, ite_false, Bool.false_eq_true, Bool.true_eq_false, reduceIte, z10, z01, x_thought hT hW hS ha hA, x_thought hT hW hS hb hA, bnd0_ok, zin_i, zi_cl, zset_nk, zset_nj, zset_eq, (hS.2 a ha).1, (hS.2 b hb).1, (hS.2 a ha).2.1, (hS.2 b hb).2.1, x_lesser h htb hea heb, x_greater h htb hea heb, x_putThought hT hW ha hA, x_putThought hT hW hb hA, zlet_e, (hX.2.2.2.2 d hd).2.1, zi_sub, hS.1.2.2.2.2, zshl1, zi_or]
    refine fin _ ?_
    intro key j
    simp only [zset_at, na, nb]
    repeat' split
    all_goals first | rfl | (exfalso; omega)
  · rw [if_pos (by omega)]
    have h' : W (4 + b) (tA T W d) ≤ W (4 + a) (tA T W d) := by omega
    have na : nA (W (4 + a) (tA T W d)) (W (4 + b) (tA T W d)) (W 2 a) (W 2 b) = nHi (W (4 + b) (tA T W d)) (W (4 + a) (tA T W d)) (W 2 b) (W 2 a) := if_neg h
    have nb : nB (W (4 + a) (tA T W d)) (W (4 + b) (tA T W d)) (W 2 a) (W 2 b) = nLo (W (4 + b) (tA T W d)) (W (4 + a) (tA T W d)) (W 2 b) (W 2 a) := if_neg h
    simp (disch := omega) only [if_true, if_false, ite_true, ite_false, Bool.false_eq_true, Bool.true_eq_false, reduceIte, z10, z01, x_thought hT hW hS ha hA, x_thought hT hW hS hb hA, bnd0_ok, zin_i, zi_cl, zset_nk, zset_nj, zset_eq, (hS.2 a ha).1, (hS.2 b hb).1, (hS.2 a ha).2.1, (hS.2 b hb).2.1, x_lesser h' hta heb hea, x_greater h' hta heb hea, x_putThought hT hW ha hA, x_putThought hT hW hb hA, zlet_e, (hX.2.2.2.2 d hd).2.1, zi_sub, hS.1.2.2.2.2, zshl1, zi_or]
    refine fin _ ?_
    intro key j
    simp only [zset_at, na, nb]
    repeat' split
    all_goals first | rfl | (exfalso; omega)
