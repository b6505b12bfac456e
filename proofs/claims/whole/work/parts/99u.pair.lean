/-! THE PURE SIDE, 60: who opens a DOOR, in the class -/
/-- the DOORS of s from d on, k of them looked at, can be opened by PERSONS of g -/
def sO (T W : zN2) (s : Nat) : Nat → Nat → Nat → Prop
  | 0, _, _ => True
  | k + 1, d, g => if s.testBit d = true then ∃ a b, fit T W d g a b ∧ sO T W s k (d + 1) (wo2 g a b) else sO T W s k (d + 1) g
def fp (T W : zN2) (s k d g a b : Nat) : Prop := fit T W d g a b ∧ sO T W s k (d + 1) (wo2 g a b)
def isF (T W : zN2) (s k d g a b : Nat) : Prop := fp T W s k d g a b ∧ ∀ a' b', fp T W s k d g a' b' → 10 * a + b ≤ 10 * a' + b'
def sA (T W : zN2) (s : Nat) : Nat → Nat → Nat → (Nat → Nat) → Prop
  | 0, _, _, _ => True
  | k + 1, d, g, c => if s.testBit d = true then ∃ a b, c d = 10 * a + b ∧ isF T W s k d g a b ∧ sA T W s k (d + 1) (wo2 g a b) c else sA T W s k (d + 1) g c
theorem isF_eq {T W : zN2} {s k d g a b a' b' : Nat} (hW : WB T W) (h : isF T W s k d g a b) (h' : isF T W s k d g a' b') : a = a' ∧ b = b' := by
  have hP := hW.2.2.2.1
  have h1 := h.2 a' b' h'.1
  have h2 := h'.2 a b h.1
  have h3 := h.1.1.1.2.1
  have h4 := h'.1.1.1.2.1
  omega
theorem wo2_mask {g a b : Nat} (hab : a ≠ b) (ha : g.testBit a = true) (hb : g.testBit b = true) : g ^^^ (g &&& (2 ^ a ||| 2 ^ b)) = wo2 g a b := by
  apply Nat.eq_of_testBit_eq
  intro i
  rw [Bool.eq_iff_iff, wo2_bit hab ha hb, Nat.testBit_xor, Nat.testBit_and]
  by_cases c : (2 ^ a ||| 2 ^ b).testBit i = true
  · rw [c, Bool.and_true, Bool.xor_self]
    have := two_bit.1 c
    exact ⟨fun h => absurd h (by decide), fun h => this.elim (fun e => absurd e h.2.1) (fun e => absurd e h.2.2)⟩
  · have c' : ¬ (i = a ∨ i = b) := fun e => c (two_bit.2 e)
    rw [(Bool.not_eq_true _).mp c, Bool.and_false, Bool.xor_false]
    exact ⟨fun h => ⟨h, fun e => c' (Or.inl e), fun e => c' (Or.inr e)⟩, fun h => h.1⟩
/-- what a seating leaves -/
def sM (s D d : Nat) (c : Nat → Nat) (μ μ' : zMem) : Prop := (∀ e, d ≤ e → e < D → s.testBit e = true → μ' 53 e = zi (c e)) ∧ (∀ e, (e < d ∨ s.testBit e = false) → μ' 53 e = μ 53 e) ∧ zfr (fun k => k = 53) μ μ'
/-- what a call of seat answers -/
def sQ (T W : zN2) (s k d g : Nat) (μ : zMem) (r : zRes) : Prop := (¬ sO T W s k d g ∧ r = some (0, zi 0, μ)) ∨ (sO T W s k d g ∧ ∃ μ' c, r = some (0, zi 1, μ') ∧ sA T W s k d g c ∧ sM s (T 2 2) d c μ μ')
theorem asP_i : ∀ c : Fin 90, qO c.val = true → 0 < tb2 c.val ∧ 0 < tb2 c.val &&& (tb2 c.val - 1) ∧ 10 * lowb (tb2 c.val) + lowb (tb2 c.val &&& (tb2 c.val - 1)) = c.val := by decide +kernel
theorem x_asPair {c : Nat} {μ : zMem} (h1 : c / 10 < c % 10) (h2 : c % 10 < 9) : f2_asPair (zi (tb2 c)) μ = some (0, zi c, μ) := by
  obtain ⟨k1, k2, k3⟩ := asP_i ⟨c, by omega⟩ (decide_eq_true ⟨h1, h2⟩)
  dsimp only at k1 k2 k3
  have ht := tb2_lt h1 h2
  have ha : tb2 c &&& (tb2 c - 1) ≤ tb2 c := Nat.and_le_left
  unfold f2_asPair
  rw [show zi (tb2 c) - (1 : Int32) = zi (tb2 c - 1) from zi_sub (b := 1) (by omega), zi_and, zlet_e, x_ntz k1 (by omega), bnd0_ok, x_ntz k2 (by omega), bnd0_ok, show (10 : Int32) = zi 10 from rfl, zi_mul, zi_add, k3]
theorem x_seat34 {T W : zN2} {s k d g : Nat} {μ : zMem} (hT : TB T) (hW : WB T W) (hV : xV T W (T 2 2) μ) (hs : s < 1024) (hd : d < T 2 2) (hg : g < 2 ^ W 0 3)
    (F : Int32 → Int32 → Int32 → zMem → zRes) (hF : ∀ g', g' < 2 ^ W 0 3 → sQ T W s k (d + 1) g' μ (F (zi s) (zi g') (zi (d + 1)) μ)) (K : zMem → zRes) (K' : Int32 → zMem → zRes) :
    ((¬ ∃ a b, fp T W s k d g a b) ∧ f2_seat_L34 F (zi s) (zi g) (zi d) K K' zF (zi 0) μ = K μ) ∨ ∃ a b μ' c, isF T W s k d g a b ∧ f2_seat_L34 F (zi s) (zi g) (zi d) K K' zF (zi 0) μ = K' (zi (tb2 (10 * a + b))) μ' ∧ sA T W s k (d + 1) (wo2 g a b) c ∧ sM s (T 2 2) (d + 1) c μ μ' := by
  have hP := hW.2.2.2.1
  have hD := hT.2.2.1
  have hG : 2 ^ W 0 3 ≤ 512 := pw9 hP
  have h36 := pO_36 hW (d := d)
  have hw := hV.2.1 d hd
  have zd1 : zi d + (1 : Int32) = zi (d + 1) := zi_add d 1
  have h := zloopQ (L := fun n i (_ : Unit) => f2_seat_L34 F (zi s) (zi g) (zi d) K K' n (zi i) μ) (N := cn (pO T W d) 90)
    (fun r => ((¬ ∃ a b, fp T W s k d g a b) ∧ r = K μ) ∨ ∃ a b μ' c, isF T W s k d g a b ∧ r = K' (zi (tb2 (10 * a + b))) μ' ∧ sA T W s k (d + 1) (wo2 g a b) c ∧ sM s (T 2 2) (d + 1) c μ μ')
    (fun i _ => ∀ c, pO T W d c = true → cn (pO T W d) c < i → ¬ fp T W s k d g (c / 10) (c % 10))
    (fun n _ hs' => by
      refine Or.inl ⟨fun q => ?_, ?_⟩
      · obtain ⟨a, b, q1⟩ := q
        have hp := pO_of hW q1.1.1
        have hb10 : b < 10 := by have := q1.1.1.2.1; omega
        have := hs' (10 * a + b) hp (cn_lt hp (pO_bd hW hp).2.2.2)
        rw [show (10 * a + b) / 10 = a by omega, show (10 * a + b) % 10 = b by omega] at this
        exact this q1
      · show f2_seat_L34 F (zi s) (zi g) (zi d) K K' (n + 1) (zi (cn (pO T W d) 90)) μ = _
        rw [f2_seat_L34, zin_i (by omega) (by omega), zi_cl (by omega), hw.1, if_pos (Int32.le_refl _)])
    (fun n i _ hi hs' => by
      obtain ⟨c, c1, c2, c3⟩ := cn_ex 90 hi
      have hb := pO_bd hW c2
      have hO := pO_tO c2
      have hab : c / 10 ≠ c % 10 := by omega
      have ht := tb2_lt hb.1 hb.2.2.1
      have h50 : μ 50 (d * 36 + i) = zi (tb2 c) := by rw [← c3]; exact hw.2 c c2
      have z1 : zi i + (1 : Int32) = zi (i + 1) := zi_add i 1
      have ei : zi d * (36 : Int32) + zi i = zi (d * 36 + i) := by rw [show (36 : Int32) = zi 36 from rfl, zi_mul, zi_add]
      have hle : ¬ zi (cn (pO T W d) 90) ≤ zi i := by rw [zi_le (by omega) (by omega)]; omega
      have hgt : g &&& tb2 c ≤ g := Nat.and_le_left
      have hnext : ¬ fp T W s k d g (c / 10) (c % 10) → ∀ c', pO T W d c' = true → cn (pO T W d) c' < i + 1 → ¬ fp T W s k d g (c' / 10) (c' % 10) := fun hn c' q0 q1 => by
        by_cases e : cn (pO T W d) c' = i
        · have := cn_inj q0 c2 (e.trans c3.symm)
          rw [this]; exact hn
        · exact hs' c' q0 (by omega)
      by_cases hf : g &&& tb2 c = tb2 c
      · have hf2 := and_two.1 hf
        have hfit : fit T W d g (c / 10) (c % 10) := ⟨hO, hf2.1, hf2.2⟩
        have hlt := wo2_lt hab hf2.1 hf2.2
        have ew : zi g ^^^ zi (tb2 c) = zi (wo2 g (c / 10) (c % 10)) := by rw [zi_xor]; exact congrArg zi (xor_two hab)
        have hq : f2_seat_L34 F (zi s) (zi g) (zi d) K K' (n + 1) (zi i) μ = bnd0 (F (zi s) (zi (wo2 g (c / 10) (c % 10))) (zi (d + 1)) μ) (fun (v14 : Int32) (μ15 : zMem) => if v14 = 0 then f2_seat_L34 F (zi s) (zi g) (zi d) K K' n (zi (i + 1)) μ15 else K' (zi (tb2 c)) μ15) := by
          rw [f2_seat_L34, zin_i (by omega) (by omega), zi_cl (n := d) (by omega), hw.1, if_neg hle, ei, zin_i (by omega) (by omega), zi_cl (by omega), h50, zlet_e, zlet_e, if_pos (show zi g &&& zi (tb2 c) = zi (tb2 c) from by rw [zi_and, hf]), ew, zd1, z1]
        rcases hF (wo2 g (c / 10) (c % 10)) (by omega) with ⟨d1, d2⟩ | ⟨d1, μ', cc, d2, d3, d4⟩
        · right
          refine ⟨(), ?_, hnext (fun q => d1 q.2)⟩
          refine hq.trans ?_
          rw [d2, bnd0_ok, if_pos (show zi 0 = (0 : Int32) from rfl)]
        · left
          refine Or.inr ⟨c / 10, c % 10, μ', cc, ⟨⟨hfit, d1⟩, fun a' b' hf' => ?_⟩, ?_, d3, d4⟩
          · have hp := pO_of hW hf'.1.1
            have hb10 : b' < 10 := by have := hf'.1.1.2.1; omega
            apply Classical.byContradiction
            intro hlt'
            have k1 := cn_lt (n := c) hp (by omega)
            have k2 := hs' (10 * a' + b') hp (by omega)
            rw [show (10 * a' + b') / 10 = a' by omega, show (10 * a' + b') % 10 = b' by omega] at k2
            exact k2 hf'
          · refine hq.trans ?_
            rw [d2, bnd0_ok, if_neg (show ¬ zi 1 = (0 : Int32) from by decide), show 10 * (c / 10) + c % 10 = c by omega]
      · right
        refine ⟨(), ?_, hnext (fun q => hf (and_two.2 ⟨q.1.2.1, q.1.2.2⟩))⟩
        show f2_seat_L34 F (zi s) (zi g) (zi d) K K' (n + 1) (zi i) μ = f2_seat_L34 F (zi s) (zi g) (zi d) K K' n (zi (i + 1)) μ
        rw [f2_seat_L34, zin_i (by omega) (by omega), zi_cl (n := d) (by omega), hw.1, if_neg hle, ei, zin_i (by omega) (by omega), zi_cl (by omega), h50, zlet_e, zlet_e, if_neg (show ¬ zi g &&& zi (tb2 c) = zi (tb2 c) from by rw [zi_and, zi_eq (by omega) (by omega)]; exact hf), z1])
    (cn (pO T W d) 90) 0 () zF (by omega) (by unfold zF; omega) (fun c _ q => absurd q (Nat.not_lt_zero _))
  exact h
theorem x_seat {T W : zN2} {s : Nat} (hT : TB T) (hW : WB T W) (hs : s < 1024) : ∀ (k n d g : Nat) (μ : zMem), d + k = T 2 2 → k < n → g < 2 ^ W 0 3 → XT T μ → xV T W (T 2 2) μ → sQ T W s k d g μ (f2_seat n (zi s) (zi g) (zi d) μ)
  | 0, n, d, g, μ, h1, h2, h3, hX, hV => by
    have hD := hT.2.2.1
    obtain ⟨n, rfl⟩ : ∃ j, n = j + 1 := ⟨n - 1, by omega⟩
    refine Or.inr ⟨trivial, μ, fun _ => 0, ?_, trivial, fun e q1 q2 => absurd q2 (by omega), fun _ _ => rfl, fun _ _ => rfl⟩
    rw [f2_seat, f2_seatB, hX.1.2.2.1, if_neg (show ¬ zi d < zi (T 2 2) from by rw [zi_lt (by omega) (by omega)]; omega)]; rfl
  | k + 1, n, d, g, μ, h1, h2, h3, hX, hV => by
    have hD := hT.2.2.1
    obtain ⟨n, rfl⟩ : ∃ j, n = j + 1 := ⟨n - 1, by omega⟩
    have z1 : zi d + (1 : Int32) = zi (d + 1) := zi_add d 1
    have hb : (zshr (zi s) (zi d) &&& (1 : Int32) = 0) = (s.testBit d = false) := zbit0 (by omega) (by omega)
    rw [f2_seat, f2_seatB, hX.1.2.2.1, if_pos (show zi d < zi (T 2 2) from by rw [zi_lt (by omega) (by omega)]; omega), z1]
    by_cases c : s.testBit d = true
    · rw [if_neg (by rw [hb, c]; decide)]
      have eO : sO T W s (k + 1) d g ↔ ∃ a b, fp T W s k d g a b := by
        show (if s.testBit d = true then _ else _) ↔ _
        rw [if_pos c]; exact Iff.rfl
      rcases x_seat34 hT hW hV hs (show d < T 2 2 by omega) h3 (f2_seat n) (fun g' hg' => x_seat hT hW hs k n (d + 1) g' μ (by omega) (by omega) hg' hX hV) (fun (μ18 : zMem) => some (0, (0 : Int32), μ18)) (fun (x5_19 : Int32) (μ20 : zMem) => bnd0 (f2_asPair x5_19 μ20) (fun (v21 : Int32) (μ22 : zMem) => zin (zi d) 10 (zlet (zset μ22 53 (zi d).toNatClampNeg v21) (fun (μ24 : zMem) => some (0, (1 : Int32), μ24))))) with ⟨c1, c2⟩ | ⟨a, b, μ', cc, c1, c2, c3, c4⟩
      · exact Or.inl ⟨fun q => c1 (eO.1 q), c2⟩
      · refine Or.inr ⟨eO.2 ⟨a, b, c1.1⟩, zset μ' 53 d (zi (10 * a + b)), fun e => if e = d then 10 * a + b else cc e, c2.trans ?_, ?_, fun e q1 q2 q3 => ?_, fun e q => ?_, c4.2.2.set rfl⟩
        · have k1 := c1.1.1.1.1
          have k2 := c1.1.1.1.2.1
          have hP := hW.2.2.2.1
          show bnd0 (f2_asPair (zi (tb2 (10 * a + b))) μ') _ = _
          rw [x_asPair (by omega) (by omega), bnd0_ok, zin_i (by omega) (by omega), zlet_e, zi_cl (n := d) (by omega)]; rfl
        · show (if s.testBit d = true then _ else _)
          rw [if_pos c]
          refine ⟨a, b, if_pos rfl, c1, ?_⟩
          have key : ∀ k d' g, d < d' → sA T W s k d' g cc → sA T W s k d' g (fun e => if e = d then 10 * a + b else cc e) := by
            intro k
            induction k with
            | zero => intro _ _ _ _; trivial
            | succ k ih =>
              intro d' g hd' hh
              show (if s.testBit d' = true then _ else _)
              have hh' : (if s.testBit d' = true then ∃ a b, cc d' = 10 * a + b ∧ isF T W s k d' g a b ∧ sA T W s k (d' + 1) (wo2 g a b) cc else sA T W s k (d' + 1) g cc) := hh
              by_cases c' : s.testBit d' = true
              · rw [if_pos c'] at hh' ⊢
                obtain ⟨a1, b1, k1, k2, k3⟩ := hh'
                exact ⟨a1, b1, by dsimp only; rw [if_neg (by omega)]; exact k1, k2, ih (d' + 1) _ (by omega) k3⟩
              · rw [if_neg c'] at hh' ⊢
                exact ih (d' + 1) _ (by omega) hh'
          exact key k (d + 1) _ (by omega) c3
        · by_cases ee : e = d
          · subst ee
            dsimp only
            rw [zset_eq, if_pos rfl]
          · dsimp only
            rw [zset_nj ee, if_neg ee]; exact c4.1 e (by omega) q2 q3
        · have ee : e ≠ d := fun ee => by
            rcases q with q | q
            · omega
            · rw [ee, c] at q; exact absurd q (by decide)
          rw [zset_nj ee]; exact c4.2.1 e (q.elim (fun q => Or.inl (by omega)) Or.inr)
    · rw [if_pos (by rw [hb]; exact (Bool.not_eq_true _).mp c)]
      have eO : sO T W s (k + 1) d g ↔ sO T W s k (d + 1) g := by
        show (if s.testBit d = true then _ else _) ↔ _
        rw [if_neg c]
      rcases x_seat hT hW hs k n (d + 1) g μ (by omega) (by omega) h3 hX hV with ⟨c1, c2⟩ | ⟨c1, μ', cc, c2, c3, c4⟩
      · refine Or.inl ⟨fun q => c1 (eO.1 q), ?_⟩
        rw [c2, bnd0_ok, zbl_0]
      · refine Or.inr ⟨eO.2 c1, μ', cc, ?_, ?_, fun e q1 q2 q3 => ?_, fun e q => ?_, c4.2.2⟩
        · rw [c2, bnd0_ok, zbl_1]
        · show (if s.testBit d = true then _ else _)
          rw [if_neg c]; exact c3
        · have : e ≠ d := fun ee => c (ee ▸ q3)
          exact c4.1 e (by omega) q2 q3
        · refine c4.2.1 e ?_
          by_cases ee : e = d
          · rw [ee]; exact Or.inr ((Bool.not_eq_true _).mp c)
          · exact q.elim (fun q => Or.inl (by omega)) Or.inr
/-- what can be had can be seated -/
theorem hA_sO {T W : zN2} {s D : Nat} (g : Nat) : ∀ d s1 g1, d ≤ D → hA T W d s1 g1 → (∀ i, i < d → s1.testBit i = s.testBit i) → sub2 g1 g → sO T W s (D - d) d (g ^^^ (g &&& g1)) → sO T W s D 0 g
  | 0, s1, g1, _, h, _, _, hO => by
    rw [h.2, Nat.and_zero, Nat.xor_zero] at hO
    exact hO
  | d + 1, s1, g1, hd, h, hb, hs, hO => by
    have bitx : ∀ g1 i, (g ^^^ (g &&& g1)).testBit i = true ↔ g.testBit i = true ∧ g1.testBit i = false := fun g1 i => by
      rw [Nat.testBit_xor, Nat.testBit_and]
      cases g.testBit i <;> cases g1.testBit i <;> decide
    rcases h with h | ⟨p, s0, g0, ⟨a, b, q1, q2⟩, h2, h3, h4, h5, h6⟩
    · have hs1 := (hA_lt h).1
      have nb : ¬ s.testBit d = true := by
        rw [← hb d (by omega), Nat.testBit_lt_two_pow hs1]; decide
      refine hA_sO g d s1 g1 (by omega) h (fun i hi => hb i (by omega)) hs ?_
      rw [show D - d = (D - (d + 1)) + 1 by omega]
      show (if s.testBit d = true then _ else _)
      rw [if_neg nb]; exact hO
    · have yb : s.testBit d = true := by
        rw [← hb d (by omega), h5, Nat.testBit_or, Nat.testBit_two_pow_self, Bool.or_true]
      have hab : a ≠ b := by have := q1.1; omega
      have sg0 : sub2 g0 g := fun i hi => hs i (by rw [h6, Nat.testBit_or, hi, Bool.true_or])
      have na : g.testBit a = true ∧ g0.testBit a = false := by
        refine ⟨hs a (by rw [h6, Nat.testBit_or, q2, two_bit.2 (Or.inl rfl), Bool.or_true]), ?_⟩
        cases e : g0.testBit a
        · rfl
        · exact (dis_iff.1 h4 a e (by rw [q2]; exact two_bit.2 (Or.inl rfl))).elim
      have nb : g.testBit b = true ∧ g0.testBit b = false := by
        refine ⟨hs b (by rw [h6, Nat.testBit_or, q2, two_bit.2 (Or.inr rfl), Bool.or_true]), ?_⟩
        cases e : g0.testBit b
        · rfl
        · exact (dis_iff.1 h4 b e (by rw [q2]; exact two_bit.2 (Or.inr rfl))).elim
      refine hA_sO g d s0 g0 (by omega) h3 (fun i hi => ?_) sg0 ?_
      · rw [← hb i (by omega), h5, Nat.testBit_or, Nat.testBit_two_pow, decide_eq_false (by omega), Bool.or_false]
      · rw [show D - d = (D - (d + 1)) + 1 by omega]
        show (if s.testBit d = true then _ else _)
        rw [if_pos yb]
        have ba := (bitx g0 a).2 na
        have bb := (bitx g0 b).2 nb
        refine ⟨a, b, ⟨q1, ba, bb⟩, ?_⟩
        have e : wo2 (g ^^^ (g &&& g0)) a b = g ^^^ (g &&& g1) := by
          apply Nat.eq_of_testBit_eq
          intro i
          rw [Bool.eq_iff_iff, wo2_bit hab ba bb, bitx, bitx, h6, Nat.testBit_or, q2, Bool.or_eq_false_iff]
          constructor
          · rintro ⟨⟨k1, k2⟩, k3, k4⟩
            refine ⟨k1, k2, ?_⟩
            cases e : (2 ^ a ||| 2 ^ b).testBit i
            · rfl
            · exact ((two_bit.1 e).elim k3 k4).elim
          · rintro ⟨k1, k2, k3⟩
            refine ⟨⟨k1, k2⟩, fun e => ?_, fun e => ?_⟩
            · rw [two_bit.2 (Or.inl e)] at k3; exact absurd k3 (by decide)
            · rw [two_bit.2 (Or.inr e)] at k3; exact absurd k3 (by decide)
        rw [e]; exact hO
theorem td_sO {T W : zN2} (hT : TB T) : sO T W (tdS T W) (T 2 2) 0 (2 ^ W 0 3 - 1) := by
  obtain ⟨⟨g, h⟩, -⟩ := td_best (W := W) hT
  refine hA_sO (2 ^ W 0 3 - 1) (T 2 2) (tdS T W) g (Nat.le_refl _) h (fun _ _ => rfl) (all_sub (hA_lt h).2) ?_
  rw [Nat.sub_self]; trivial
