/-! THE PURE SIDE, 60: who opens a DOOR, in the class -/
/-- the DOORS of s from d on, k of them looked at, can be opened by PERSONS of g -/
def sO (T W : zN2) (s : Nat) : Nat → Nat → Nat → Prop
  | 0, _, _ => True
  | k + 1, d, g => if s.testBit d = true then ∃ a b, fit T W d g a b ∧ sO T W s k (d + 1) (wo2 g a b) else sO T W s k (d + 1) g
def fp (T W : zN2) (s k d g a b : Nat) : Prop := fit T W d g a b ∧ sO T W s k (d + 1) (wo2 g a b)
def isF (T W : zN2) (s k d g a b : Nat) : Prop := fp T W s k d g a b ∧ ∀ a' b', fp T W s k d g a' b' → 10 * a + b ≤ 10 * a' + b'
def sA (T W : zN2) (s : Nat) : Nat → Nat → Nat → (Nat → Nat) → Prop
  | 0, _, _, _ => True
  | k + 1, d, g, c => if s.testBit d = true then ∃ a b, c d = 10 * a + b ∧ isF T W s k d g a b ∧ sA T W s k (d + 1) (wo2 g a b) c else sA T W s k (d + 1) g c
theorem isF_eq {T W : zN2} {s k d g a b a' b' : Nat} (hW : WB T W) (h : isF T W s k d g a b) (h' : isF T W s k d g a' b') : a = a' ∧ b = b' := by
  have hP := hW.2.2.2.1
  have h1 := h.2 a' b' h'.1
  have h2 := h'.2 a b h.1
  have h3 := h.1.1.1.2.1
  have h4 := h'.1.1.1.2.1
  omega
theorem wo2_mask {g a b : Nat} (hab : a ≠ b) (ha : g.testBit a = true) (hb : g.testBit b = true) : g ^^^ (g &&& (2 ^ a ||| 2 ^ b)) = wo2 g a b := by
  apply Nat.eq_of_testBit_eq
  intro i
  rw [Bool.eq_iff_iff, wo2_bit hab ha hb, Nat.testBit_xor, Nat.testBit_and]
  by_cases c : (2 ^ a ||| 2 ^ b).testBit i = true
  · rw [c, Bool.and_true, Bool.xor_self]
    have := two_bit.1 c
    exact ⟨fun h => absurd h (by decide), fun h => this.elim (fun e => absurd e h.2.1) (fun e => absurd e h.2.2)⟩
  · have c' : ¬ (i = a ∨ i = b) := fun e => c (two_bit.2 e)
    rw [(Bool.not_eq_true _).mp c, Bool.and_false, Bool.xor_false]
    exact ⟨fun h => ⟨h, fun e => c' (Or.inl e), fun e => c' (Or.inr e)⟩, fun h => h.1⟩
/-- what a seating leaves -/
def sM (s D d : Nat) (c : Nat → Nat) (μ μ' : zMem) : Prop := (∀ e, d ≤ e → e < D → s.testBit e = true → μ' 52 e = zi (c e)) ∧ (∀ e, (e < d ∨ s.testBit e = false) → μ' 52 e = μ 52 e) ∧ zfr (fun k => k = 52) μ μ'
/-- what a call of seat answers -/
def sQ (T W : zN2) (s k d g : Nat) (μ : zMem) (r : zRes) : Prop := (¬ sO T W s k d g ∧ r = some (0, zi 0, μ)) ∨ (sO T W s k d g ∧ ∃ μ' c, r = some (0, zi 1, μ') ∧ sA T W s k d g c ∧ sM s (T 2 2) d c μ μ')
theorem x_seat78 {T W : zN2} {s k d g a : Nat} {μ : zMem} (hW : WB T W) (hV : xV T W (T 2 2) μ) (hs : s < 1024) (hd : d < 1000) (ha : a < W 0 3) (hg : g < 2 ^ W 0 3) (hga : g.testBit a = true)
    (F : Int32 → Int32 → Int32 → zMem → zRes) (hF : ∀ g', g' < 2 ^ W 0 3 → sQ T W s k (d + 1) g' μ (F (zi s) (zi g') (zi (d + 1)) μ)) (K : zMem → zRes) (K' : Int32 → zMem → zRes) :
    ((¬ ∃ b, fp T W s k d g a b) ∧ f2_seat_L78 F (zi s) (zi g) (zi d) (zi a) (zi (bset (fO T W d a) (W 0 3) &&& g)) K K' zF (zi (a + 1)) μ = K μ) ∨ ∃ b μ' c, fp T W s k d g a b ∧ (∀ b', fp T W s k d g a b' → b ≤ b') ∧ f2_seat_L78 F (zi s) (zi g) (zi d) (zi a) (zi (bset (fO T W d a) (W 0 3) &&& g)) K K' zF (zi (a + 1)) μ = K' (zi b) μ' ∧ sA T W s k (d + 1) (wo2 g a b) c ∧ sM s (T 2 2) (d + 1) c μ μ' := by
  have hP := hW.2.2.2.1
  have hG : 2 ^ W 0 3 ≤ 512 := pw9 hP
  have hbs := bset_lt (fO T W d a) (W 0 3)
  have hand : bset (fO T W d a) (W 0 3) &&& g < 2 ^ W 0 3 := Nat.lt_of_le_of_lt Nat.and_le_left hbs
  have hbit : ∀ b, b < W 0 3 → ((bset (fO T W d a) (W 0 3) &&& g).testBit b = true ↔ fit T W d g a b) := fun b hb => by
    rw [Nat.testBit_and, bset_bit, decide_eq_true hb, Bool.true_and, Bool.and_eq_true, fO_iff]
    exact ⟨fun q => ⟨q.1, hga, q.2⟩, fun q => ⟨q.1, q.2.2⟩⟩
  have h0 : bset (fO T W d a) (W 0 3) &&& g = 0 → ∀ b, ¬ fit T W d g a b := fun q b hf => by
    have := (hbit b hf.1.2.1).2 hf
    rw [q, Nat.zero_testBit] at this
    exact absurd this (by decide)
  have zd1 : zi d + (1 : Int32) = zi (d + 1) := zi_add d 1
  have h := zloopQ (L := fun n i (_ : Unit) => f2_seat_L78 F (zi s) (zi g) (zi d) (zi a) (zi (bset (fO T W d a) (W 0 3) &&& g)) K K' n (zi i) μ) (N := W 0 3)
    (fun r => ((¬ ∃ b, fp T W s k d g a b) ∧ r = K μ) ∨ ∃ b μ' c, fp T W s k d g a b ∧ (∀ b', fp T W s k d g a b' → b ≤ b') ∧ r = K' (zi b) μ' ∧ sA T W s k (d + 1) (wo2 g a b) c ∧ sM s (T 2 2) (d + 1) c μ μ')
    (fun i _ => ∀ b, b < i → ¬ fp T W s k d g a b)
    (fun n _ hs' => by
      refine Or.inl ⟨fun q => ?_, ?_⟩
      · obtain ⟨b, q1⟩ := q
        exact hs' b q1.1.1.2.1 q1
      · show f2_seat_L78 F (zi s) (zi g) (zi d) (zi a) _ K K' (n + 1) (zi (W 0 3)) μ = _
        rw [f2_seat_L78, hV.1, if_pos (Int32.le_refl _)]
        split <;> rfl)
    (fun n i _ hi hs' => by
      have z1 : zi i + (1 : Int32) = zi (i + 1) := zi_add i 1
      have hle : ¬ zi (W 0 3) ≤ zi i := by rw [zi_le (by omega) (by omega)]; omega
      by_cases e0 : bset (fO T W d a) (W 0 3) &&& g = 0
      · left
        refine Or.inl ⟨fun q => ?_, ?_⟩
        · obtain ⟨b, q1⟩ := q
          exact h0 e0 b q1.1
        · show f2_seat_L78 F (zi s) (zi g) (zi d) (zi a) _ K K' (n + 1) (zi i) μ = _
          rw [f2_seat_L78, if_pos (show zi (bset (fO T W d a) (W 0 3) &&& g) = (0 : Int32) from by rw [e0]; rfl)]
      · have ne0 : ¬ zi (bset (fO T W d a) (W 0 3) &&& g) = (0 : Int32) := by rw [show (0 : Int32) = zi 0 from rfl, zi_eq (by omega) (by omega)]; exact e0
        have hb0 : (zshr (zi (bset (fO T W d a) (W 0 3) &&& g)) (zi i) &&& (1 : Int32) = 0) = ((bset (fO T W d a) (W 0 3) &&& g).testBit i = false) := zbit0 (by omega) (by omega)
        by_cases hb : (bset (fO T W d a) (W 0 3) &&& g).testBit i = true
        · have hf := (hbit i hi).1 hb
          have hab : a ≠ i := by have := hf.1.1; omega
          have hlt := wo2_lt hab hf.2.1 hf.2.2
          have ew : zi g &&& ((zshl (1 : Int32) (zi a) ||| zshl (1 : Int32) (zi i)) ^^^ (-1 : Int32)) = zi (wo2 g a i) := by
            rw [show zshl (1 : Int32) (zi a) = zi (2 ^ a) from zshl1 (by omega), show zshl (1 : Int32) (zi i) = zi (2 ^ i) from zshl1 (by omega), zi_or, zneg1, andn (by omega), wo2_mask hab hf.2.1 hf.2.2]
          have hq : ∀ A, f2_seat_L78 F (zi s) (zi g) (zi d) (zi a) (zi (bset (fO T W d a) (W 0 3) &&& g)) K K' (n + 1) (zi i) μ = A ↔ bnd0 (F (zi s) (zi (wo2 g a i)) (zi (d + 1)) μ) (fun (v20 : Int32) (μ21 : zMem) => if v20 = 0 then f2_seat_L78 F (zi s) (zi g) (zi d) (zi a) (zi (bset (fO T W d a) (W 0 3) &&& g)) K K' n (zi (i + 1)) μ21 else K' (zi i) μ21) = A := fun A => by
            rw [f2_seat_L78, if_neg ne0, hV.1, if_neg hle, zlet_e, zlet_e, if_neg (by rw [hb0, hb]; decide), ew, zd1, z1]
          rcases hF (wo2 g a i) (by omega) with ⟨c1, c2⟩ | ⟨c1, μ', c, c2, c3, c4⟩
          · right
            refine ⟨(), ?_, fun b hb' => ?_⟩
            · refine (hq _).2 ?_
              rw [c2, bnd0_ok, if_pos (show zi 0 = (0 : Int32) from rfl)]
            · by_cases eb : b = i
              · rw [eb]; exact fun q => c1 q.2
              · exact hs' b (by omega)
          · left
            refine Or.inr ⟨i, μ', c, ⟨hf, c1⟩, fun b' hb' => ?_, (hq _).2 ?_, c3, c4⟩
            · apply Classical.byContradiction
              intro hlt'
              exact hs' b' (by omega) hb'
            · rw [c2, bnd0_ok, if_neg (show ¬ zi 1 = (0 : Int32) from by decide)]
        · right
          refine ⟨(), ?_, fun b hb' => ?_⟩
          · show f2_seat_L78 F (zi s) (zi g) (zi d) (zi a) _ K K' (n + 1) (zi i) μ = _
            rw [f2_seat_L78, if_neg ne0, hV.1, if_neg hle, zlet_e, zlet_e, if_pos (by rw [hb0]; exact (Bool.not_eq_true _).mp hb), z1]
          · by_cases eb : b = i
            · rw [eb]; exact fun q => hb ((hbit i hi).2 q.1)
            · exact hs' b (by omega))
    (W 0 3 - (a + 1)) (a + 1) () zF (by omega) (by unfold zF; omega) (fun b hb q => by have := q.1.1.1; omega)
  exact h
theorem x_seat34 {T W : zN2} {s k d g : Nat} {μ : zMem} (hT : TB T) (hW : WB T W) (hV : xV T W (T 2 2) μ) (hs : s < 1024) (hd : d < T 2 2) (hg : g < 2 ^ W 0 3)
    (F : Int32 → Int32 → Int32 → zMem → zRes) (hF : ∀ g', g' < 2 ^ W 0 3 → sQ T W s k (d + 1) g' μ (F (zi s) (zi g') (zi (d + 1)) μ)) (K : zMem → zRes) (K' : Int32 → Int32 → zMem → zRes) :
    ((¬ ∃ a b, fp T W s k d g a b) ∧ f2_seat_L34 F (zi s) (zi g) (zi d) K K' zF (zi 0) μ = K μ) ∨ ∃ a b μ' c, isF T W s k d g a b ∧ f2_seat_L34 F (zi s) (zi g) (zi d) K K' zF (zi 0) μ = K' (zi a) (zi b) μ' ∧ sA T W s k (d + 1) (wo2 g a b) c ∧ sM s (T 2 2) (d + 1) c μ μ' := by
  have hP := hW.2.2.2.1
  have hD := hT.2.2.1
  have hG : 2 ^ W 0 3 ≤ 512 := pw9 hP
  have h := zloopQ (L := fun n i (_ : Unit) => f2_seat_L34 F (zi s) (zi g) (zi d) K K' n (zi i) μ) (N := W 0 3)
    (fun r => ((¬ ∃ a b, fp T W s k d g a b) ∧ r = K μ) ∨ ∃ a b μ' c, isF T W s k d g a b ∧ r = K' (zi a) (zi b) μ' ∧ sA T W s k (d + 1) (wo2 g a b) c ∧ sM s (T 2 2) (d + 1) c μ μ')
    (fun i _ => ∀ a b, a < i → ¬ fp T W s k d g a b)
    (fun n _ hs' => by
      refine Or.inl ⟨fun q => ?_, ?_⟩
      · obtain ⟨a, b, q1⟩ := q
        exact hs' a b (Nat.lt_trans q1.1.1.1 q1.1.1.2.1) q1
      · show f2_seat_L34 F (zi s) (zi g) (zi d) K K' (n + 1) (zi (W 0 3)) μ = _
        rw [f2_seat_L34, hV.1, if_pos (Int32.le_refl _)])
    (fun n i _ hi hs' => by
      have z1 : zi i + (1 : Int32) = zi (i + 1) := zi_add i 1
      have hle : ¬ zi (W 0 3) ≤ zi i := by rw [zi_le (by omega) (by omega)]; omega
      have hgb : (zshr (zi g) (zi i) &&& (1 : Int32) = 0) = (g.testBit i = false) := zbit0 (by omega) (by omega)
      have ei : zi d * (9 : Int32) + zi i = zi (d * 9 + i) := by rw [show (9 : Int32) = zi 9 from rfl, zi_mul, zi_add]
      by_cases hga : g.testBit i = true
      · have hq : f2_seat_L34 F (zi s) (zi g) (zi d) K K' (n + 1) (zi i) μ = f2_seat_L78 F (zi s) (zi g) (zi d) (zi i) (zi (bset (fO T W d i) (W 0 3) &&& g)) (fun (μ24 : zMem) => f2_seat_L34 F (zi s) (zi g) (zi d) K K' n (zi (i + 1)) μ24) (fun (x6_25 : Int32) (μ26 : zMem) => K' (zi i) x6_25 μ26) zF (zi (i + 1)) μ := by
          rw [f2_seat_L34, hV.1, if_neg hle, zlet_e, if_neg (by rw [hgb, hga]; decide), ei, zin_i (by omega) (by omega), zi_cl (by omega), hV.2.1 d i hd hi, zi_and]
          show zlet _ _ = _
          rw [zlet_e, zlet_e, z1]
        rcases x_seat78 hW hV hs (show d < 1000 by omega) hi hg hga F hF (fun (μ24 : zMem) => f2_seat_L34 F (zi s) (zi g) (zi d) K K' n (zi (i + 1)) μ24) (fun (x6_25 : Int32) (μ26 : zMem) => K' (zi i) x6_25 μ26) with ⟨c1, c2⟩ | ⟨b, μ', c, c1, c2, c3, c4, c5⟩
        · right
          refine ⟨(), hq.trans c2, fun a b ha => ?_⟩
          by_cases ea : a = i
          · rw [ea]; exact fun q => c1 ⟨b, q⟩
          · exact hs' a b (by omega)
        · left
          refine Or.inr ⟨i, b, μ', c, ⟨c1, fun a' b' hf => ?_⟩, hq.trans c3, c4, c5⟩
          have k1 := hf.1.1.2.1
          have k2 := c1.1.1.2.1
          by_cases ea : a' = i
          · rw [ea] at hf ⊢
            have := c2 b' hf
            omega
          · have : ¬ a' < i := fun q => hs' a' b' q hf
            omega
      · right
        refine ⟨(), ?_, fun a b ha => ?_⟩
        · show f2_seat_L34 F (zi s) (zi g) (zi d) K K' (n + 1) (zi i) μ = _
          rw [f2_seat_L34, hV.1, if_neg hle, zlet_e, if_pos (by rw [hgb]; exact (Bool.not_eq_true _).mp hga)]
          show zlet _ _ = _
          rw [zlet_e, zlet_e, show zF = 999999 + 1 from rfl, f2_seat_L78, if_pos (show (0 : Int32) = 0 from rfl), z1]
        · by_cases ea : a = i
          · rw [ea]; exact fun q => hga q.1.2.1
          · exact hs' a b (by omega))
    (W 0 3) 0 () zF (by omega) (by unfold zF; omega) (fun a b ha => absurd ha (by omega))
  exact h
theorem x_seat {T W : zN2} {s : Nat} (hT : TB T) (hW : WB T W) (hs : s < 1024) : ∀ (k n d g : Nat) (μ : zMem), d + k = T 2 2 → k < n → g < 2 ^ W 0 3 → XT T μ → xV T W (T 2 2) μ → sQ T W s k d g μ (f2_seat n (zi s) (zi g) (zi d) μ)
  | 0, n, d, g, μ, h1, h2, h3, hX, hV => by
    have hD := hT.2.2.1
    obtain ⟨n, rfl⟩ : ∃ j, n = j + 1 := ⟨n - 1, by omega⟩
    refine Or.inr ⟨trivial, μ, fun _ => 0, ?_, trivial, fun e q1 q2 => absurd q2 (by omega), fun _ _ => rfl, fun _ _ => rfl⟩
    rw [f2_seat, f2_seatB, hX.1.2.2.1, if_neg (show ¬ zi d < zi (T 2 2) from by rw [zi_lt (by omega) (by omega)]; omega)]; rfl
  | k + 1, n, d, g, μ, h1, h2, h3, hX, hV => by
    have hD := hT.2.2.1
    obtain ⟨n, rfl⟩ : ∃ j, n = j + 1 := ⟨n - 1, by omega⟩
    have z1 : zi d + (1 : Int32) = zi (d + 1) := zi_add d 1
    have hb : (zshr (zi s) (zi d) &&& (1 : Int32) = 0) = (s.testBit d = false) := zbit0 (by omega) (by omega)
    rw [f2_seat, f2_seatB, hX.1.2.2.1, if_pos (show zi d < zi (T 2 2) from by rw [zi_lt (by omega) (by omega)]; omega), z1]
    by_cases c : s.testBit d = true
    · rw [if_neg (by rw [hb, c]; decide)]
      have eO : sO T W s (k + 1) d g ↔ ∃ a b, fp T W s k d g a b := by
        show (if s.testBit d = true then _ else _) ↔ _
        rw [if_pos c]; exact Iff.rfl
      rcases x_seat34 hT hW hV hs (show d < T 2 2 by omega) h3 (f2_seat n) (fun g' hg' => x_seat hT hW hs k n (d + 1) g' μ (by omega) (by omega) hg' hX hV) (fun (μ31 : zMem) => some (0, (0 : Int32), μ31)) (fun (x4_32 : Int32) (x6_33 : Int32) (μ34 : zMem) => zin (zi d) 10 (zlet (zset μ34 52 (zi d).toNatClampNeg (((10 : Int32) * x4_32) + x6_33)) (fun (μ36 : zMem) => some (0, (1 : Int32), μ36)))) with ⟨c1, c2⟩ | ⟨a, b, μ', cc, c1, c2, c3, c4⟩
      · exact Or.inl ⟨fun q => c1 (eO.1 q), c2⟩
      · refine Or.inr ⟨eO.2 ⟨a, b, c1.1⟩, zset μ' 52 d (zi (10 * a + b)), fun e => if e = d then 10 * a + b else cc e, c2.trans ?_, ?_, fun e q1 q2 q3 => ?_, fun e q => ?_, c4.2.2.set rfl⟩
        · show zin (zi d) 10 _ = _
          rw [zin_i (by omega) (by omega), zlet_e, zi_cl (by omega), show (10 : Int32) = zi 10 from rfl, zi_mul, zi_add]; rfl
        · show (if s.testBit d = true then _ else _)
          rw [if_pos c]
          refine ⟨a, b, if_pos rfl, c1, ?_⟩
          have key : ∀ k d' g, d < d' → sA T W s k d' g cc → sA T W s k d' g (fun e => if e = d then 10 * a + b else cc e) := by
            intro k
            induction k with
            | zero => intro _ _ _ _; trivial
            | succ k ih =>
              intro d' g hd' hh
              show (if s.testBit d' = true then _ else _)
              have hh' : (if s.testBit d' = true then ∃ a b, cc d' = 10 * a + b ∧ isF T W s k d' g a b ∧ sA T W s k (d' + 1) (wo2 g a b) cc else sA T W s k (d' + 1) g cc) := hh
              by_cases c' : s.testBit d' = true
              · rw [if_pos c'] at hh' ⊢
                obtain ⟨a1, b1, k1, k2, k3⟩ := hh'
                exact ⟨a1, b1, by dsimp only; rw [if_neg (by omega)]; exact k1, k2, ih (d' + 1) _ (by omega) k3⟩
              · rw [if_neg c'] at hh' ⊢
                exact ih (d' + 1) _ (by omega) hh'
          exact key k (d + 1) _ (by omega) c3
        · by_cases ee : e = d
          · subst ee
            dsimp only
            rw [zset_eq, if_pos rfl]
          · dsimp only
            rw [zset_nj ee, if_neg ee]; exact c4.1 e (by omega) q2 q3
        · have ee : e ≠ d := fun ee => by
            rcases q with q | q
            · omega
            · rw [ee, c] at q; exact absurd q (by decide)
          rw [zset_nj ee]; exact c4.2.1 e (q.elim (fun q => Or.inl (by omega)) Or.inr)
    · rw [if_pos (by rw [hb]; exact (Bool.not_eq_true _).mp c)]
      have eO : sO T W s (k + 1) d g ↔ sO T W s k (d + 1) g := by
        show (if s.testBit d = true then _ else _) ↔ _
        rw [if_neg c]
      rcases x_seat hT hW hs k n (d + 1) g μ (by omega) (by omega) h3 hX hV with ⟨c1, c2⟩ | ⟨c1, μ', cc, c2, c3, c4⟩
      · refine Or.inl ⟨fun q => c1 (eO.1 q), ?_⟩
        rw [c2, bnd0_ok, zbl_0]
      · refine Or.inr ⟨eO.2 c1, μ', cc, ?_, ?_, fun e q1 q2 q3 => ?_, fun e q => ?_, c4.2.2⟩
        · rw [c2, bnd0_ok, zbl_1]
        · show (if s.testBit d = true then _ else _)
          rw [if_neg c]; exact c3
        · have : e ≠ d := fun ee => c (ee ▸ q3)
          exact c4.1 e (by omega) q2 q3
        · refine c4.2.1 e ?_
          by_cases ee : e = d
          · rw [ee]; exact Or.inr ((Bool.not_eq_true _).mp c)
          · exact q.elim (fun q => Or.inl (by omega)) Or.inr
/-- what can be had can be seated -/
theorem hA_sO {T W : zN2} {s D : Nat} (g : Nat) : ∀ d s1 g1, d ≤ D → hA T W d s1 g1 → (∀ i, i < d → s1.testBit i = s.testBit i) → sub2 g1 g → sO T W s (D - d) d (g ^^^ (g &&& g1)) → sO T W s D 0 g
  | 0, s1, g1, _, h, _, _, hO => by
    rw [h.2, Nat.and_zero, Nat.xor_zero] at hO
    exact hO
  | d + 1, s1, g1, hd, h, hb, hs, hO => by
    have bitx : ∀ g1 i, (g ^^^ (g &&& g1)).testBit i = true ↔ g.testBit i = true ∧ g1.testBit i = false := fun g1 i => by
      rw [Nat.testBit_xor, Nat.testBit_and]
      cases g.testBit i <;> cases g1.testBit i <;> decide
    rcases h with h | ⟨p, s0, g0, ⟨a, b, q1, q2⟩, h2, h3, h4, h5, h6⟩
    · have hs1 := (hA_lt h).1
      have nb : ¬ s.testBit d = true := by
        rw [← hb d (by omega), Nat.testBit_lt_two_pow hs1]; decide
      refine hA_sO g d s1 g1 (by omega) h (fun i hi => hb i (by omega)) hs ?_
      rw [show D - d = (D - (d + 1)) + 1 by omega]
      show (if s.testBit d = true then _ else _)
      rw [if_neg nb]; exact hO
    · have yb : s.testBit d = true := by
        rw [← hb d (by omega), h5, Nat.testBit_or, Nat.testBit_two_pow_self, Bool.or_true]
      have hab : a ≠ b := by have := q1.1; omega
      have sg0 : sub2 g0 g := fun i hi => hs i (by rw [h6, Nat.testBit_or, hi, Bool.true_or])
      have na : g.testBit a = true ∧ g0.testBit a = false := by
        refine ⟨hs a (by rw [h6, Nat.testBit_or, q2, two_bit.2 (Or.inl rfl), Bool.or_true]), ?_⟩
        cases e : g0.testBit a
        · rfl
        · exact (dis_iff.1 h4 a e (by rw [q2]; exact two_bit.2 (Or.inl rfl))).elim
      have nb : g.testBit b = true ∧ g0.testBit b = false := by
        refine ⟨hs b (by rw [h6, Nat.testBit_or, q2, two_bit.2 (Or.inr rfl), Bool.or_true]), ?_⟩
        cases e : g0.testBit b
        · rfl
        · exact (dis_iff.1 h4 b e (by rw [q2]; exact two_bit.2 (Or.inr rfl))).elim
      refine hA_sO g d s0 g0 (by omega) h3 (fun i hi => ?_) sg0 ?_
      · rw [← hb i (by omega), h5, Nat.testBit_or, Nat.testBit_two_pow, decide_eq_false (by omega), Bool.or_false]
      · rw [show D - d = (D - (d + 1)) + 1 by omega]
        show (if s.testBit d = true then _ else _)
        rw [if_pos yb]
        have ba := (bitx g0 a).2 na
        have bb := (bitx g0 b).2 nb
        refine ⟨a, b, ⟨q1, ba, bb⟩, ?_⟩
        have e : wo2 (g ^^^ (g &&& g0)) a b = g ^^^ (g &&& g1) := by
          apply Nat.eq_of_testBit_eq
          intro i
          rw [Bool.eq_iff_iff, wo2_bit hab ba bb, bitx, bitx, h6, Nat.testBit_or, q2, Bool.or_eq_false_iff]
          constructor
          · rintro ⟨⟨k1, k2⟩, k3, k4⟩
            refine ⟨k1, k2, ?_⟩
            cases e : (2 ^ a ||| 2 ^ b).testBit i
            · rfl
            · exact ((two_bit.1 e).elim k3 k4).elim
          · rintro ⟨k1, k2, k3⟩
            refine ⟨⟨k1, k2⟩, fun e => ?_, fun e => ?_⟩
            · rw [two_bit.2 (Or.inl e)] at k3; exact absurd k3 (by decide)
            · rw [two_bit.2 (Or.inr e)] at k3; exact absurd k3 (by decide)
        rw [e]; exact hO
theorem td_sO {T W : zN2} (hT : TB T) : sO T W (tdS T W) (T 2 2) 0 (2 ^ W 0 3 - 1) := by
  obtain ⟨⟨g, h⟩, -⟩ := td_best (W := W) hT
  refine hA_sO (2 ^ W 0 3 - 1) (T 2 2) (tdS T W) g (Nat.le_refl _) h (fun _ _ => rfl) (all_sub (hA_lt h).2) ?_
  rw [Nat.sub_self]; trivial
