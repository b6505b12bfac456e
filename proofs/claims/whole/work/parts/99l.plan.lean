/-! THE PURE SIDE, 51: TODAY, the class's plan -/
theorem x_offer {T W : zN2} {d : Nat} (hT : TB T) (hW : WB T W) (hd : d < T 2 2) {V : Nat → Nat} (hV : ∀ h, V h < 2000000) {μ : zMem} (hX : XT T μ) (h49 : μ 49 5 = zi (W 0 3)) (hw : xTw T W d μ) (h52 : ∀ h, h < 2 ^ W 0 3 → μ 52 h = zi (V h)) :
    ∃ μ', f2_offer (zi d) μ = some (0, zi 0, μ') ∧ (∀ h, h < 2 ^ W 0 3 → ∃ v, μ' 52 h = zi v ∧ mxOf (oV T W V d h) v) ∧ zfr (fun k => k = 52) μ μ' := by
  have hP := hW.2.2.2.1
  have hD := hT.2.2.1
  have hG : 2 ^ W 0 3 ≤ 512 := pw9 hP
  have hG1 : 1 ≤ 2 ^ W 0 3 := Nat.two_pow_pos _
  have h8 := tb_8 hT d
  have h36 := pO_36 hW (d := d)
  have hdd : 2 ^ d ≤ 512 := pw9 (by omega)
  have hgn : T 8 d * 1024 - 2 ^ d < 2000000 := Nat.lt_of_le_of_lt (Nat.sub_le _ _) (by omega)
  have hun : f2_offer (zi d) μ = if cn (pO T W d) 90 = 0 then f2_offer_L53 (zi (T 8 d * 1024 - 2 ^ d)) (zi (d * 36)) (zi (d * 36 + cn (pO T W d) 90)) (fun (μ27 : zMem) => some (0, 0, μ27)) zF (zi 0) μ else f2_offer_L53 (zi (T 8 d * 1024 - 2 ^ d)) (zi (d * 36)) (zi (d * 36 + cn (pO T W d) 90)) (fun (μ27 : zMem) => some (0, 0, μ27)) zF (zi (2 ^ W 0 3 - 1)) μ := by
    unfold f2_offer
    rw [zin_i (by omega) (by omega), zi_cl (by omega), (hX.2.2.2.2 d hd).1, h49, hw.1, show zshl (1 : Int32) (zi d) = zi (2 ^ d) from zshl1 (by omega), show zshl (1 : Int32) (zi (W 0 3)) = zi (2 ^ W 0 3) from zshl1 (by omega), show (1024 : Int32) = zi 1024 from rfl, zi_mul, zi_sub (by omega), zlet_e, show zi d * (36 : Int32) = zi (d * 36) from zi_mul d 36, zlet_e, zin_i (by omega) (by omega), zi_add, zlet_e, show zi (2 ^ W 0 3) - (1 : Int32) = zi (2 ^ W 0 3 - 1) from zi_sub (b := 1) (by omega), zlet_e]
    by_cases h0 : cn (pO T W d) 90 = 0
    · rw [if_pos (show zi (d * 36 + cn (pO T W d) 90) ≤ zi (d * 36) from by rw [zi_le (by omega) (by omega)]; omega), if_pos h0]
      rfl
    · rw [if_neg (show ¬ zi (d * 36 + cn (pO T W d) 90) ≤ zi (d * 36) from by rw [zi_le (by omega) (by omega)]; omega), if_neg h0]
  by_cases h0 : cn (pO T W d) 90 = 0
  · refine ⟨μ, ?_, fun h hh => ⟨V h, h52 h hh, Or.inl rfl, fun u hu => ?_⟩, fun _ _ => rfl⟩
    · rw [hun, if_pos h0, show zF = 999999 + 1 from rfl, f2_offer_L53, if_pos (show zi 0 ≤ (0 : Int32) from Int32.le_refl _)]
      rfl
    · rcases hu with q | ⟨a, b, q1, -⟩
      · omega
      · have hp := pO_of hW q1.1
        have := cn_lt hp (pO_bd hW hp).2.2.2
        omega
  obtain ⟨μ', e1, e2, e3, e4⟩ := zloopE (L := fun n i (x : zMem) => f2_offer_L53 (zi (T 8 d * 1024 - 2 ^ d)) (zi (d * 36)) (zi (d * 36 + cn (pO T W d) 90)) (fun (μ27 : zMem) => some (0, 0, μ27)) n (zi (2 ^ W 0 3 - 1 - i)) x) (N := 2 ^ W 0 3 - 1) (o := fun x => some (0, 0, x))
    (fun i x => (∀ h, h < 2 ^ W 0 3 - i → x 52 h = zi (V h)) ∧ (∀ h, h < 2 ^ W 0 3 → 2 ^ W 0 3 - i ≤ h → ∃ v, x 52 h = zi v ∧ mxOf (oV T W V d h) v) ∧ zfr (fun k => k = 52) μ x)
    (fun n x hx => by
      show f2_offer_L53 _ _ _ _ (n + 1) (zi (2 ^ W 0 3 - 1 - (2 ^ W 0 3 - 1))) x = _
      rw [Nat.sub_self, f2_offer_L53, if_pos (show zi 0 ≤ (0 : Int32) from Int32.le_refl _)])
    (fun n i x hi hx => by
      obtain ⟨x1, x2, x3⟩ := hx
      have z1 : zi (2 ^ W 0 3 - 1 - i) + (-1 : Int32) = zi (2 ^ W 0 3 - 1 - (i + 1)) := by rw [zneg1, zi_pred (by omega), Nat.sub_sub (2 ^ W 0 3 - 1) i 1]
      have hgt : ¬ zi (2 ^ W 0 3 - 1 - i) ≤ (0 : Int32) := by rw [show (0 : Int32) = zi 0 from rfl, zi_le (by omega) (by omega)]; omega
      have hw' : xTw T W d x := by unfold xTw; rw [x3 50 (by decide), x3 51 (by decide)]; exact hw
      obtain ⟨v', a1, a2⟩ := x_offer70 hT hW hd hV hgn (show 2 ^ W 0 3 - 1 - i < 2 ^ W 0 3 by omega) (fun (x6_24 : Int32) => zin (zi (2 ^ W 0 3 - 1 - i)) 512 (zlet (zset x 52 (2 ^ W 0 3 - 1 - i) x6_24) (fun (μ26 : zMem) => f2_offer_L53 (zi (T 8 d * 1024 - 2 ^ d)) (zi (d * 36)) (zi (d * 36 + cn (pO T W d) 90)) (fun (μ27 : zMem) => some (0, 0, μ27)) n (zi (2 ^ W 0 3 - 1 - i) + (-1 : Int32)) μ26))) (μ := x) hw' (fun h hh => x1 h (by omega))
      refine ⟨zset x 52 (2 ^ W 0 3 - 1 - i) (zi v'), ?_, fun h hh => ?_, fun h hh hh' => ?_, x3.set rfl⟩
      · show f2_offer_L53 _ _ _ _ (n + 1) (zi (2 ^ W 0 3 - 1 - i)) x = _
        rw [f2_offer_L53, if_neg hgt, zin_i (by omega) (by omega), zlet_e, zi_cl (by omega), x1 _ (by omega)]
        refine a1.trans ?_
        show zin _ _ _ = _
        rw [zin_i (by omega) (by omega), zlet_e, z1]
      · rw [zset_nj (by omega)]; exact x1 h (by omega)
      · by_cases e : h = 2 ^ W 0 3 - 1 - i
        · subst e; exact ⟨v', zset_eq, a2⟩
        · rw [zset_nj e]; exact x2 h hh (by omega))
    (2 ^ W 0 3 - 1) 0 μ zF (by omega) (by unfold zF; omega) ⟨fun h hh => h52 h (by omega), fun h hh hh' => absurd hh (by omega), fun _ _ => rfl⟩
  refine ⟨μ', ?_, fun h hh => ?_, e4⟩
  · rw [hun, if_neg h0]
    rw [Nat.sub_zero] at e1
    exact e1
  · by_cases h0 : h = 0
    · subst h0
      refine ⟨V 0, e2 0 (by omega), Or.inl rfl, fun u hu => ?_⟩
      rcases hu with q | ⟨a, b, q1, -⟩
      · omega
      · have := q1.2.1
        rw [Nat.zero_testBit] at this
        exact absurd this (by decide)
    · exact e3 h hh (by omega)
/-- the values of the sets of DOORS that can be had in a group -/
def hV (T W : zN2) (d g u : Nat) : Prop := ∃ s g', hA T W d s g' ∧ sub2 g' g ∧ u = vl T s
theorem or_add {s d : Nat} (h : s < 2 ^ d) : s ||| 2 ^ d = s + 2 ^ d := by
  have := Nat.two_pow_add_eq_or_of_lt h 1
  rw [Nat.mul_one] at this
  rw [Nat.or_comm, ← this, Nat.add_comm]
theorem wor_or {T : zN2} {s d : Nat} (h : s < 2 ^ d) : ∀ n, wor T (s ||| 2 ^ d) n = wor T s n + (if d < n then T 8 d else 0)
  | 0 => rfl
  | n + 1 => by
    show wor T (s ||| 2 ^ d) n + (if (s ||| 2 ^ d).testBit n = true then T 8 n else 0) = wor T s n + (if s.testBit n = true then T 8 n else 0) + _
    rw [wor_or h n, Nat.testBit_or, Nat.testBit_two_pow]
    by_cases e : d = n
    · subst e
      rw [if_neg (Nat.lt_irrefl _), decide_eq_true rfl, Bool.or_true, if_pos rfl, Nat.testBit_lt_two_pow h, if_neg (by decide), if_pos (by omega)]
    · rw [decide_eq_false e, Bool.or_false]
      by_cases e' : d < n
      · rw [if_pos e', if_pos (show d < n + 1 by omega)]; omega
      · rw [if_neg e', if_neg (show ¬ d < n + 1 by omega)]; omega
theorem vl_or {T : zN2} (hT : TB T) {s d : Nat} (hd : d < T 2 2) (h : s < 2 ^ d) : vl T (s ||| 2 ^ d) = vl T s + (T 8 d * 1024 - 2 ^ d) := by
  have hD := hT.2.2.1
  have h8 := tb_8 hT d
  have hdd : 2 ^ d ≤ 512 := pw9 (by omega)
  have hs : s < 2 ^ T 2 2 := Nat.lt_of_lt_of_le h (Nat.pow_le_pow_right (by decide) (by omega))
  have b1 := vl_sp hT hs
  have b2 := vl_sp hT (bor_lt hs hd)
  have b3 := wor_or (T := T) h (T 2 2)
  rw [if_pos hd] at b3
  rw [or_add h] at b2 b3 ⊢
  omega
theorem wo2_bit {g a b i : Nat} (hab : a ≠ b) (ha : g.testBit a = true) (hb : g.testBit b = true) : (wo2 g a b).testBit i = true ↔ g.testBit i = true ∧ i ≠ a ∧ i ≠ b := by
  unfold wo2
  rw [xor_bit, xor_bit]
  by_cases e1 : a = i
  · subst e1
    rw [ha, decide_eq_true rfl, decide_eq_false (fun e => hab e.symm)]
    exact ⟨fun h => absurd h (by decide), fun h => absurd rfl h.2.1⟩
  · by_cases e2 : b = i
    · subst e2
      rw [hb, decide_eq_true rfl, decide_eq_false e1]
      exact ⟨fun h => absurd h (by decide), fun h => absurd rfl h.2.2⟩
    · rw [decide_eq_false e1, decide_eq_false e2, Bool.xor_false, Bool.xor_false]
      exact ⟨fun h => ⟨h, fun e => e1 e.symm, fun e => e2 e.symm⟩, fun h => h.1⟩
theorem two_bit {a b i : Nat} : (2 ^ a ||| 2 ^ b).testBit i = true ↔ i = a ∨ i = b := by
  rw [Nat.testBit_or, Nat.testBit_two_pow, Nat.testBit_two_pow, Bool.or_eq_true, decide_eq_true_iff, decide_eq_true_iff]
  exact ⟨fun h => h.elim (fun e => Or.inl e.symm) (fun e => Or.inr e.symm), fun h => h.elim (fun e => Or.inl e.symm) (fun e => Or.inr e.symm)⟩
theorem dis_iff {g p : Nat} : g &&& p = 0 ↔ ∀ i, g.testBit i = true → p.testBit i = true → False := by
  rw [and_0]
  constructor
  · intro h i h1 h2
    have := h i
    rw [h1, h2] at this
    exact absurd this (by decide)
  · intro h i
    cases h1 : g.testBit i
    · rfl
    · cases h2 : p.testBit i
      · rfl
      · exact (h i h1 h2).elim
/-- a DOOR offered: the values of the sets with it -/
theorem hV_step {T W : zN2} (hT : TB T) {d : Nat} (hd : d < T 2 2) {V : Nat → Nat} (hV0 : ∀ g, g < 2 ^ W 0 3 → mxOf (hV T W d g) (V g)) {g v : Nat} (hg : g < 2 ^ W 0 3) (hv : mxOf (oV T W V d g) v) : mxOf (hV T W (d + 1) g) v := by
  constructor
  · rcases hv.1 with q | ⟨a, b, q1, q2⟩
    · obtain ⟨s, g', h1, h2, h3⟩ := (hV0 g hg).1
      exact ⟨s, g', Or.inl h1, h2, by rw [q, h3]⟩
    · have hab : a ≠ b := by have := q1.1.1; omega
      have hlt := wo2_lt hab q1.2.1 q1.2.2
      obtain ⟨s, g', h1, h2, h3⟩ := (hV0 (wo2 g a b) (by omega)).1
      refine ⟨s ||| 2 ^ d, g' ||| (2 ^ a ||| 2 ^ b), Or.inr ⟨2 ^ a ||| 2 ^ b, s, g', ⟨a, b, q1.1, rfl⟩, (hA_lt h1).1, h1, ?_, rfl, rfl⟩, ?_, ?_⟩
      · rw [dis_iff]
        intro i h4 h5
        have := (wo2_bit hab q1.2.1 q1.2.2).1 (h2 i h4)
        rcases two_bit.1 h5 with e | e
        · exact this.2.1 e
        · exact this.2.2 e
      · apply sub2_or
        · exact fun i hi => ((wo2_bit hab q1.2.1 q1.2.2).1 (h2 i hi)).1
        · intro i hi
          rcases two_bit.1 hi with e | e
          · rw [e]; exact q1.2.1
          · rw [e]; exact q1.2.2
      · rw [vl_or hT hd (hA_lt h1).1, q2, h3]
  · rintro u ⟨s, g', h1, h2, h3⟩
    rcases h1 with h1 | ⟨p, s0, g0, ⟨a, b, q1, q2⟩, h4, h5, h6, h7, h8⟩
    · have := (hV0 g hg).2 u ⟨s, g', h1, h2, h3⟩
      have := hv.2 (V g) (Or.inl rfl)
      omega
    · have hab : a ≠ b := by have := q1.1; omega
      have ha : g.testBit a = true := h2 a (by rw [h8, Nat.testBit_or, q2, two_bit.2 (Or.inl rfl), Bool.or_true])
      have hb : g.testBit b = true := h2 b (by rw [h8, Nat.testBit_or, q2, two_bit.2 (Or.inr rfl), Bool.or_true])
      have hlt := wo2_lt hab ha hb
      have k1 := (hV0 (wo2 g a b) (by omega)).2 (vl T s0) ⟨s0, g0, h5, fun i hi => (wo2_bit hab ha hb).2 ⟨h2 i (by rw [h8, Nat.testBit_or, hi, Bool.true_or]), fun e => dis_iff.1 h6 i hi (by rw [q2]; exact two_bit.2 (Or.inl e)), fun e => dis_iff.1 h6 i hi (by rw [q2]; exact two_bit.2 (Or.inr e))⟩, rfl⟩
      have k2 := hv.2 _ (Or.inr ⟨a, b, ⟨q1, ha, hb⟩, rfl⟩)
      rw [h3, h7, vl_or hT hd h4]
      omega
theorem hV_same {T W : zN2} {d : Nat} (hno : ¬ ∃ a b, tO T W d a b) {g v : Nat} (hv : mxOf (hV T W d g) v) : mxOf (hV T W (d + 1) g) v := by
  refine mxOf_iff hv (fun u => ?_)
  constructor
  · rintro ⟨s, g', h1, h2⟩
    rcases h1 with h1 | ⟨p, s0, g0, ⟨a, b, q1, q2⟩, -⟩
    · exact ⟨s, g', h1, h2⟩
    · exact absurd ⟨a, b, q1⟩ hno
  · rintro ⟨s, g', h1, h2⟩
    exact ⟨s, g', Or.inl h1, h2⟩
/-- the class's plan holds TODAY -/
def xV (T W : zN2) (d : Nat) (μ : zMem) : Prop := μ 49 5 = zi (W 0 3) ∧ (∀ d', d' < d → xTw T W d' μ) ∧ ∀ g, g < 2 ^ W 0 3 → ∃ v, μ 52 g = zi v ∧ mxOf (hV T W d g) v
theorem hV_lt {T W : zN2} (hT : TB T) {d g u : Nat} (hd : d ≤ T 2 2) (h : hV T W d g u) : u < 2000000 := by
  obtain ⟨s, g', h1, -, h3⟩ := h
  have := vl_sp hT (s := s) (Nat.lt_of_lt_of_le (hA_lt h1).1 (Nat.pow_le_pow_right (by decide) hd))
  omega
theorem xTw_of {T W : zN2} {d : Nat} {μ μ' : zMem} (h : xTw T W d μ) (hW : WB T W) (h0 : ∀ j, d * 36 ≤ j → j < d * 36 + 36 → μ' 50 j = μ 50 j) (h1 : μ' 51 d = μ 51 d) : xTw T W d μ' := by
  refine ⟨h1.trans h.1, fun c q => ?_⟩
  have := cn_lt q (pO_bd hW q).2.2.2
  have := pO_36 hW (d := d)
  rw [h0 _ (by omega) (by omega)]; exact h.2 c q
theorem xTw_0 {T W : zN2} {d : Nat} {μ : zMem} (hno : ¬ ∃ a b, tO T W d a b) (h : μ 51 d = zi 0) : xTw T W d μ := by
  have hp : ∀ c, ¬ pO T W d c = true := fun c q => hno ⟨_, _, pO_tO q⟩
  refine ⟨?_, fun c q => absurd q (hp c)⟩
  rw [h, show cn (pO T W d) 90 = cn (pO T W d) 0 from by
    have := cn_flat (p := pO T W d) (m := 0) 90 (fun c _ _ => hp c)
    rw [Nat.zero_add] at this; exact this]
  rfl
theorem x_make {T W : zN2} (hT : TB T) (hW : WB T W) {μ : zMem} (hX : XT T μ) (hS : XS T W 28 μ) :
    ∃ μ', f2_make μ = some (0, zi 0, μ') ∧ xV T W (T 2 2) μ' ∧ zfr (fun k => 49 ≤ k ∧ k ≤ 52) μ μ' := by
  have hP := hW.2.2.2.1
  have hD := hT.2.2.1
  have hG : 2 ^ W 0 3 ≤ 512 := pw9 hP
  obtain ⟨μ', e1, e2, e3, e4⟩ := zloopE (L := fun n i (x : zMem) => f2_make_L33 (fun (μ22 : zMem) => some (0, 0, μ22)) n (zi i) x) (N := T 2 2) (o := fun x => some (0, 0, x))
    (fun i x => xV T W i x ∧ (∀ d, i ≤ d → d < 10 → x 51 d = zi 0) ∧ zfr (fun k => 49 ≤ k ∧ k ≤ 52) μ x)
    (fun n x hx => by
      show f2_make_L33 _ (n + 1) (zi (T 2 2)) x = _
      rw [f2_make_L33, hx.2.2 2 (by decide), hX.1.2.2.1, if_pos (Int32.le_refl _)])
    (fun n i x hi hx => by
      obtain ⟨⟨x1, x2, x3⟩, x4, x5⟩ := hx
      have z1 : zi i + (1 : Int32) = zi (i + 1) := zi_add i 1
      have hle : ¬ zi (T 2 2) ≤ zi i := by rw [zi_le (by omega) (by omega)]; omega
      have hX' : XT T x := XT_of (fun key hk => x5 key (by omega)) hX
      have hS' : XS T W 28 x := XS_of (fun key h1 h2 => x5 key (by omega)) hS
      have hskip : (¬ ∃ a b, tO T W i a b) → xV T W (i + 1) x ∧ (∀ d, i + 1 ≤ d → d < 10 → x 51 d = zi 0) ∧ zfr (fun k => 49 ≤ k ∧ k ≤ 52) μ x := fun hno => by
        refine ⟨⟨x1, fun d' h1 => ?_, fun g hg => ?_⟩, fun d h1 h2 => x4 d (by omega) h2, x5⟩
        · by_cases e : d' = i
          · subst e; exact xTw_0 hno (x4 d' (Nat.le_refl _) (by omega))
          · exact x2 d' (by omega)
        · obtain ⟨v, c1, c2⟩ := x3 g hg
          exact ⟨v, c1, hV_same hno c2⟩
      by_cases h1 : (W 0 4).testBit i = true
      · refine ⟨x, ?_, hskip (fun q => by
          obtain ⟨a, b, q1⟩ := q
          have := (tE_0 q1.2.2).1
          rw [h1] at this; exact absurd this (by decide))⟩
        show f2_make_L33 _ (n + 1) (zi i) x = _
        rw [f2_make_L33, x5 2 (by decide), hX.1.2.2.1, if_neg hle, x_isOpen hW hS' (show i < 32 by omega), bnd0_ok, zlet_e, if_pos h1, if_neg (show ¬ zi 1 = (0 : Int32) from by decide), z1]
      · by_cases h2 : T 10 i < W 0 0
        · refine ⟨x, ?_, hskip (fun q => by
            obtain ⟨a, b, q1⟩ := q
            have := (tE_0 q1.2.2).2.1
            omega)⟩
          show f2_make_L33 _ (n + 1) (zi i) x = _
          rw [f2_make_L33, x5 2 (by decide), hX.1.2.2.1, if_neg hle, x_isOpen hW hS' (show i < 32 by omega), bnd0_ok, zlet_e, if_neg h1, if_pos (show zi 0 = (0 : Int32) from rfl), x_isTooLate hT hW hX' hS' hi, bnd0_ok, if_pos h2, if_neg (show ¬ zi 1 = (0 : Int32) from by decide), z1]
        · obtain ⟨μ1, a1, a2, a3, a4, a5⟩ := x_findTwos hT hW hi hX' hS' x1
          have e52 : μ1 52 = x 52 := a5 52 (by decide)
          have hx3 : ∃ V : Nat → Nat, (∀ g, g < 2 ^ W 0 3 → x 52 g = zi (V g) ∧ mxOf (hV T W i g) (V g)) ∧ ∀ g, V g < 2000000 := by
            refine ⟨fun g => if hg : g < 2 ^ W 0 3 then Classical.choose (x3 g hg) else 0, fun g hg => ?_, fun g => ?_⟩
            · dsimp only
              rw [dif_pos hg]; exact Classical.choose_spec (x3 g hg)
            · by_cases hg : g < 2 ^ W 0 3
              · dsimp only
                rw [dif_pos hg]; exact hV_lt hT (by omega) (Classical.choose_spec (x3 g hg)).2.1
              · dsimp only
                rw [dif_neg hg]; decide
          obtain ⟨V, v1, v2⟩ := hx3
          obtain ⟨μ2, b1, b2, b3⟩ := x_offer hT hW hi v2 (μ := μ1) (XT_of (fun key hk => a5 key (by omega)) hX') (by rw [a5 49 (by decide)]; exact x1) a2 (fun h hh => by rw [e52]; exact (v1 h hh).1)
          refine ⟨μ2, ?_, ⟨?_, fun d' h1 => ?_, fun g hg => ?_⟩, fun d h1 h2 => ?_, x5.trans ((a5.mono (fun k hk => by omega)).trans (b3.mono (fun k hk => by omega)))⟩
          · show f2_make_L33 _ (n + 1) (zi i) x = _
            rw [f2_make_L33, x5 2 (by decide), hX.1.2.2.1, if_neg hle, x_isOpen hW hS' (show i < 32 by omega), bnd0_ok, zlet_e, if_neg h1, if_pos (show zi 0 = (0 : Int32) from rfl), x_isTooLate hT hW hX' hS' hi, bnd0_ok, if_neg h2, if_pos (show zi 0 = (0 : Int32) from rfl), a1, bnd0_ok, b1, bnd0_ok, z1]
          · rw [b3 49 (by decide), a5 49 (by decide)]; exact x1
          · by_cases e : d' = i
            · subst e; exact xTw_of a2 hW (fun j _ _ => by rw [b3 50 (by decide)]) (by rw [b3 51 (by decide)])
            · exact xTw_of (x2 d' (by omega)) hW (fun j _ _ => by rw [b3 50 (by decide)]; exact a3 j (by omega)) (by rw [b3 51 (by decide)]; exact a4 d' e)
          · obtain ⟨v, c1, c2⟩ := b2 g hg
            exact ⟨v, c1, hV_step hT hi (fun g hg => (v1 g hg).2) hg c2⟩
          · rw [b3 51 (by decide), a4 d (by omega)]; exact x4 d (by omega) h2)
    (T 2 2) 0 (zfil (zfil (zset μ 49 5 (zi (W 0 3))) 51 10 (zi 0)) 52 (2 ^ W 0 3) (zi 0)) zF (by omega) (by unfold zF; omega)
    ⟨⟨by rw [zfil_nk (by decide), zfil_nk (by decide), zset_eq], fun d' h => absurd h (by omega), fun g hg => ⟨0, by rw [zfil_at, if_pos ⟨rfl, hg⟩], ⟨0, 0, ⟨rfl, rfl⟩, fun i hi => by rw [Nat.zero_testBit] at hi; exact absurd hi (by decide), vl_0.symm⟩, fun u hu => by
      obtain ⟨s, g', h1, -, h3⟩ := hu
      rw [h3, h1.1, vl_0]; exact Nat.le_refl _⟩⟩, fun d _ h2 => by rw [zfil_nk (by decide), zfil_at, if_pos ⟨rfl, h2⟩], fun k hk => by rw [zfil_nk (by omega), zfil_nk (by omega), zset_nk (by omega)]⟩
  refine ⟨μ', ?_, e2, e4⟩
  unfold f2_make
  rw [zlet_e, hS.1.2.2.2.1]
  rw [x_fill (k := 51) (z := 10) (x := (0 : Int32)) (by decide), bnd0_ok]
  rw [show zfil (zset μ 49 5 (zi (W 0 3))) 51 10 (0 : Int32) 49 5 = zi (W 0 3) from by rw [zfil_nk (by decide), zset_eq], show zshl (1 : Int32) (zi (W 0 3)) = zi (2 ^ W 0 3) from zshl1 (by omega)]
  have e0 := x_fill2 (μ := zfil (zset μ 49 5 (zi (W 0 3))) 51 10 (zi 0)) (k := 52) (z := 512) (e := 2 ^ W 0 3) (x := zi 0) (by decide) hG
  rw [show fJ7_fill_fda19 52 512 (0 : Int32) (zi (2 ^ W 0 3)) (0 : Int32) (zfil (zset μ 49 5 (zi (W 0 3))) 51 10 (0 : Int32)) = _ from e0, bnd0_ok]
  exact e1
