/-! THE PURE SIDE, 47: TODAY, the reference -/
/-- the pairs for a DOOR -/
def tQ (T W : zN2) (d p : Nat) : Prop := ∃ a b, tO T W d a b ∧ p = 2 ^ a ||| 2 ^ b
/-- the DOORS of s, all below d, can be opened by just the PERSONS of g -/
def hA (T W : zN2) : Nat → Nat → Nat → Prop
  | 0, s, g => s = 0 ∧ g = 0
  | d + 1, s, g => aH (hA T W d) d (tQ T W d) s g
theorem tQ_lt {T W : zN2} {d p : Nat} (h : tQ T W d p) : p < 2 ^ W 0 3 := by
  obtain ⟨a, b, h1, h2⟩ := h
  rw [h2]; exact two_lt (Nat.lt_trans h1.1 h1.2.1) h1.2.1
theorem hA_lt {T W : zN2} : ∀ {d s g : Nat}, hA T W d s g → s < 2 ^ d ∧ g < 2 ^ W 0 3
  | 0, s, g, h => by rw [h.1, h.2]; exact ⟨Nat.one_pos, Nat.two_pow_pos _⟩
  | d + 1, s, g, h => by
    rcases h with h | ⟨p, s0, g0, h1, h2, h3, -, h5, h6⟩
    · have := hA_lt h
      exact ⟨Nat.lt_trans this.1 (Nat.pow_lt_pow_right (by decide) (by omega)), this.2⟩
    · have := hA_lt h3
      rw [h5, h6]
      exact ⟨bor_lt (Nat.lt_trans h2 (Nat.pow_lt_pow_right (by decide) (by omega))) (by omega), Nat.or_lt_two_pow this.2 (tQ_lt h1)⟩
theorem hA_0 {T W : zN2} : ∀ d, hA T W d 0 0
  | 0 => ⟨rfl, rfl⟩
  | d + 1 => Or.inl (hA_0 d)
theorem m_fT107 {T W : zN2} (hT : TB T) (hW : WB T W) (K : zMem → zRes) {m : zMem} (hM : MT T m) (hS : MS T W m) (hm : mH (2 ^ T 2 2) (2 ^ W 0 3) (hA T W 0) m) :
    ∃ m', f9_findToday_L107 (zi (W 0 3)) K zF (zi 0) m = K m' ∧ mH (2 ^ T 2 2) (2 ^ W 0 3) (hA T W (T 2 2)) m' ∧ zfr (fun k => 101 ≤ k ∧ k < 1125) m m' := by
  have hD := hT.2.2.1
  have z2 : ∀ A, zin (2 : Int32) 6 A = A := fun A => zin_i (i := 2) (by decide) (by decide)
  have n2 : (2 : Int32).toNatClampNeg = 2 := by decide
  obtain ⟨x, e1, e2, e3⟩ := zloopE (L := fun n i (x : zMem) => f9_findToday_L107 (zi (W 0 3)) K n (zi i) x) (N := T 2 2) (o := fun x => K x)
    (fun i x => mH (2 ^ T 2 2) (2 ^ W 0 3) (hA T W i) x ∧ zfr (fun k => 101 ≤ k ∧ k < 1125) m x)
    (fun n x hx => by rw [f9_findToday_L107, z2, n2, (MT_had hx.2 hT hM).1.2.2.1, if_pos (Int32.le_refl _)])
    (fun n i x hi hx => by
      have z1 : zi i + (1 : Int32) = zi (i + 1) := zi_add i 1
      obtain ⟨y, a1, a2, a3⟩ := m_adds hT hW hi (H := hA T W i) (fun s g h => (hA_lt h).2) (MT_had hx.2 hT hM) (MS_had hx.2 hT hW hS) hx.1
      refine ⟨y, ?_, a2, hx.2.trans a3⟩
      rw [f9_findToday_L107, z2, n2, (MT_had hx.2 hT hM).1.2.2.1, if_neg (show ¬ zi (T 2 2) ≤ zi i from by rw [zi_le (by omega) (by omega)]; omega), a1, bnd0_ok, z1])
    (T 2 2) 0 m zF (by omega) (by unfold zF; omega) ⟨hm, fun _ _ => rfl⟩
  exact ⟨x, e1, e2, e3⟩
theorem m_fT147 {G s N : Nat} {H : Nat → Nat → Prop} {m : zMem} (hG : G ≤ 512) (hN : N ≤ 1024) (hs : s < N) (hm : mH N G H m) (K : Int32 → zRes) :
    (∃ g, g < G ∧ H s g) ∧ f9_findToday_L147 (zi G) (zi s) m K zF (zi 0) (zi 0) = K (zi 1) ∨ (¬ ∃ g, g < G ∧ H s g) ∧ f9_findToday_L147 (zi G) (zi s) m K zF (zi 0) (zi 0) = K (zi 0) := by
  have h := zloopQ (L := fun n i (x : Int32) => f9_findToday_L147 (zi G) (zi s) m K n x (zi i)) (N := G) (fun r => (∃ g, g < G ∧ H s g) ∧ r = K (zi 1) ∨ (¬ ∃ g, g < G ∧ H s g) ∧ r = K (zi 0))
    (fun i x => (x = zi 1 ∧ ∃ g, g < i ∧ H s g) ∨ (x = zi 0 ∧ ¬ ∃ g, g < i ∧ H s g))
    (fun n x hx => by
      show (_ ∧ f9_findToday_L147 (zi G) (zi s) m K (n + 1) x (zi G) = _) ∨ (_ ∧ f9_findToday_L147 (zi G) (zi s) m K (n + 1) x (zi G) = _)
      rw [f9_findToday_L147, if_pos (Int32.le_refl _)]
      rcases hx with ⟨rfl, h⟩ | ⟨rfl, h⟩
      · exact Or.inl ⟨h, rfl⟩
      · exact Or.inr ⟨h, rfl⟩)
    (fun n i x hi hx => by
      have z1 : zi i + (1 : Int32) = zi (i + 1) := zi_add i 1
      have hle : ¬ zi G ≤ zi i := by rw [zi_le (by omega) (by omega)]; omega
      rcases hx with ⟨rfl, h⟩ | ⟨rfl, h⟩
      · left
        left
        obtain ⟨g, h1, h2⟩ := h
        refine ⟨⟨g, by omega, h2⟩, ?_⟩
        show f9_findToday_L147 (zi G) (zi s) m K (n + 1) (zi 1) (zi i) = _
        rw [f9_findToday_L147, if_neg hle, if_neg (show ¬ zi 1 = (0 : Int32) from by decide)]
      · right
        obtain ⟨v1, v2⟩ := hm s i hs hi
        refine ⟨m (101 + s) i, ?_, ?_⟩
        · show f9_findToday_L147 (zi G) (zi s) m K (n + 1) (zi 0) (zi i) = _
          rw [f9_findToday_L147, if_neg hle, if_pos (show zi 0 = (0 : Int32) from rfl), zin_i (by omega) (by omega), zin_i (by omega) (by omega), zlet_e, zi_cl (by omega), zi_cl (by omega), z1]
        · by_cases hh : H s i
          · exact Or.inl ⟨v2.2 hh, i, by omega, hh⟩
          · refine Or.inr ⟨v1.elim id (fun q => absurd (v2.1 q) hh), ?_⟩
            rintro ⟨g, h1, h2⟩
            have : g ≠ i := fun e => hh (e ▸ h2)
            exact h ⟨g, by omega, h2⟩)
    G 0 (zi 0) zF (by omega) (by unfold zF; omega) (Or.inr ⟨rfl, fun q => by obtain ⟨g, h1, -⟩ := q; omega⟩)
  exact h
/-- the greater the better: the worth of a set of DOORS, then the set itself falling -/
def vl (T : zN2) (s : Nat) : Nat := 1024 * wor T s (T 2 2) - s
/-- TODAY's set of DOORS -/
def tBest (T W : zN2) (t : Nat) : Prop := (∃ g, hA T W (T 2 2) t g) ∧ ∀ s g, hA T W (T 2 2) s g → vl T s ≤ vl T t
theorem wor_0 {T : zN2} : ∀ d, wor T 0 d = 0
  | 0 => rfl
  | d + 1 => by
    show wor T 0 d + (if (0 : Nat).testBit d = true then T 8 d else 0) = 0
    rw [wor_0 d, Nat.zero_testBit]; rfl
theorem wor_pos {T : zN2} (hT : TB T) {s : Nat} : ∀ d, s < 2 ^ d → s ≠ 0 → 1 ≤ wor T s d
  | 0, h, h0 => by omega
  | d + 1, h, h0 => by
    show 1 ≤ wor T s d + (if s.testBit d = true then T 8 d else 0)
    cases hb : s.testBit d
    · have hlt : s < 2 ^ d := by
        apply Nat.lt_pow_two_of_testBit
        intro i hi
        by_cases e : i = d
        · rw [e]; exact hb
        · exact Nat.testBit_lt_two_pow (Nat.lt_of_lt_of_le h (Nat.pow_le_pow_right (by decide) (by omega)))
      have := wor_pos hT d hlt h0
      omega
    · have := tb_8 hT d
      rw [if_pos rfl]
      omega
theorem vl_0 {T : zN2} : vl T 0 = 0 := by unfold vl; rw [wor_0]
theorem vl_sp {T : zN2} (hT : TB T) {s : Nat} (h : s < 2 ^ T 2 2) : vl T s + s = 1024 * wor T s (T 2 2) ∧ s < 1024 ∧ wor T s (T 2 2) ≤ 990 ∧ (vl T s + 1023) / 1024 = wor T s (T 2 2) := by
  have hD := hT.2.2.1
  have hN : 2 ^ T 2 2 ≤ 1024 := pw10 hD
  have hw := wor_le hT s (T 2 2)
  by_cases h0 : s = 0
  · subst h0
    rw [vl_0, wor_0]; decide
  · have := wor_pos hT (T 2 2) h h0
    unfold vl
    refine ⟨by omega, by omega, by omega, by omega⟩
theorem tBest_eq {T W : zN2} (hT : TB T) {t t' : Nat} (h : tBest T W t) (h' : tBest T W t') : t = t' := by
  obtain ⟨⟨g, hg⟩, h1⟩ := h
  obtain ⟨⟨g', hg'⟩, h1'⟩ := h'
  have a1 := h1 t' g' hg'
  have a2 := h1' t g hg
  have b1 := vl_sp hT (hA_lt hg).1
  have b2 := vl_sp hT (hA_lt hg').1
  have : wor T t (T 2 2) = wor T t' (T 2 2) := by rw [← b1.2.2.2, ← b2.2.2.2, Nat.le_antisymm a1 a2]
  omega
theorem m_fT134 {T W : zN2} (hT : TB T) (hW : WB T W) (K : zMem → zRes) {m : zMem} (hM : MT T m) (hm : mH (2 ^ T 2 2) (2 ^ W 0 3) (hA T W (T 2 2)) m) (h34 : m 0 34 = zi 0) (h35 : m 0 35 = zi 0) :
    ∃ m' t, f9_findToday_L134 (zi (2 ^ W 0 3)) (zi (2 ^ T 2 2)) K zF (zi 1) m = K m' ∧ tBest T W t ∧ m' 0 34 = zi (wor T t (T 2 2)) ∧ m' 0 35 = zi t ∧ mfr (fun j => j = 34 ∨ j = 35) (fun _ => False) m m' := by
  have hD := hT.2.2.1
  have hP := hW.2.2.2.1
  have hG : 2 ^ W 0 3 ≤ 512 := pw9 hP
  have hN : 2 ^ T 2 2 ≤ 1024 := pw10 hD
  have hN1 : 1 ≤ 2 ^ T 2 2 := Nat.two_pow_pos _
  obtain ⟨x, e1, t, e2, e3, e4, e5, e6, e7⟩ := zloopE (L := fun n i (x : zMem) => f9_findToday_L134 (zi (2 ^ W 0 3)) (zi (2 ^ T 2 2)) K n (zi i) x) (N := 2 ^ T 2 2) (o := fun x => K x)
    (fun i x => ∃ t, x 0 34 = zi (wor T t (T 2 2)) ∧ x 0 35 = zi t ∧ (∃ g, hA T W (T 2 2) t g) ∧ t < i ∧ mfr (fun j => j = 34 ∨ j = 35) (fun _ => False) m x ∧ ∀ s g, s < i → hA T W (T 2 2) s g → wor T s (T 2 2) < wor T t (T 2 2) ∨ (wor T s (T 2 2) = wor T t (T 2 2) ∧ t ≤ s))
    (fun n x hx => by rw [f9_findToday_L134, if_pos (Int32.le_refl _)])
    (fun n i x hi hx => by
      obtain ⟨t, a1, a2, ⟨g0, a3⟩, a4, a5, a6⟩ := hx
      have z1 : zi i + (1 : Int32) = zi (i + 1) := zi_add i 1
      have hle : ¬ zi (2 ^ T 2 2) ≤ zi i := by rw [zi_le (by omega) (by omega)]; omega
      have hM' : MT T x := MT_at (fun j _ => congrFun (a5.1 4 (by omega) (fun q => q)) j) (a5.1 47 (by omega) (fun q => q)) (a5.1 49 (by omega) (fun q => q)) (fun p _ => congrFun (a5.1 (15 + p) (by omega) (fun q => q)) 5) (fun d _ => a5.1 (36 + d) (by omega) (fun q => q)) hT hM
      have hm' : mH (2 ^ T 2 2) (2 ^ W 0 3) (hA T W (T 2 2)) x := fun s g hs hg => by rw [a5.1 (101 + s) (by omega) (fun q => q)]; exact hm s g hs hg
      have hw1 := wor_le hT i (T 2 2)
      have hw2 := wor_le hT t (T 2 2)
      have keep : (¬ (∃ g, g < 2 ^ W 0 3 ∧ hA T W (T 2 2) i g) ∨ wor T i (T 2 2) ≤ wor T t (T 2 2)) → ∃ t, x 0 34 = zi (wor T t (T 2 2)) ∧ x 0 35 = zi t ∧ (∃ g, hA T W (T 2 2) t g) ∧ t < i + 1 ∧ mfr (fun j => j = 34 ∨ j = 35) (fun _ => False) m x ∧ ∀ s g, s < i + 1 → hA T W (T 2 2) s g → wor T s (T 2 2) < wor T t (T 2 2) ∨ (wor T s (T 2 2) = wor T t (T 2 2) ∧ t ≤ s) := fun hno =>
        ⟨t, a1, a2, ⟨g0, a3⟩, by omega, a5, fun s g hs hh => by
          by_cases es : s = i
          · subst es
            rcases hno with hno | hno
            · exact absurd ⟨g, (hA_lt hh).2, hh⟩ hno
            · omega
          · exact a6 s g (by omega) hh⟩
      rcases m_fT147 (G := 2 ^ W 0 3) (s := i) (N := 2 ^ T 2 2) hG hN hi hm' (fun (x7_55 : Int32) => (fun (x7_34 : Int32) => zlet (fun (μ35 : zMem) => f9_findToday_L134 (zi (2 ^ W 0 3)) (zi (2 ^ T 2 2)) K n (zi i + (1 : Int32)) μ35) (fun j36 => if x7_34 = 0 then j36 x else bnd0 (f9_worthOf (zi i) x) (fun (v39 : Int32) (μ40 : zMem) => if (μ40 0 34) < v39 then bnd0 (f9_worthOf (zi i) μ40) (fun (v43 : Int32) (μ44 : zMem) => zlet (zset μ44 0 34 v43) (fun (μ45 : zMem) => zlet (zset μ45 0 35 (zi i)) (fun (μ46 : zMem) => j36 μ46))) else j36 μ40))) x7_55) with ⟨hq, hq'⟩ | ⟨hq, hq'⟩
      · by_cases hlt : wor T t (T 2 2) < wor T i (T 2 2)
        · obtain ⟨g1, g2, g3⟩ := hq
          refine ⟨zset (zset x 0 34 (zi (wor T i (T 2 2)))) 0 35 (zi i), ?_, i, ?_, zset_eq, ⟨g1, g3⟩, by omega, (a5.set0 (Or.inl rfl)).set0 (Or.inr rfl), fun s g hs hh => ?_⟩
          · show f9_findToday_L134 (zi (2 ^ W 0 3)) (zi (2 ^ T 2 2)) K (n + 1) (zi i) x = _
            rw [f9_findToday_L134, if_neg hle, zlet_e]
            refine hq'.trans ?_
            show zlet _ _ = _
            rw [zlet_e, if_neg (show ¬ zi 1 = (0 : Int32) from by decide), m_worthOf hT hM' (by omega), bnd0_ok, a1, if_pos (by rw [zi_lt (by omega) (by omega)]; exact hlt), m_worthOf hT hM' (by omega), bnd0_ok, zlet_e, zlet_e, z1]
          · rw [zset_nj (by decide), zset_eq]
          · by_cases es : s = i
            · subst es; right; exact ⟨rfl, Nat.le_refl _⟩
            · rcases a6 s g (by omega) hh with h | h
              · left; omega
              · left; omega
        · refine ⟨x, ?_, keep (Or.inr (by omega))⟩
          show f9_findToday_L134 (zi (2 ^ W 0 3)) (zi (2 ^ T 2 2)) K (n + 1) (zi i) x = _
          rw [f9_findToday_L134, if_neg hle, zlet_e]
          refine hq'.trans ?_
          show zlet _ _ = _
          rw [zlet_e, if_neg (show ¬ zi 1 = (0 : Int32) from by decide), m_worthOf hT hM' (by omega), bnd0_ok, a1, if_neg (by rw [zi_lt (by omega) (by omega)]; exact hlt), z1]
      · refine ⟨x, ?_, keep (Or.inl hq)⟩
        show f9_findToday_L134 (zi (2 ^ W 0 3)) (zi (2 ^ T 2 2)) K (n + 1) (zi i) x = _
        rw [f9_findToday_L134, if_neg hle, zlet_e]
        refine hq'.trans ?_
        show zlet _ _ = _
        rw [zlet_e, if_pos (show zi 0 = (0 : Int32) from rfl), z1])
    (2 ^ T 2 2 - 1) 1 m zF (by omega) (by unfold zF; omega) ⟨0, by rw [wor_0]; exact h34, h35, ⟨0, hA_0 _⟩, by omega, mfr.refl, fun s g hs _ => by
      have : s = 0 := by omega
      subst this
      exact Or.inr ⟨rfl, Nat.le_refl _⟩⟩
  refine ⟨x, t, e1, ⟨e4, fun s g hh => ?_⟩, e2, e3, e6⟩
  have b1 := vl_sp hT (hA_lt hh).1
  have b2 := vl_sp hT (s := t) e5
  rcases e7 s g (hA_lt hh).1 hh with h | h
  · omega
  · omega
