/-! THE PURE SIDE, 55: need -/
/-- fewer PERSONS, or as many and not the greater bits -/
def lex (a b : Nat) : Prop := popc a < popc b ∨ (popc a = popc b ∧ a ≤ b)
theorem lex_rf {a : Nat} : lex a a := Or.inr ⟨rfl, Nat.le_refl _⟩
theorem lex_tr {a b c : Nat} (h : lex a b) (h' : lex b c) : lex a c := by unfold lex at *; omega
theorem lex_as {a b : Nat} (h : lex a b) (h' : lex b a) : a = b := by unfold lex at *; omega
theorem sub2_le {a b : Nat} (h : sub2 a b) : a ≤ b := by
  have : a &&& b = a := Nat.eq_of_testBit_eq (fun i => by
    rw [Nat.testBit_and]
    cases e : a.testBit i
    · rfl
    · rw [h i e]; rfl)
  rw [← this]; exact Nat.and_le_right
theorem sub2_lex {a b : Nat} (h : sub2 a b) : lex a b := by
  have h1 : popc a ≤ popc b := popn_mono h 12
  have h2 := sub2_le h
  unfold lex; omega
/-- a group in which as much can be opened as at most -/
def nE (T W : zN2) (g : Nat) : Prop := ∃ s g', hA T W (T 2 2) s g' ∧ sub2 g' g ∧ wor T s (T 2 2) = tdW T W
theorem nE_iff {T W : zN2} (hT : TB T) {g v : Nat} (hv : mxOf (hV T W (T 2 2) g) v) : (v + 1023) / 1024 = tdW T W ↔ nE T W g := by
  obtain ⟨⟨gb, hb⟩, hb'⟩ := td_best (W := W) hT
  have kb := vl_sp hT (hA_lt hb).1
  have eW : tdW T W = wor T (tdS T W) (T 2 2) := rfl
  constructor
  · intro h
    obtain ⟨s, g', h1, h2, h3⟩ := hv.1
    have k := vl_sp hT (hA_lt h1).1
    exact ⟨s, g', h1, h2, by rw [← k.2.2.2, ← h3]; exact h⟩
  · rintro ⟨s, g', h1, h2, h3⟩
    have k := vl_sp hT (hA_lt h1).1
    have k1 := hv.2 _ ⟨s, g', h1, h2, rfl⟩
    obtain ⟨s2, g2, q1, -, q3⟩ := hv.1
    have k2 := hb' s2 g2 q1
    omega
/-- falling to -1 -/
def dn (N i : Nat) : Int32 := if i < N then zi (N - 1 - i) else zN1
theorem dn_step {N i : Nat} (h : i < N) : dn N i + (-1 : Int32) = dn N (i + 1) := by
  unfold dn
  rw [if_pos h]
  by_cases e : i + 1 < N
  · rw [if_pos e, zneg1, zi_pred (by omega), Nat.sub_sub (N - 1) i 1]
  · rw [if_neg e, show N - 1 - i = 0 by omega]; rfl
theorem x_fewest {T W : zN2} {μ : zMem} (hT : TB T) (hW : WB T W) (hV : xV T W (T 2 2) μ) : ∃ f, f2_fewestPersons μ = some (0, zi f, μ) ∧ f < 2 ^ W 0 3 ∧ nE T W f ∧ ∀ g, g < 2 ^ W 0 3 → nE T W g → lex f g := by
  have hP := hW.2.2.2.1
  have hG : 2 ^ W 0 3 ≤ 512 := pw9 hP
  have hG1 : 1 ≤ 2 ^ W 0 3 := Nat.two_pow_pos _
  have hb := (td_lt (W := W) hT).2.1
  have hall : nE T W (2 ^ W 0 3 - 1) := by
    obtain ⟨⟨gb, hb⟩, -⟩ := td_best (W := W) hT
    exact ⟨_, gb, hb, all_sub (hA_lt hb).2, rfl⟩
  obtain ⟨⟨f, μ'⟩, e1, e2, e3, e4, e5⟩ := zloopE (L := fun n i (s : Nat × zMem) => f2_fewestPersons_L13 (fun (x2_24 : Int32) (μ25 : zMem) => some (0, x2_24, μ25)) n (zi s.1) (dn (2 ^ W 0 3) i) s.2) (N := 2 ^ W 0 3) (o := fun s => some (0, zi s.1, s.2))
    (fun i s => s.2 = μ ∧ s.1 < 2 ^ W 0 3 ∧ nE T W s.1 ∧ ∀ g, 2 ^ W 0 3 - i ≤ g → g < 2 ^ W 0 3 → nE T W g → lex s.1 g)
    (fun n s hs => by
      show f2_fewestPersons_L13 _ (n + 1) (zi s.1) (dn (2 ^ W 0 3) (2 ^ W 0 3)) s.2 = _
      rw [show dn (2 ^ W 0 3) (2 ^ W 0 3) = zN1 from if_neg (Nat.lt_irrefl _), f2_fewestPersons_L13, if_pos (show zN1 < (0 : Int32) from by decide)])
    (fun n i s hi hs => by
      obtain ⟨f, μ1⟩ := s
      obtain ⟨h1, h2, h3, h4⟩ := hs
      dsimp only at h1 h2 h3 h4
      subst h1
      obtain ⟨v, v1, v2⟩ := hV.2.2 (2 ^ W 0 3 - 1 - i) (by omega)
      have hv := hV_lt hT (Nat.le_refl _) v2.1
      have hE := nE_iff hT v2
      have ed : dn (2 ^ W 0 3) i = zi (2 ^ W 0 3 - 1 - i) := if_pos hi
      have hp1 := popc_le (2 ^ W 0 3 - 1 - i)
      have hp2 := popc_le f
      have hq : f2_fewestPersons_L13 (fun (x2_24 : Int32) (μ25 : zMem) => some (0, x2_24, μ25)) (n + 1) (zi f) (dn (2 ^ W 0 3) i) μ1 = if (v + 1023) / 1024 = tdW T W then (if popc f < popc (2 ^ W 0 3 - 1 - i) then f2_fewestPersons_L13 (fun (x2_24 : Int32) (μ25 : zMem) => some (0, x2_24, μ25)) n (zi f) (dn (2 ^ W 0 3) (i + 1)) μ1 else f2_fewestPersons_L13 (fun (x2_24 : Int32) (μ25 : zMem) => some (0, x2_24, μ25)) n (zi (2 ^ W 0 3 - 1 - i)) (dn (2 ^ W 0 3) (i + 1)) μ1) else f2_fewestPersons_L13 (fun (x2_24 : Int32) (μ25 : zMem) => some (0, x2_24, μ25)) n (zi f) (dn (2 ^ W 0 3) (i + 1)) μ1 := by
        rw [← dn_step hi, ed, f2_fewestPersons_L13, if_neg (show ¬ zi (2 ^ W 0 3 - 1 - i) < (0 : Int32) from by rw [show (0 : Int32) = zi 0 from rfl, zi_lt (by omega) (by omega)]; omega), zin_i (by omega) (by omega), zi_cl (by omega), v1, x_worthIn (by omega), bnd0_ok, x_worthAtMost hT hW hV, bnd0_ok, zlet_e]
        by_cases c : (v + 1023) / 1024 = tdW T W
        · rw [if_pos (show zi ((v + 1023) / 1024) = zi (tdW T W) from by rw [c]), if_pos c]
          show zlet _ _ = _
          rw [zlet_e, if_neg (show ¬ (1 : Int32) = 0 from by decide), x_bitCount (by omega), bnd0_ok, x_bitCount (by omega), bnd0_ok]
          by_cases c2 : popc f < popc (2 ^ W 0 3 - 1 - i)
          · rw [if_pos (by rw [zi_lt (by omega) (by omega)]; exact c2), if_pos c2]
          · rw [if_neg (by rw [zi_lt (by omega) (by omega)]; exact c2), if_neg c2]
        · rw [if_neg (show ¬ zi ((v + 1023) / 1024) = zi (tdW T W) from by rw [zi_eq (by omega) (by omega)]; exact c), if_neg c]
          show zlet _ _ = _
          rw [zlet_e, if_pos (show (0 : Int32) = 0 from rfl)]
      by_cases c : (v + 1023) / 1024 = tdW T W
      · have hEg := hE.1 c
        rw [if_pos c] at hq
        by_cases c2 : popc f < popc (2 ^ W 0 3 - 1 - i)
        · rw [if_pos c2] at hq
          refine ⟨(f, μ1), hq, rfl, h2, h3, fun g g1 g2 g3 => ?_⟩
          by_cases eg : g = 2 ^ W 0 3 - 1 - i
          · rw [eg]; exact Or.inl c2
          · exact h4 g (by omega) g2 g3
        · rw [if_neg c2] at hq
          refine ⟨(2 ^ W 0 3 - 1 - i, μ1), hq, rfl, by show _ < _; omega, hEg, fun g g1 g2 g3 => ?_⟩
          by_cases eg : g = 2 ^ W 0 3 - 1 - i
          · rw [eg]; exact lex_rf
          · have hh := h4 g (by omega) g2 g3
            show lex (2 ^ W 0 3 - 1 - i) g
            unfold lex at hh ⊢
            omega
      · rw [if_neg c] at hq
        refine ⟨(f, μ1), hq, rfl, h2, h3, fun g g1 g2 g3 => ?_⟩
        have : g ≠ 2 ^ W 0 3 - 1 - i := fun e => c (hE.2 (e ▸ g3))
        exact h4 g (by omega) g2 g3)
    (2 ^ W 0 3) 0 (2 ^ W 0 3 - 1, μ) zF (by omega) (by unfold zF; omega) ⟨rfl, by show _ < _; omega, hall, fun g g1 g2 => absurd g1 (by omega)⟩
  dsimp only at e1 e2 e3 e4 e5
  subst e2
  refine ⟨f, ?_, e3, e4, fun g g1 g2 => e5 g (by omega) g1 g2⟩
  unfold f2_fewestPersons
  rw [hV.1, show zshl (1 : Int32) (zi (W 0 3)) = zi (2 ^ W 0 3) from zshl1 (by omega), show zi (2 ^ W 0 3) - (1 : Int32) = zi (2 ^ W 0 3 - 1) from zi_sub (b := 1) (by omega), zlet_e]
  rw [show dn (2 ^ W 0 3) 0 = zi (2 ^ W 0 3 - 1) from by unfold dn; rw [if_pos (by omega)]; rfl] at e1
  exact e1
/-- the least group of some, or none -/
def lst (N : Nat) (S : Nat → Prop) (x : Int32) : Prop := (x = zN1 ∧ ∀ g, ¬ S g) ∨ ∃ b, b < N ∧ x = zi b ∧ S b ∧ ∀ g, S g → lex b g
theorem lst_iff {N : Nat} {S S' : Nat → Prop} {x : Int32} (h : lst N S x) (hS : ∀ g, S' g ↔ S g) : lst N S' x := by
  rw [show S' = S from funext (fun g => propext (hS g))]; exact h
theorem m_need85 {T W : zN2} {s : Nat} {H : Nat → Nat → Prop} (hT : TB T) (hs : s < 2 ^ T 2 2) {S : Nat → Prop} {x : Int32} (hx : lst (2 ^ T 2 1) S x) (K : Int32 → zMem → zRes) {μ : zMem} (hM : MT T μ) (hm : mH (2 ^ T 2 2) (2 ^ T 2 1) H μ) :
    ∃ x', f9_need_L85 (zi s) K zF x (zi 0) μ = K x' μ ∧ lst (2 ^ T 2 1) (fun g => S g ∨ (g < 2 ^ T 2 1 ∧ H s g)) x' := by
  have hP := hT.2.1
  have hD := hT.2.2.1
  have hN : 2 ^ T 2 2 ≤ 1024 := pw10 hD
  obtain ⟨hp1, hp2⟩ := pow_p hT
  have z1' : ∀ A, zin (1 : Int32) 6 A = A := fun A => zin_i (i := 1) (by decide) (by decide)
  have n1 : (1 : Int32).toNatClampNeg = 1 := by decide
  have e1 : zshl (1 : Int32) (zi (T 2 1)) = zi (2 ^ T 2 1) := zshl1 (by omega)
  obtain ⟨⟨x', μ'⟩, e2, e3, e4⟩ := zloopE (L := fun n i (q : Int32 × zMem) => f9_need_L85 (zi s) K n q.1 (zi i) q.2) (N := 2 ^ T 2 1) (o := fun q => K q.1 q.2)
    (fun i q => q.2 = μ ∧ lst (2 ^ T 2 1) (fun g => S g ∨ (g < i ∧ H s g)) q.1)
    (fun n q hq => by
      show f9_need_L85 (zi s) K (n + 1) q.1 (zi (2 ^ T 2 1)) q.2 = _
      rw [hq.1, f9_need_L85, z1', n1, hM.1.2.1, e1, if_pos (Int32.le_refl _)])
    (fun n i q hi hq => by
      obtain ⟨x1, μ1⟩ := q
      obtain ⟨h1, h2⟩ := hq
      dsimp only at h1 h2
      subst h1
      have zi1 : zi i + (1 : Int32) = zi (i + 1) := zi_add i 1
      obtain ⟨v1, v2⟩ := hm s i hs hi
      have hq : f9_need_L85 (zi s) K (n + 1) x1 (zi i) μ1 = if μ1 (101 + s) i = 0 then f9_need_L85 (zi s) K n x1 (zi (i + 1)) μ1 else if x1 = (-1 : Int32) then f9_need_L85 (zi s) K n (zi i) (zi (i + 1)) μ1 else bnd0 (f9_ones (zi i) μ1) (fun (v42 : Int32) (μ43 : zMem) => bnd0 (f9_ones x1 μ43) (fun (v44 : Int32) (μ45 : zMem) => if v42 < v44 then f9_need_L85 (zi s) K n (zi i) (zi (i + 1)) μ45 else bnd0 (f9_ones (zi i) μ45) (fun (v48 : Int32) (μ49 : zMem) => bnd0 (f9_ones x1 μ49) (fun (v50 : Int32) (μ51 : zMem) => if v48 = v50 then if x1 ≤ zi i then f9_need_L85 (zi s) K n x1 (zi (i + 1)) μ51 else f9_need_L85 (zi s) K n (zi i) (zi (i + 1)) μ51 else f9_need_L85 (zi s) K n x1 (zi (i + 1)) μ51)))) := by
        rw [f9_need_L85, z1', n1, hM.1.2.1, e1, if_neg (show ¬ zi (2 ^ T 2 1) ≤ zi i from by rw [zi_le (by omega) (by omega)]; omega), zin_i (by omega) (by omega), zin_i (by omega) (by omega), zlet_e, zi_cl (by omega), zi_cl (by omega), zi1]
        rfl
      show ∃ s', f9_need_L85 (zi s) K (n + 1) x1 (zi i) μ1 = _ ∧ _
      rw [hq]
      by_cases hh : H s i
      · have grow : ∀ g, (S g ∨ (g < i + 1 ∧ H s g)) ↔ ((S g ∨ (g < i ∧ H s g)) ∨ g = i) := fun g => by
          constructor
          · rintro (q | ⟨q1, q2⟩)
            · exact Or.inl (Or.inl q)
            · by_cases e : g = i
              · exact Or.inr e
              · exact Or.inl (Or.inr ⟨by omega, q2⟩)
          · rintro ((q | ⟨q1, q2⟩) | q)
            · exact Or.inl q
            · exact Or.inr ⟨by omega, q2⟩
            · exact Or.inr ⟨by omega, q ▸ hh⟩
        rw [if_neg (show ¬ μ1 (101 + s) i = 0 from by rw [v2.2 hh]; decide)]
        rcases h2 with ⟨rfl, h3⟩ | ⟨b, b1, rfl, b2, b3⟩
        · rw [if_pos (show zN1 = (-1 : Int32) from rfl)]
          refine ⟨(zi i, μ1), rfl, rfl, lst_iff (Or.inr ⟨i, hi, rfl, Or.inr rfl, fun g hg => ?_⟩) grow⟩
          rcases hg with q | q
          · exact absurd q (h3 g)
          · rw [q]; exact lex_rf
        · have k1 := popc_le i
          have k2 := popc_le b
          rw [if_neg (show ¬ zi b = (-1 : Int32) from by rw [zneg1, zi_nN1 (by omega)]; exact fun q => q), m_ones (by omega), bnd0_ok, m_ones (by omega), bnd0_ok]
          have take : lex i b → lst (2 ^ T 2 1) (fun g => S g ∨ (g < i + 1 ∧ H s g)) (zi i) := fun hl => lst_iff (Or.inr ⟨i, hi, rfl, Or.inr rfl, fun g hg => by
            rcases hg with q | q
            · exact lex_tr hl (b3 g q)
            · rw [q]; exact lex_rf⟩) grow
          have leave : lex b i → lst (2 ^ T 2 1) (fun g => S g ∨ (g < i + 1 ∧ H s g)) (zi b) := fun hl => lst_iff (Or.inr ⟨b, b1, rfl, Or.inl b2, fun g hg => by
            rcases hg with q | q
            · exact b3 g q
            · rw [q]; exact hl⟩) grow
          by_cases c1 : popc i < popc b
          · rw [if_pos (by rw [zi_lt (by omega) (by omega)]; exact c1)]
            exact ⟨(zi i, μ1), rfl, rfl, take (Or.inl c1)⟩
          · rw [if_neg (by rw [zi_lt (by omega) (by omega)]; exact c1), m_ones (by omega), bnd0_ok, m_ones (by omega), bnd0_ok]
            by_cases c2 : popc i = popc b
            · rw [if_pos (by rw [c2])]
              by_cases c3 : b ≤ i
              · rw [if_pos (by rw [zi_le (by omega) (by omega)]; exact c3)]
                exact ⟨(zi b, μ1), rfl, rfl, leave (Or.inr ⟨c2.symm, c3⟩)⟩
              · rw [if_neg (by rw [zi_le (by omega) (by omega)]; exact c3)]
                exact ⟨(zi i, μ1), rfl, rfl, take (Or.inr ⟨c2, by omega⟩)⟩
            · rw [if_neg (by rw [zi_eq (by omega) (by omega)]; exact c2)]
              exact ⟨(zi b, μ1), rfl, rfl, leave (Or.inl (by omega))⟩
      · rw [if_pos (show μ1 (101 + s) i = 0 from v1.elim id (fun q => absurd (v2.1 q) hh))]
        refine ⟨(x1, μ1), rfl, rfl, lst_iff h2 (fun g => ?_)⟩
        constructor
        · rintro (q | ⟨q1, q2⟩)
          · exact Or.inl q
          · have : g ≠ i := fun e => hh (e ▸ q2)
            exact Or.inr ⟨by omega, q2⟩
        · rintro (q | ⟨q1, q2⟩)
          · exact Or.inl q
          · exact Or.inr ⟨by omega, q2⟩)
    (2 ^ T 2 1) 0 (x, μ) zF (by omega) (by unfold zF; omega) ⟨rfl, lst_iff hx (fun g => ⟨fun q => q.elim id (fun r => absurd r.1 (by omega)), Or.inl⟩)⟩
  dsimp only at e2 e3 e4
  subst e3
  exact ⟨x', e2, e4⟩
theorem m_need53 {T W : zN2} {w : Nat} {H : Nat → Nat → Prop} (hT : TB T) (hw : w ≤ 990) (K : Int32 → zMem → zRes) {μ : zMem} (hM : MT T μ) (hm : mH (2 ^ T 2 2) (2 ^ T 2 1) H μ) (h34 : μ 0 34 = zi w) :
    ∃ x', f9_need_L53 K zF zN1 (zi 0) μ = K x' μ ∧ lst (2 ^ T 2 1) (fun g => ∃ s, s < 2 ^ T 2 2 ∧ wor T s (T 2 2) = w ∧ g < 2 ^ T 2 1 ∧ H s g) x' := by
  have hD := hT.2.2.1
  have hN : 2 ^ T 2 2 ≤ 1024 := pw10 hD
  have z2' : ∀ A, zin (2 : Int32) 6 A = A := fun A => zin_i (i := 2) (by decide) (by decide)
  have n2 : (2 : Int32).toNatClampNeg = 2 := by decide
  have e1 : zshl (1 : Int32) (zi (T 2 2)) = zi (2 ^ T 2 2) := zshl1 (by omega)
  obtain ⟨⟨x', μ'⟩, e2, e3, e4⟩ := zloopE (L := fun n i (q : Int32 × zMem) => f9_need_L53 K n q.1 (zi i) q.2) (N := 2 ^ T 2 2) (o := fun q => K q.1 q.2)
    (fun i q => q.2 = μ ∧ lst (2 ^ T 2 1) (fun g => ∃ s, s < i ∧ wor T s (T 2 2) = w ∧ g < 2 ^ T 2 1 ∧ H s g) q.1)
    (fun n q hq => by
      show f9_need_L53 K (n + 1) q.1 (zi (2 ^ T 2 2)) q.2 = _
      rw [hq.1, f9_need_L53, z2', n2, hM.1.2.2.1, e1, if_pos (Int32.le_refl _)])
    (fun n i q hi hq => by
      obtain ⟨x1, μ1⟩ := q
      obtain ⟨h1, h2⟩ := hq
      dsimp only at h1 h2
      subst h1
      have zi1 : zi i + (1 : Int32) = zi (i + 1) := zi_add i 1
      have hwi := wor_le hT i (T 2 2)
      have hq : f9_need_L53 K (n + 1) x1 (zi i) μ1 = if zi (wor T i (T 2 2)) = zi w then f9_need_L85 (zi i) (fun (x3_56 : Int32) (μ57 : zMem) => f9_need_L53 K n x3_56 (zi i + (1 : Int32)) μ57) zF x1 (0 : Int32) μ1 else f9_need_L53 K n x1 (zi i + (1 : Int32)) μ1 := by
        rw [f9_need_L53, z2', n2, hM.1.2.2.1, e1, if_neg (show ¬ zi (2 ^ T 2 2) ≤ zi i from by rw [zi_le (by omega) (by omega)]; omega), m_worthOf hT hM (by omega), bnd0_ok, zlet_e, h34]
      show ∃ s', f9_need_L53 K (n + 1) x1 (zi i) μ1 = _ ∧ _
      rw [hq, zi1]
      by_cases c : wor T i (T 2 2) = w
      · rw [if_pos (by rw [c])]
        obtain ⟨x2, b1, b2⟩ := m_need85 (W := W) (s := i) hT hi h2 (fun (x3_56 : Int32) (μ57 : zMem) => f9_need_L53 K n x3_56 (zi (i + 1)) μ57) hM hm
        refine ⟨(x2, μ1), b1, rfl, lst_iff b2 (fun g => ?_)⟩
        constructor
        · rintro ⟨s, s1, s2, s3, s4⟩
          by_cases e : s = i
          · exact Or.inr ⟨s3, e ▸ s4⟩
          · exact Or.inl ⟨s, by omega, s2, s3, s4⟩
        · rintro (⟨s, s1, s2⟩ | ⟨s3, s4⟩)
          · exact ⟨s, by omega, s2⟩
          · exact ⟨i, by omega, c, s3, s4⟩
      · rw [if_neg (by rw [zi_eq (by omega) (by omega)]; exact c)]
        refine ⟨(x1, μ1), rfl, rfl, lst_iff h2 (fun g => ?_)⟩
        constructor
        · rintro ⟨s, s1, s2, s3⟩
          have : s ≠ i := fun e => c (e ▸ s2)
          exact ⟨s, by omega, s2, s3⟩
        · rintro ⟨s, s1, s2⟩
          exact ⟨s, by omega, s2⟩)
    (2 ^ T 2 2) 0 (zN1, μ) zF (by omega) (by unfold zF; omega) ⟨rfl, Or.inl ⟨rfl, fun g q => by obtain ⟨s, s1, -⟩ := q; omega⟩⟩
  dsimp only at e2 e3 e4
  subst e3
  exact ⟨x', e2, e4⟩
theorem P_need {x y : Int32} {μX μM : zMem} (h : zInv μX μM) : zPm cI (f8_need x y μX) (f9_need x y μM) := by
  have h' := h
  obtain ⟨T, W, r, R, n, m, WI, rI, RI, ⟨hT, hW, hL, hX, hM, hS, hS', h30, hB, hR, hR'⟩, ht, hf, hi⟩ := h
  have hPP := hT.2.1
  obtain ⟨hp1, hp2⟩ := pow_p hT
  have hM0 := MT_0 (v := zi 0) hT hM
  have hS0 := MS_0 (v := zi 0) hT hW hS'
  have e00 : zset μM 0 0 (zi 0) 0 0 = zi 0 := zset_00
  have e30 : zset μM 0 0 (zi 0) 0 30 = zN1 := by rw [zset_nj (by decide)]; exact h30
  have z1' : ∀ A, zin (1 : Int32) 6 A = A := fun A => zin_i (i := 1) (by decide) (by decide)
  have n1 : (1 : Int32).toNatClampNeg = 1 := by decide
  rcases qcase (W := W) hT x with ⟨W', hq⟩ | hx
  · rcases zcase y 2 (by decide) with ⟨w, hw, rfl⟩ | hy
    · have hW' := qOk_wb hW hq
      have eP : W' 0 3 = T 2 1 := (qOk_0 hq 0 3 (by omega)).trans hL.2.2.1
      have hb := (td_lt (W := W') hT).2.1
      obtain ⟨μ1, a1, a2, a3, a4⟩ := x_planToday hT hW hX hS hq
      obtain ⟨m1, b1, b2, b3, b4, b5⟩ := m_today hT hW' (x2 := x) (μ := zset μM 0 0 (zi 0)) rfl hM0 (ms_asked hT hW hS0 e30 hq)
      obtain ⟨f, c1, c2, c3, c4⟩ := x_fewest hT hW' a2
      rw [eP] at b1 b4 c2 c4
      have hM1 := MT_q (zmq_today b5).2.2 hT hM0
      obtain ⟨x', d1, d2⟩ := m_need53 (W := W') (w := tdW T W') hT hb (fun (x3_58 : Int32) (μ59 : zMem) => zlet (fun (s60 : Int32) (μ61 : zMem) => some (0, s60, μ61)) (fun j62 => if zi w = 0 then bnd0 (f9_ones x3_58 μ59) (fun (v65 : Int32) (μ66 : zMem) => j62 v65 μ66) else j62 x3_58 μ59)) hM1 b4 b2
      have ex : x' = zi f := by
        rcases d2 with ⟨-, q⟩ | ⟨b, q1, q2, ⟨s, q3, q4, q5, q6⟩, q7⟩
        · obtain ⟨⟨gb, k1⟩, -⟩ := td_best (W := W') hT
          exact absurd ⟨_, (hA_lt k1).1, rfl, by have := (hA_lt k1).2; rw [eP] at this; exact this, k1⟩ (q gb)
        · rw [q2]
          congr 1
          apply lex_as
          · obtain ⟨s', g', k1, k2, k3⟩ := c3
            exact lex_tr (q7 g' ⟨s', (hA_lt k1).1, k3, by have := (hA_lt k1).2; rw [eP] at this; exact this, k1⟩) (sub2_lex k2)
          · exact c4 b q1 ⟨s, b, q6, sub2_rf, q4⟩
      subst ex
      have k1 := popc_le f
      refine zPm_q h' (μX' := μ1) (μM' := m1) (e := 0) (v := zi (if w = 0 then popc f else f)) (w := zi (if w = 0 then popc f else f)) ?_ ?_ ((b5.2 0 (by decide)).trans e00) (fun _ => rfl) (Or.inl rfl) (pz_zsx a4) (zmq_0.trans (zmq_today b5))
      · unfold f8_need
        rw [x_needQN_ok hT hX hq, bnd_ok, show f8_needWhat (zi w) (1 : Int32) μX = _ from x_needW_ok (n := 1) (by omega) (by decide), bnd_ok, a1, bnd0_ok, c1, bnd0_ok, zlet_e]
        by_cases h0 : w = 0
        · rw [if_pos (show zi w = (0 : Int32) from by rw [h0]; rfl), if_pos h0, x_bitCount (by omega)]; rfl
        · rw [if_neg (show ¬ zi w = (0 : Int32) from by rw [show (0 : Int32) = zi 0 from rfl, zi_eq (by omega) (by omega)]; exact h0), if_neg h0]
      · unfold f9_need
        rw [zlet_e, show zset μM 0 0 (0 : Int32) = zset μM 0 0 (zi 0) from rfl, m_badAsked_ok hT hM0 e00 hq, bnd0_ok, zlet_e, if_pos (show zi 0 = (0 : Int32) from rfl), show f9_in (zi w) (0 : Int32) (1 : Int32) (zset μM 0 0 (zi 0)) = _ from m_inn_o (n := 1) (by decide) (by omega), bnd0_ok, zlet_e, if_neg (show ¬ zi 1 = (0 : Int32) from by decide)]
        show bnd0 (f9_bad (0 : Int32) (1 : Int32) (zset μM 0 0 (zi 0))) _ = _
        rw [show f9_bad (0 : Int32) (1 : Int32) (zset μM 0 0 (zi 0)) = _ from m_bad0 e00, bnd0_ok, if_pos (show zi 0 = (0 : Int32) from rfl), z1', n1, hM0.1.2.1, b1, bnd0_ok]
        refine d1.trans ?_
        show zlet _ _ = _
        rw [zlet_e]
        by_cases h0 : w = 0
        · rw [if_pos (show zi w = (0 : Int32) from by rw [h0]; rfl), if_pos h0, m_ones (by omega)]; rfl
        · rw [if_neg (show ¬ zi w = (0 : Int32) from by rw [show (0 : Int32) = zi 0 from rfl, zi_eq (by omega) (by omega)]; exact h0), if_neg h0]
    · refine zPm_q h' (μX' := μX) (μM' := zset (zset μM 0 0 (zi 0)) 0 0 (zi 1)) (e := 1) (v := zi 0) (w := zi 0) ?_ ?_ zset_00 (fun h => absurd h (by decide)) (Or.inr (by decide)) zfr.refl zmq_00
      · unfold f8_need
        rw [x_needQN_ok hT hX hq, bnd_ok, show f8_needWhat y (1 : Int32) μX = _ from x_needW_no (n := 1) (by decide) hy]; rfl
      · unfold f9_need
        rw [zlet_e, show zset μM 0 0 (0 : Int32) = zset μM 0 0 (zi 0) from rfl, m_badAsked_ok hT hM0 e00 hq, bnd0_ok, zlet_e, if_pos (show zi 0 = (0 : Int32) from rfl), show f9_in y (0 : Int32) (1 : Int32) (zset μM 0 0 (zi 0)) = _ from m_inn_c (n := 1) (by decide) hy, bnd0_ok, zlet_e, if_pos (show zi 0 = (0 : Int32) from rfl)]
        show bnd0 (f9_bad (1 : Int32) (1 : Int32) (zset μM 0 0 (zi 0))) _ = _
        rw [show f9_bad (1 : Int32) (1 : Int32) (zset μM 0 0 (zi 0)) = _ from m_bad1 e00 (by decide) (by decide), bnd0_ok, if_neg (show ¬ zi 1 = (0 : Int32) from by decide)]; rfl
  · refine zPm_q h' (μX' := μX) (μM' := zset (zset μM 0 0 (zi 0)) 0 0 (zi 1)) (e := 1) (v := zi 0) (w := zi 0) ?_ ?_ zset_00 (fun h => absurd h (by decide)) (Or.inr (by decide)) zfr.refl zmq_00
    · unfold f8_need
      rw [x_needQN_no hX hx]; rfl
    · unfold f9_need
      rw [zlet_e, show zset μM 0 0 (0 : Int32) = zset μM 0 0 (zi 0) from rfl, m_badAsked_no hT hM0 e00 hx, bnd0_ok, zlet_e, if_neg (show ¬ zi 1 = (0 : Int32) from by decide)]; rfl
