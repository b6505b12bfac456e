/-! THE PURE SIDE, 72: FEW in the reference, AT MOST -/
theorem pth_first {E : Nat → Nat → Prop} {a : Nat} : ∀ n b, pth E a (n + 1) b → ∃ c, E a c ∧ pth E c n b
  | 0, b, ⟨c, h1, h2⟩ => by cases h1; exact ⟨b, h2, rfl⟩
  | n + 1, b, ⟨c, h1, h2⟩ => by
    obtain ⟨d, h3, h4⟩ := pth_first n c h1
    exact ⟨d, h3, c, h4, h2⟩
theorem pth_fun {E : Nat → Nat → Prop} {a : Nat} : ∀ n b, pth E a n b → ∃ s : Nat → Nat, s 0 = a ∧ s n = b ∧ ∀ i, i < n → E (s i) (s (i + 1))
  | 0, b, h => by cases h; exact ⟨fun _ => a, rfl, rfl, fun i hi => absurd hi (by omega)⟩
  | n + 1, b, ⟨c, h1, h2⟩ => by
    obtain ⟨s, k1, k2, k3⟩ := pth_fun n c h1
    refine ⟨fun i => if i = n + 1 then b else s i, ?_, if_pos rfl, fun i hi => ?_⟩
    · show (if 0 = n + 1 then b else s 0) = a
      rw [if_neg (by omega)]; exact k1
    · show E (if i = n + 1 then b else s i) (if i + 1 = n + 1 then b else s (i + 1))
      rw [if_neg (by omega)]
      by_cases e : i = n
      · rw [if_pos (by omega), e, k2]; exact h2
      · rw [if_neg (by omega)]; exact k3 i (by omega)
theorem fun_pth {E : Nat → Nat → Prop} {s : Nat → Nat} {i : Nat} : ∀ k, (∀ j, i ≤ j → j < i + k → E (s j) (s (j + 1))) → pth E (s i) k (s (i + k))
  | 0, _ => rfl
  | k + 1, h => ⟨s (i + k), fun_pth k (fun j h1 h2 => h j h1 (by omega)), h (i + k) (by omega) (by omega)⟩
theorem cyc {E : Nat → Nat → Prop} {v L : Nat} (hL : 0 < L) (h : pth E v L v) : ∀ n, ∃ w, pth E v n w := by
  have rep : ∀ k, pth E v (L * k) v := by
    intro k
    induction k with
    | zero => exact rfl
    | succ k ih => rw [Nat.mul_succ]; exact pth_add ih L v h
  intro n
  have h1 := rep n
  have h2 : n ≤ L * n := Nat.le_mul_of_pos_left n hL
  rw [show L * n = n + (L * n - n) by omega] at h1
  exact pth_pre _ _ h1
theorem inf_back {E : Nat → Nat → Prop} {a b L : Nat} (h : pth E a L b) (hb : ∀ n, ∃ w, pth E b n w) : ∀ n, ∃ w, pth E a n w := fun n => by
  obtain ⟨w, hw⟩ := hb n
  have := pth_add h n w hw
  rw [Nat.add_comm] at this
  exact pth_pre _ _ this
theorem long_inf {E : Nat → Nat → Prop} (hlt : ∀ u w, E u w → w < 6561) {a b : Nat} (ha : a < 6561) (h : pth E a 6561 b) : ∀ n, ∃ v, pth E a n v := by
  obtain ⟨s, h1, h2, h3⟩ := pth_fun _ _ h
  have hs : ∀ j, j < 6562 → s j < 6561 := fun j hj => by
    by_cases e : j = 0
    · rw [e, h1]; exact ha
    · have := h3 (j - 1) (by omega)
      rw [show j - 1 + 1 = j by omega] at this
      exact hlt _ _ this
  have hni : ¬ inj s 6562 := fun hi => by
    have k1 := nsum_list (Q := s) (f := fun _ => 1) (N := 6561) 6562 hi hs
    have k2 : nsum (fun t => if inq s 6562 t = true then 1 else 0) 6561 ≤ 1 * 6561 := nsum_le (c := 1) 6561 (fun t _ => by split <;> omega)
    rw [one] at k1
    omega
  have hex : ∃ i j, i < j ∧ j < 6562 ∧ s i = s j := by
    apply Classical.byContradiction
    intro hno
    apply hni
    intro j j' hj hj' e
    rcases Nat.lt_trichotomy j j' with c | c | c
    · exact absurd ⟨j, j', c, hj', e⟩ hno
    · exact c
    · exact absurd ⟨j', j, c, hj, e.symm⟩ hno
  obtain ⟨i, j, hij, hj, e⟩ := hex
  have p1 := fun_pth (E := E) (s := s) (i := 0) i (fun k _ hk => h3 k (by omega))
  rw [h1, Nat.zero_add] at p1
  have p2 := fun_pth (E := E) (s := s) (i := i) (j - i) (fun k _ hk => h3 k (by omega))
  rw [show i + (j - i) = j by omega, ← e] at p2
  exact inf_back p1 (cyc (by omega) p2)
theorem moC_lt {E : Nat → Nat → Prop} (hlt : ∀ u w, E u w → w < 6561) {a : Nat} (ha : a < 6561) {x : Int32} (h : moC E a x) : (x = zN1 ∧ ∀ n, ∃ v, pth E a n v) ∨ ∃ L v, L < 6561 ∧ x = zi L ∧ pth E a L v ∧ ∀ L' v', pth E a L' v' → L' ≤ L := by
  rcases h with h | ⟨L, v, h1, h2, h3⟩
  · exact Or.inl h
  · by_cases c : L < 6561
    · exact Or.inr ⟨L, v, c, h1, h2, h3⟩
    · exfalso
      have hex : ∀ k, k ≤ L → ∃ b, pth E a k b := fun k hk => by
        rw [show L = k + (L - k) by omega] at h2
        exact pth_pre _ _ h2
      obtain ⟨b, hb⟩ := hex 6561 (by omega)
      obtain ⟨w, hw⟩ := long_inf hlt ha hb (L + 1)
      have := h3 _ w hw
      omega
def mD9 (sn : Nat → Nat) (mb : Nat → Int32) (μ : zMem) : Prop := ∀ v, v < 6561 → μ 1130 v = zi (sn v) ∧ (sn v = 2 → μ 1131 v = mb v)
/-- what a visit leaves -/
def mV9 (T W : zN2) (pm : Nat → Nat) (m q : Nat) (μ0 : zMem) (sn sn' : Nat → Nat) (mb' : Nat → Int32) (μ' : zMem) : Prop :=
  mD9 sn' mb' μ' ∧ (∀ s, sn' s ≤ 2) ∧ (∀ s, sn' s = 2 → moC (fE T W pm m) s (mb' s)) ∧ (∀ s, sn' s = 1 ↔ sn s = 1) ∧ (∀ s, sn s ≠ 0 → sn' s ≠ 0) ∧ rF9 (pm, m, q) μ0 μ'
theorem m_most41 {T W : zN2} {pm : Nat → Nat} {m q v : Nat} {μ0 : zMem} {sn1 : Nat → Nat} {mb1 : Nat → Int32} (hT : TB T) (hW : WB T W) (hg : 1 ≤ W 0 2) (hm : m ≤ 4) (hpm : pmOk T pm m) (hB : mB9 T W pm m μ0) (hq : q < T 2 0) (hv : v < 9 ^ m) (F : Int32 → Int32 → zMem → zRes)
    (hF : ∀ u sn mb μ, fE T W pm m v u → mV9 T W pm m q μ0 sn1 sn mb μ → ∃ x μ' sn' mb', F (zi u) (zi q) μ = some (0, x, μ') ∧ moC (fE T W pm m) u x ∧ mV9 T W pm m q μ0 sn1 sn' mb' μ')
    (K : Int32 → zMem → zRes) (μ1 : zMem) (h1 : mV9 T W pm m q μ0 sn1 sn1 mb1 μ1) :
    ∃ x μ' sn' mb', f9_mostFrom_L41 F (zi v) (zi q) K zF (zi 0) (zi 0) μ1 = K x μ' ∧ moC (fE T W pm m) v x ∧ mV9 T W pm m q μ0 sn1 sn' mb' μ' := by
  have h9 := pow9 hm
  have hlt : ∀ u w, fE T W pm m u w → w < 6561 := fun u w h => by
    obtain ⟨i, j, -, -, -, h⟩ := h
    rw [← h]; exact Nat.lt_of_lt_of_le fN_lt h9
  have h := zloopQ (L := fun n k (s : Int32 × zMem) => f9_mostFrom_L41 F (zi v) (zi q) K n s.1 (zi k) s.2) (N := 16)
    (fun r => ∃ x μ' sn' mb', r = K x μ' ∧ moC (fE T W pm m) v x ∧ mV9 T W pm m q μ0 sn1 sn' mb' μ')
    (fun k s => (∃ sn mb, mV9 T W pm m q μ0 sn1 sn mb s.2) ∧ ((∃ c, s.1 = zi c ∧ c < 6562 ∧ (∃ w, pth (fE T W pm m) v c w) ∧ ∀ k' u, k' < k → bh T W pm m k' v = some u → ∀ L w, pth (fE T W pm m) u L w → L + 1 ≤ c) ∨ (s.1 = zN1 ∧ ∀ n, ∃ w, pth (fE T W pm m) v n w)))
    (fun n s hI => by
      obtain ⟨⟨sn, mb, i1⟩, i2⟩ := hI
      refine ⟨s.1, s.2, sn, mb, ?_, ?_, i1⟩
      · show f9_mostFrom_L41 F (zi v) (zi q) K (n + 1) s.1 (zi 16) s.2 = _
        rw [f9_mostFrom_L41, if_pos (show (16 : Int32) ≤ zi 16 from Int32.le_refl _)]
      · rcases i2 with ⟨c, i3, -, ⟨w, i4⟩, i5⟩ | i2
        · refine Or.inr ⟨c, w, i3, i4, fun L' v' hp => ?_⟩
          cases L' with
          | zero => exact Nat.zero_le _
          | succ L' =>
            obtain ⟨u, hu, hp'⟩ := pth_first L' v' hp
            obtain ⟨k', k1, k2⟩ := (bh_E hT hm hg).2 hu
            exact i5 k' u k1 k2 L' v' hp'
        · exact Or.inl i2)
    (fun n k s hk hI => by
      obtain ⟨x3, μ⟩ := s
      obtain ⟨⟨sn, mb, i1⟩, i2⟩ := hI
      dsimp only at i1 i2
      have z1 : zi k + (1 : Int32) = zi (k + 1) := zi_add k 1
      have h16 : ¬ (16 : Int32) ≤ zi k := by rw [show (16 : Int32) = zi 16 from rfl, zi_le (by omega) (by omega)]; omega
      rcases i2 with ⟨c, rfl, i3, ⟨w, i4⟩, i5⟩ | ⟨rfl, i3⟩
      · right
        obtain ⟨μ2, a1, a2⟩ := m_behind (k := k) hT hW hm hpm (mB9_r hT i1.2.2.2.2.2 hB) hv hq hk
        have i1' : mV9 T W pm m q μ0 sn1 sn mb μ2 := by
          obtain ⟨p1, p2, p3, p4, p5, p6⟩ := i1
          refine ⟨fun v hv => ?_, p2, p3, p4, p5, p6.trans (rF9.t a2)⟩
          rw [a2.key (by omega), a2.key (by omega)]; exact p1 v hv
        have hq0 : f9_mostFrom_L41 F (zi v) (zi q) K (n + 1) (zi c) (zi k) μ = if oI (bh T W pm m k v) = (-1 : Int32) then f9_mostFrom_L41 F (zi v) (zi q) K n (zi c) (zi (k + 1)) μ2 else bnd0 (F (oI (bh T W pm m k v)) (zi q) μ2) (fun (v27 : Int32) (μ28 : zMem) => if v27 = (-1 : Int32) then f9_mostFrom_L41 F (zi v) (zi q) K n (-1 : Int32) (zi (k + 1)) μ28 else bnd0 (f9_more (zi c) (v27 + (1 : Int32)) μ28) (fun (v34 : Int32) (μ35 : zMem) => f9_mostFrom_L41 F (zi v) (zi q) K n v34 (zi (k + 1)) μ35)) := by
          rw [f9_mostFrom_L41, if_neg h16, if_neg (show ¬ zi c = (-1 : Int32) from by rw [zneg1, zi_nN1 (by omega)]; exact fun q => q), a1, bnd0_ok, zlet_e, z1]
          rfl
        show ∃ s', f9_mostFrom_L41 F (zi v) (zi q) K (n + 1) (zi c) (zi k) μ = _ ∧ _
        rw [hq0]
        cases hb : bh T W pm m k v with
        | none =>
          rw [if_pos (show oI none = (-1 : Int32) from rfl)]
          refine ⟨(zi c, μ2), rfl, ⟨sn, mb, i1'⟩, Or.inl ⟨c, rfl, i3, ⟨w, i4⟩, fun k' u hk' hu => ?_⟩⟩
          by_cases e : k' = k
          · rw [e, hb] at hu; cases hu
          · exact i5 k' u (by omega) hu
        | some u =>
          have hu9 := bh_lt hb
          have hE : fE T W pm m v u := (bh_E hT hm hg).1 ⟨k, hk, hb⟩
          rw [if_neg (show ¬ oI (some u) = (-1 : Int32) from by show ¬ zi u = zN1; rw [zi_nN1 (by omega)]; exact fun q => q)]
          obtain ⟨x, μ3, sn3, mb3, b1, b2, b3⟩ := hF u sn mb μ2 hE i1'
          rw [show oI (some u) = zi u from rfl, b1, bnd0_ok]
          rcases moC_lt hlt (show u < 6561 by omega) b2 with ⟨rfl, hinf⟩ | ⟨L, w', hL, rfl, hp, hmax⟩
          · rw [if_pos (show zN1 = (-1 : Int32) from rfl)]
            exact ⟨(zN1, μ3), rfl, ⟨sn3, mb3, b3⟩, Or.inr ⟨rfl, inf_back (show pth (fE T W pm m) v 1 u from ⟨v, rfl, hE⟩) hinf⟩⟩
          · rw [if_neg (show ¬ zi L = (-1 : Int32) from by rw [zneg1, zi_nN1 (by omega)]; exact fun q => q), show zi L + (1 : Int32) = zi (L + 1) from zi_add L 1, m_more (by omega) (by omega), bnd0_ok]
            refine ⟨(zi (max c (L + 1)), μ3), rfl, ⟨sn3, mb3, b3⟩, Or.inl ⟨max c (L + 1), rfl, by omega, ?_, fun k' u' hk' hu' L'' w'' hp'' => ?_⟩⟩
            · by_cases cc : L + 1 ≤ c
              · rw [Nat.max_eq_left cc]; exact ⟨w, i4⟩
              · rw [Nat.max_eq_right (by omega)]
                have := pth_add (show pth (fE T W pm m) v 1 u from ⟨v, rfl, hE⟩) L w' hp
                rw [Nat.add_comm] at this
                exact ⟨w', this⟩
            · by_cases e : k' = k
              · rw [e, hb] at hu'
                injection hu' with hu'
                subst hu'
                have := hmax L'' w'' hp''
                omega
              · have := i5 k' u' (by omega) hu' L'' w'' hp''
                omega
      · left
        refine ⟨zN1, μ, sn, mb, ?_, Or.inl ⟨rfl, i3⟩, i1⟩
        show f9_mostFrom_L41 F (zi v) (zi q) K (n + 1) zN1 (zi k) μ = _
        rw [f9_mostFrom_L41, if_neg h16, if_pos (show zN1 = (-1 : Int32) from rfl)])
    16 0 (zi 0, μ1) zF (by omega) (by unfold zF; omega) ⟨⟨sn1, mb1, h1⟩, Or.inl ⟨0, rfl, by omega, ⟨v, rfl⟩, fun k' u hk' => absurd hk' (by omega)⟩⟩
  exact h
theorem m_mostFrom {T W : zN2} {pm : Nat → Nat} {m q st : Nat} {μ0 : zMem} (hT : TB T) (hW : WB T W) (hg : 1 ≤ W 0 2) (hm : m ≤ 4) (hpm : pmOk T pm m) (hB : mB9 T W pm m μ0) (hq : q < T 2 0) (hst : st < 9 ^ m) (Kf : (Nat → Nat) → Nat → Nat) (hK1 : ∀ sn v, 1 ≤ Kf sn v)
    (hKs : ∀ sn sn' v u L, pth (fE T W pm m) st L v → sn v = 0 → sn' v ≠ 0 → (∀ s, sn s ≠ 0 → sn' s ≠ 0) → fE T W pm m v u → Kf sn' u < Kf sn v) :
    ∀ N v sn mb μ L, Kf sn v ≤ N → pth (fE T W pm m) st L v → mD9 sn mb μ → (∀ s, sn s ≤ 2) → (∀ s, sn s = 2 → moC (fE T W pm m) s (mb s)) → (∀ s, sn s = 1 → ∃ L, 0 < L ∧ pth (fE T W pm m) s L v) → rF9 (pm, m, q) μ0 μ →
    ∃ x μ' sn' mb', f9_mostFrom N (zi v) (zi q) μ = some (0, x, μ') ∧ moC (fE T W pm m) v x ∧ mV9 T W pm m q μ0 sn sn' mb' μ' := by
  have h9 := pow9 hm
  intro N
  induction N with
  | zero => intro v sn mb μ L hN; have := hK1 sn v; omega
  | succ N ih =>
    intro v sn mb μ L hN hp hD h2 hdone hstk hr
    have hv9 := pth_lt9 hst _ _ hp
    have hv6 : v < 6561 := by omega
    have hzv : ∀ A, zin (zi v) 6561 A = A := fun A => zin_i hv6 (by omega)
    have hcv : (zi v).toNatClampNeg = v := zi_cl (by omega)
    have sv := h2 v
    rw [f9_mostFrom, f9_mostFromB, hzv, hcv, (hD v hv6).1]
    by_cases c1 : sn v = 1
    · rw [if_pos (show zi (sn v) = (1 : Int32) from by rw [c1]; rfl)]
      obtain ⟨L', l1, l2⟩ := hstk v c1
      exact ⟨zN1, μ, sn, mb, rfl, Or.inl ⟨rfl, cyc l1 l2⟩, hD, h2, hdone, fun s => Iff.rfl, fun s hs => hs, hr⟩
    · rw [if_neg (show ¬ zi (sn v) = (1 : Int32) from by rw [show (1 : Int32) = zi 1 from rfl, zi_eq (by omega) (by omega)]; exact c1), hzv]
      by_cases c2 : sn v = 2
      · rw [if_pos (show zi (sn v) = (2 : Int32) from by rw [c2]; rfl), hzv, (hD v hv6).2 c2]
        exact ⟨mb v, μ, sn, mb, rfl, hdone v c2, hD, h2, hdone, fun s => Iff.rfl, fun s hs => hs, hr⟩
      · have c0 : sn v = 0 := by omega
        rw [if_neg (show ¬ zi (sn v) = (2 : Int32) from by rw [show (2 : Int32) = zi 2 from rfl, zi_eq (by omega) (by omega)]; exact c2), hzv, zlet_e, zlet_e]
        have sv1 : fup sn v 1 v = 1 := if_pos rfl
        have sn1 : ∀ s, s ≠ v → fup sn v 1 s = sn s := fun s hs => if_neg hs
        have hV1 : mV9 T W pm m q μ0 (fup sn v 1) (fup sn v 1) mb (zset μ 1130 v (zi 1)) := by
          refine ⟨fun s hs => ?_, fun s => ?_, fun s hs => ?_, fun s => Iff.rfl, fun s hs => hs, hr.set (by decide)⟩
          · by_cases e : s = v
            · rw [e, zset_eq, sv1]
              exact ⟨rfl, fun q => absurd q (by decide)⟩
            · rw [zset_nj e, zset_nk (by decide), sn1 s e]; exact hD s hs
          · by_cases e : s = v
            · rw [e, sv1]; decide
            · rw [sn1 s e]; exact h2 s
          · by_cases e : s = v
            · rw [e, sv1] at hs; exact absurd hs (by decide)
            · rw [sn1 s e] at hs; exact hdone s hs
        obtain ⟨x, μ', sn', mb', a1, a2, a3⟩ := m_most41 hT hW hg hm hpm hB hq hv9 (f9_mostFrom N) (fun u sn2 mb2 μ2 hE hV => by
          obtain ⟨v1, v2, v3, v4, v5, v6⟩ := hV
          have hKu := hKs sn sn2 v u L hp c0 (v5 v (by rw [sv1]; decide)) (fun s hs => v5 s (by
            by_cases e : s = v
            · rw [e, sv1]; decide
            · rw [sn1 s e]; exact hs)) hE
          obtain ⟨x, μ', sn', mb', b1, b2, b3, b4, b5, b6, b7, b8⟩ := ih u sn2 mb2 μ2 (L + 1) (by omega) ⟨v, hp, hE⟩ v1 v2 v3 (fun s hs => by
            have hs1 := (v4 s).1 hs
            by_cases e : s = v
            · rw [e]; exact ⟨1, by decide, v, rfl, hE⟩
            · rw [sn1 s e] at hs1
              obtain ⟨L', l1, l2⟩ := hstk s hs1
              exact ⟨L' + 1, by omega, v, l2, hE⟩) v6
          exact ⟨x, μ', sn', mb', b1, b2, b3, b4, b5, fun s => (b6 s).trans (v4 s), fun s hs => b7 s (v5 s hs), b8⟩) (fun (x3_36 : Int32) (μ37 : zMem) => (fun (x3_9 : Int32) (μ10 : zMem) => zin (zi v) 6561 (zlet (zset μ10 1130 v (2 : Int32)) (fun (μ12 : zMem) => zin (zi v) 6561 (zlet (zset μ12 1131 v x3_9) (fun (μ14 : zMem) => some (0, x3_9, μ14)))))) x3_36 μ37) (zset μ 1130 v (zi 1)) hV1
        obtain ⟨v1, v2, v3, v4, v5, v6⟩ := a3
        refine ⟨x, zset (zset μ' 1130 v (zi 2)) 1131 v x, fup sn' v 2, fun s => if s = v then x else mb' s, ?_, a2, fun s hs => ?_, fun s => ?_, fun s hs => ?_, fun s => ?_, fun s hs => ?_, (v6.set (by decide)).set (by decide)⟩
        · refine a1.trans ?_
          show zin (zi v) 6561 _ = _
          rw [hzv, zlet_e, hzv, zlet_e]; rfl
        · by_cases e : s = v
          · rw [e, zset_nk (by decide), zset_eq, zset_eq]
            exact ⟨by rw [show fup sn' v 2 v = 2 from if_pos rfl], fun _ => (if_pos rfl).symm⟩
          · rw [zset_nk (by decide), zset_nj e, zset_nj e, zset_nk (by decide), show fup sn' v 2 s = sn' s from if_neg e]
            refine ⟨(v1 s hs).1, fun q => ?_⟩
            show _ = (if s = v then x else mb' s)
            rw [if_neg e]; exact (v1 s hs).2 q
        · show (if s = v then 2 else sn' s) ≤ 2
          have := v2 s
          split <;> omega
        · show moC (fE T W pm m) s (if s = v then x else mb' s)
          by_cases e : s = v
          · rw [if_pos e, e]; exact a2
          · rw [if_neg e]
            rw [show fup sn' v 2 s = sn' s from if_neg e] at hs
            exact v3 s hs
        · by_cases e : s = v
          · rw [e, show fup sn' v 2 v = 2 from if_pos rfl, c0]
            exact ⟨fun q => absurd q (by decide), fun q => absurd q (by decide)⟩
          · rw [show fup sn' v 2 s = sn' s from if_neg e, v4 s, sn1 s e]
        · by_cases e : s = v
          · rw [e, show fup sn' v 2 v = 2 from if_pos rfl]; decide
          · rw [show fup sn' v 2 s = sn' s from if_neg e]
            exact v5 s (by rw [sn1 s e]; exact hs)
