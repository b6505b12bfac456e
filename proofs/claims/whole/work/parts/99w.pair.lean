/-! THE PURE SIDE, 62: pair -/
theorem m_pairs24 {T W : zN2} {s d u : Nat} {μ : zMem} (hT : TB T) (hW : WB T W) (hP : W 0 3 = T 2 1) (hM : MT T μ) (hS : MS T W μ) (hs : s < 1024) (hd : d < T 2 2) (hu : u < 2 ^ T 2 1) (hb : s.testBit d = true) (hneg : μ 1126 d = zN1) (hex : ∃ a b, fp T W s (T 2 2 - (d + 1)) d (cpl (T 2 1) u) a b) (K : zMem → zRes) :
    ∃ a b, isF T W s (T 2 2 - (d + 1)) d (cpl (T 2 1) u) a b ∧ f9_findPairs_L24 (zi s) (zi u) (zi d) K zF (zi 0) μ = K (zset μ 1126 d (zi (10 * a + b))) := by
  have hPP := hT.2.1
  have hD := hT.2.2.1
  obtain ⟨hp1, hp2⟩ := pow_p hT
  have z1' : ∀ A, zin (1 : Int32) 6 A = A := fun A => zin_i (i := 1) (by decide) (by decide)
  have n1 : (1 : Int32).toNatClampNeg = 1 := by decide
  have zd1 : zi d + (1 : Int32) = zi (d + 1) := zi_add d 1
  have hzd : ∀ A, zin (zi d) 10 A = A := fun A => zin_i (by omega) (by omega)
  have hcd : (zi d).toNatClampNeg = d := zi_cl (by omega)
  have hbit : (zshr (zi s) (zi d) &&& (1 : Int32) = (1 : Int32)) = (s.testBit d = true) := zbit1 (by omega) (by omega)
  have h := zloopQ (L := fun n i (x : zMem) => f9_findPairs_L24 (zi s) (zi u) (zi d) K n (zi i) x) (N := 64)
    (fun r => ∃ a b, isF T W s (T 2 2 - (d + 1)) d (cpl (T 2 1) u) a b ∧ r = K (zset μ 1126 d (zi (10 * a + b))))
    (fun i x => (x = μ ∧ ∀ a b, fp T W s (T 2 2 - (d + 1)) d (cpl (T 2 1) u) a b → i ≤ 8 * a + b) ∨ ∃ a b, isF T W s (T 2 2 - (d + 1)) d (cpl (T 2 1) u) a b ∧ x = zset μ 1126 d (zi (10 * a + b)))
    (fun n x hx => by
      rcases hx with ⟨-, hx⟩ | ⟨a, b, h1, h2⟩
      · obtain ⟨a, b, q⟩ := hex
        have := hx a b q
        have := q.1.1.1
        have := q.1.1.2.1
        omega
      · refine ⟨a, b, h1, ?_⟩
        show f9_findPairs_L24 (zi s) (zi u) (zi d) K (n + 1) (zi 64) x = _
        rw [f9_findPairs_L24, if_pos (show (64 : Int32) ≤ zi 64 from Int32.le_refl _), h2])
    (fun n i x hi hx => by
      have z1 : zi i + (1 : Int32) = zi (i + 1) := zi_add i 1
      have h64 : ¬ (64 : Int32) ≤ zi i := by rw [show (64 : Int32) = zi 64 from rfl, zi_le (by omega) (by omega)]; omega
      rcases hx with ⟨rfl, hx⟩ | ⟨a, b, h1, h2⟩
      · right
        have e8 : zi i / (8 : Int32) = zi (i / 8) := zi_div (b := 8) (by omega) (by decide)
        have r8 : zrem (zi i) (8 : Int32) = zi (i % 8) := zrem_i (b := 8) (by omega) (by decide)
        have et : zshl (1 : Int32) (zi (i / 8)) ||| zshl (1 : Int32) (zi (i % 8)) = zi (2 ^ (i / 8) ||| 2 ^ (i % 8)) := by
          rw [show zshl (1 : Int32) (zi (i / 8)) = zi (2 ^ (i / 8)) from zshl1 (by omega), show zshl (1 : Int32) (zi (i % 8)) = zi (2 ^ (i % 8)) from zshl1 (by omega), zi_or]
        have hand : u &&& (2 ^ (i / 8) ||| 2 ^ (i % 8)) ≤ u := Nat.and_le_left
        have hq : ∀ A, f9_findPairs_L24 (zi s) (zi u) (zi d) K (n + 1) (zi i) x = A ↔ (if zi (i % 8) ≤ zi (i / 8) then f9_findPairs_L24 (zi s) (zi u) (zi d) K n (zi (i + 1)) x else if zi (T 2 1) ≤ zi (i % 8) then f9_findPairs_L24 (zi s) (zi u) (zi d) K n (zi (i + 1)) x else if zi (u &&& (2 ^ (i / 8) ||| 2 ^ (i % 8))) = 0 then bnd0 (f9_canBe (zi d) (zi (i / 8)) (zi (i % 8)) x) (fun (v35 : Int32) (μ36 : zMem) => if v35 = 0 then f9_findPairs_L24 (zi s) (zi u) (zi d) K n (zi (i + 1)) μ36 else bnd0 (f9_canAll 12 (zi s) (zi (d + 1)) (zi (u ||| (2 ^ (i / 8) ||| 2 ^ (i % 8)))) μ36) (fun (v39 : Int32) (μ40 : zMem) => if v39 = 0 then f9_findPairs_L24 (zi s) (zi u) (zi d) K n (zi (i + 1)) μ40 else zin (zi d) 10 (zlet (zset μ40 1126 d (((10 : Int32) * zi (i / 8)) + zi (i % 8))) (fun (μ44 : zMem) => f9_findPairs_L24 (zi s) (zi u) (zi d) K n (zi (i + 1)) μ44)))) else f9_findPairs_L24 (zi s) (zi u) (zi d) K n (zi (i + 1)) x) = A := fun A => by
          rw [f9_findPairs_L24, if_neg h64, if_pos (by rw [hbit]; exact hb), hzd, hcd, hneg, if_pos (show zN1 = (-1 : Int32) from rfl), zlet_e, zlet_e, zlet_e, zlet_e, e8, r8, et, z1', n1, hM.1.2.1, zi_and, zi_or, zd1, z1]
        have skip : ¬ (∃ a b, fp T W s (T 2 2 - (d + 1)) d (cpl (T 2 1) u) a b ∧ 8 * a + b = i) → ∃ s', f9_findPairs_L24 (zi s) (zi u) (zi d) K n (zi (i + 1)) x = f9_findPairs_L24 (zi s) (zi u) (zi d) K n (zi (i + 1)) s' ∧ ((s' = x ∧ ∀ a b, fp T W s (T 2 2 - (d + 1)) d (cpl (T 2 1) u) a b → i + 1 ≤ 8 * a + b) ∨ ∃ a b, isF T W s (T 2 2 - (d + 1)) d (cpl (T 2 1) u) a b ∧ s' = zset x 1126 d (zi (10 * a + b))) := fun hno => ⟨x, rfl, Or.inl ⟨rfl, fun a b hf => by
          have := hx a b hf
          have : 8 * a + b ≠ i := fun e => hno ⟨a, b, hf, e⟩
          omega⟩⟩
        show ∃ s', f9_findPairs_L24 (zi s) (zi u) (zi d) K (n + 1) (zi i) x = f9_findPairs_L24 (zi s) (zi u) (zi d) K n (zi (i + 1)) s' ∧ _
        have e0 := (hq _).2 rfl
        rw [e0]
        have code : ∀ a b, fp T W s (T 2 2 - (d + 1)) d (cpl (T 2 1) u) a b → 8 * a + b = i → a = i / 8 ∧ b = i % 8 := fun a b hf e => by
          have := hf.1.1.2.1
          omega
        by_cases c1 : i % 8 ≤ i / 8
        · rw [if_pos (by rw [zi_le (by omega) (by omega)]; exact c1)]
          exact skip (fun q => by
            obtain ⟨a, b, q1, q2⟩ := q
            have := code a b q1 q2
            have := q1.1.1.1
            omega)
        · rw [if_neg (by rw [zi_le (by omega) (by omega)]; exact c1)]
          by_cases c2 : T 2 1 ≤ i % 8
          · rw [if_pos (by rw [zi_le (by omega) (by omega)]; exact c2)]
            exact skip (fun q => by
              obtain ⟨a, b, q1, q2⟩ := q
              have := code a b q1 q2
              have := q1.1.1.2.1
              omega)
          · rw [if_neg (by rw [zi_le (by omega) (by omega)]; exact c2)]
            have dc := dis_cpl (P := T 2 1) (u := u) (a := i / 8) (b := i % 8) hu (by omega) (by omega)
            by_cases c3 : u &&& (2 ^ (i / 8) ||| 2 ^ (i % 8)) = 0
            · rw [if_pos (by rw [c3]; rfl), m_canBe hT hW hM hS hd (by omega) (by omega), bnd0_ok]
              by_cases c4 : tE T W d (i / 8) (i % 8) = 0
              · rw [if_pos c4, if_neg (show ¬ zi 1 = (0 : Int32) from by decide)]
                have hbits := dc.1 c3
                have ec := cpl_or hu (show i / 8 ≠ i % 8 by omega) hbits.1 hbits.2
                rcases m_canAll hT hW hP hM hS hs 12 (T 2 2 - (d + 1)) (d + 1) (u ||| (2 ^ (i / 8) ||| 2 ^ (i % 8))) (by omega) (by omega) (Nat.or_lt_two_pow hu (two_lt (by omega) (by omega))) with ⟨k1, k2⟩ | ⟨k1, k2⟩
                · rw [k2, bnd0_ok, if_pos (show zi 0 = (0 : Int32) from rfl)]
                  exact skip (fun q => by
                    obtain ⟨a, b, q1, q2⟩ := q
                    obtain ⟨e1, e2⟩ := code a b q1 q2
                    rw [e1, e2] at q1
                    exact k1 (by rw [ec]; exact q1.2))
                · rw [k2, bnd0_ok, if_neg (show ¬ zi 1 = (0 : Int32) from by decide), hzd, zlet_e, show (10 : Int32) = zi 10 from rfl, zi_mul, zi_add]
                  refine ⟨_, rfl, Or.inr ⟨i / 8, i % 8, ⟨⟨⟨⟨by omega, by omega, c4⟩, hbits⟩, by rw [← ec]; exact k1⟩, fun a' b' hf => ?_⟩, rfl⟩⟩
                  have k3 := hx a' b' hf
                  have k4 := hf.1.1.2.1
                  omega
              · rw [if_neg c4, if_pos (show zi 0 = (0 : Int32) from rfl)]
                exact skip (fun q => by
                  obtain ⟨a, b, q1, q2⟩ := q
                  obtain ⟨e1, e2⟩ := code a b q1 q2
                  rw [e1, e2] at q1
                  exact c4 q1.1.1.2.2)
            · rw [if_neg (show ¬ zi (u &&& (2 ^ (i / 8) ||| 2 ^ (i % 8))) = (0 : Int32) from by rw [show (0 : Int32) = zi 0 from rfl, zi_eq (by omega) (by omega)]; exact c3)]
              exact skip (fun q => by
                obtain ⟨a, b, q1, q2⟩ := q
                obtain ⟨e1, e2⟩ := code a b q1 q2
                rw [e1, e2] at q1
                exact c3 (dc.2 q1.1.2))
      · left
        refine ⟨a, b, h1, ?_⟩
        have k4 := h1.1.1.1.2.1
        have k5 := h1.1.1.1.1
        show f9_findPairs_L24 (zi s) (zi u) (zi d) K (n + 1) (zi i) x = _
        rw [f9_findPairs_L24, if_neg h64, if_pos (by rw [hbit]; exact hb), hzd, hcd, h2, zset_eq, if_neg (show ¬ zi (10 * a + b) = (-1 : Int32) from by rw [zneg1, zi_nN1 (by omega)]; exact fun q => q)])
    64 0 μ zF (by omega) (by unfold zF; omega) (Or.inl ⟨rfl, fun a b _ => Nat.zero_le _⟩)
  exact h
theorem MT_1126 {T : zN2} {μ μ' : zMem} (h : zfr (fun k => k = 1126) μ μ') (hT : TB T) (hM : MT T μ) : MT T μ' :=
  MT_fr h (by omega) (by omega) (by omega) (fun p _ => by omega) (fun d _ => by omega) hT hM
theorem MS_1126 {T W : zN2} {μ μ' : zMem} (h : zfr (fun k => k = 1126) μ μ') (hT : TB T) (hW : WB T W) (hS : MS T W μ) : MS T W μ' :=
  MS_at (congrFun (h 0 (by omega)) 20) (congrFun (h 0 (by omega)) 30) (congrFun (h 4 (by omega)) 3) (h 91 (by omega)) (h 92 (by omega)) (fun p _ => h (51 + p) (by omega)) (fun p _ => congrFun (h (15 + p) (by omega)) 4) hT hW hS
theorem m_findPairs {T W : zN2} {s : Nat} {c : Nat → Nat} {μ : zMem} (hT : TB T) (hW : WB T W) (hP : W 0 3 = T 2 1) (hM : MT T μ) (hS : MS T W μ) (hs : s < 1024) (hc : sA T W s (T 2 2) 0 (2 ^ T 2 1 - 1) c) :
    ∃ μ', f9_findPairs (zi s) μ = some (0, zi 0, μ') ∧ (∀ e, e < T 2 2 → μ' 1126 e = if s.testBit e = true then zi (c e) else zN1) ∧ zfr (fun k => k = 1126) μ μ' := by
  have hPP := hT.2.1
  have hD := hT.2.2.1
  obtain ⟨hp1, hp2⟩ := pow_p hT
  have z2' : ∀ A, zin (2 : Int32) 6 A = A := fun A => zin_i (i := 2) (by decide) (by decide)
  have n2 : (2 : Int32).toNatClampNeg = 2 := by decide
  obtain ⟨⟨y, μ'⟩, e1, u, e2, e3, e4, e5, e6⟩ := zloopE (L := fun n i (q : Int32 × zMem) => f9_findPairs_L4 (zi s) (fun (μ46 : zMem) => some (0, 0, μ46)) n q.1 (zi i) q.2) (N := T 2 2) (o := fun q => some (0, 0, q.2))
    (fun i q => ∃ u, u < 2 ^ T 2 1 ∧ q.1 = zi u ∧ sA T W s (T 2 2 - i) i (cpl (T 2 1) u) c ∧ (∀ e, e < i → q.2 1126 e = if s.testBit e = true then zi (c e) else zN1) ∧ zfr (fun k => k = 1126) μ q.2)
    (fun n q hq => by
      obtain ⟨u, h1, h2, h3, h4, h5⟩ := hq
      show f9_findPairs_L4 (zi s) _ (n + 1) q.1 (zi (T 2 2)) q.2 = _
      rw [f9_findPairs_L4, z2', n2, h5 4 (by decide), hM.1.2.2.1, if_pos (Int32.le_refl _)])
    (fun n i q hi hq => by
      obtain ⟨y, μ1⟩ := q
      obtain ⟨u, h1, h2, h3, h4, h5⟩ := hq
      dsimp only at h2 h4 h5
      subst h2
      have z1 : zi i + (1 : Int32) = zi (i + 1) := zi_add i 1
      have hzi : ∀ A, zin (zi i) 10 A = A := fun A => zin_i (by omega) (by omega)
      have hci : (zi i).toNatClampNeg = i := zi_cl (by omega)
      have f1 : zfr (fun k => k = 1126) μ (zset μ1 1126 i zN1) := h5.set rfl
      have hM1 := MT_1126 f1 hT hM
      have hS1 := MS_1126 f1 hT hW hS
      rw [show T 2 2 - i = (T 2 2 - (i + 1)) + 1 by omega] at h3
      have h3' : (if s.testBit i = true then ∃ a b, c i = 10 * a + b ∧ isF T W s (T 2 2 - (i + 1)) i (cpl (T 2 1) u) a b ∧ sA T W s (T 2 2 - (i + 1)) (i + 1) (wo2 (cpl (T 2 1) u) a b) c else sA T W s (T 2 2 - (i + 1)) (i + 1) (cpl (T 2 1) u) c) := h3
      have hle : ¬ zi (T 2 2) ≤ zi i := by rw [zi_le (by omega) (by omega)]; omega
      by_cases cb : s.testBit i = true
      · rw [if_pos cb] at h3'
        obtain ⟨a, b, k1, k2, k3⟩ := h3'
        obtain ⟨a', b', j1, j2⟩ := m_pairs24 hT hW hP hM1 hS1 hs hi h1 cb zset_eq ⟨a, b, k2.1⟩ (fun (μ6 : zMem) => zin (zi i) 10 (zlet (fun (x2_8 : Int32) => f9_findPairs_L4 (zi s) (fun (μ46 : zMem) => some (0, 0, μ46)) n x2_8 (zi (i + 1)) μ6) (fun j9 => if (μ6 1126 i) = (-1 : Int32) then j9 (zi u) else zin (zi i) 10 (zin (zi i) 10 (zlet (zi u ||| ((zshl (1 : Int32) ((μ6 1126 i) / (10 : Int32))) ||| (zshl (1 : Int32) (zrem (μ6 1126 i) (10 : Int32))))) (fun (v14 : Int32) => j9 v14))))))
        obtain ⟨ea, eb⟩ := isF_eq hW j1 k2
        subst ea eb
        have b1 := j1.1.1.1.1
        have b2 := j1.1.1.1.2.1
        have fb := j1.1.1.2
        refine ⟨(zi (u ||| (2 ^ a' ||| 2 ^ b')), zset (zset μ1 1126 i zN1) 1126 i (zi (10 * a' + b'))), ?_, u ||| (2 ^ a' ||| 2 ^ b'), Nat.or_lt_two_pow h1 (two_lt (by omega) (by omega)), rfl, ?_, fun e he => ?_, f1.set rfl⟩
        · show f9_findPairs_L4 (zi s) _ (n + 1) (zi u) (zi i) μ1 = _
          rw [f9_findPairs_L4, z2', n2, h5 4 (by decide), hM.1.2.2.1, if_neg hle, hzi, hci, zlet_e, zlet_e, z1]
          refine j2.trans ?_
          show zin (zi i) 10 _ = _
          rw [hzi, zlet_e, zset_eq, if_neg (show ¬ zi (10 * a' + b') = (-1 : Int32) from by rw [zneg1, zi_nN1 (by omega)]; exact fun q => q), hzi, hzi, zlet_e]
          rw [show zi (10 * a' + b') / (10 : Int32) = zi a' from by rw [show (10 : Int32) = zi 10 from rfl, zi_div (by omega) (by decide)]; congr 1; omega, show zrem (zi (10 * a' + b')) (10 : Int32) = zi b' from by rw [show (10 : Int32) = zi 10 from rfl, zrem_i (by omega) (by decide)]; congr 1; omega]
          rw [show zshl (1 : Int32) (zi a') = zi (2 ^ a') from zshl1 (by omega), show zshl (1 : Int32) (zi b') = zi (2 ^ b') from zshl1 (by omega), zi_or, zi_or]
        · rw [cpl_or h1 (show a' ≠ b' by omega) fb.1 fb.2]; exact k3
        · show zset (zset μ1 1126 i zN1) 1126 i (zi (10 * a' + b')) 1126 e = _
          by_cases ee : e = i
          · rw [ee, zset_eq, if_pos cb, k1]
          · rw [zset_nj ee, zset_nj ee]; exact h4 e (by omega)
      · rw [if_neg cb] at h3'
        refine ⟨(zi u, zset μ1 1126 i zN1), ?_, u, h1, rfl, h3', fun e he => ?_, f1⟩
        · show f9_findPairs_L4 (zi s) _ (n + 1) (zi u) (zi i) μ1 = _
          rw [f9_findPairs_L4, z2', n2, h5 4 (by decide), hM.1.2.2.1, if_neg hle, hzi, hci, zlet_e, zlet_e, z1]
          have hbit : (zshr (zi s) (zi i) &&& (1 : Int32) = (1 : Int32)) = (s.testBit i = true) := zbit1 (by omega) (by omega)
          rw [show zF = 999999 + 1 from rfl, f9_findPairs_L24, if_neg (show ¬ (64 : Int32) ≤ (0 : Int32) from by decide), if_neg (by rw [hbit]; exact cb)]
          show zin (zi i) 10 _ = _
          rw [hzi, zlet_e, show (-1 : Int32) = zN1 from rfl, zset_eq, if_pos rfl]
        · show zset μ1 1126 i zN1 1126 e = _
          by_cases ee : e = i
          · rw [ee, zset_eq, if_neg cb]
          · rw [zset_nj ee]; exact h4 e (by omega))
    (T 2 2) 0 (zi 0, μ) zF (by omega) (by unfold zF; omega) ⟨0, hp2, rfl, by
      rw [Nat.sub_zero]
      rw [show cpl (T 2 1) 0 = 2 ^ T 2 1 - 1 from Nat.xor_zero _]; exact hc, fun e he => absurd he (by omega), fun _ _ => rfl⟩
  exact ⟨μ', e1, e5, e6⟩
def fPB (x1 x2 v18 : Int32) (μ17 : zMem) (s19 : Int32) : zRes := zlet (zset μ17 0 30 s19) (fun (μ20 : zMem) => bnd0 (f9_findPairs (μ20 0 35) μ20) (fun (v21 : Int32) (μ22 : zMem) => zlet (zset μ22 0 30 v18) (fun (μ23 : zMem) => zin x2 10 (some (0, μ23 1126 x2.toNatClampNeg, μ23)))))
theorem P_pair {x y : Int32} {μX μM : zMem} (h : zInv μX μM) : zPm cIB (f8_pair x y μX) (f9_pair x y μM) := by
  have h' := h
  obtain ⟨T, W, r, R, n, m, WI, rI, RI, ⟨hT, hW, hL, hX, hM, hS, hS', h30, hB, hR, hR'⟩, ht, hf, hi⟩ := h
  have hPP := hT.2.1
  have hD := hT.2.2.1
  obtain ⟨hp1, hp2⟩ := pow_p hT
  have hM0 := MT_0 (v := zi 0) hT hM
  have hS0 := MS_0 (v := zi 0) hT hW hS'
  have e00 : zset μM 0 0 (zi 0) 0 0 = zi 0 := zset_00
  have e30 : zset μM 0 0 (zi 0) 0 30 = zN1 := by rw [zset_nj (by decide)]; exact h30
  have z1' : ∀ A, zin (1 : Int32) 6 A = A := fun A => zin_i (i := 1) (by decide) (by decide)
  have n1 : (1 : Int32).toNatClampNeg = 1 := by decide
  rcases qcase (W := W) hT x with ⟨W', hq⟩ | hx
  · rcases zcase y (T 2 2) (by omega) with ⟨d, hd, rfl⟩ | hy
    · have hW' := qOk_wb hW hq
      have eP : W' 0 3 = T 2 1 := (qOk_0 hq 0 3 (by omega)).trans hL.2.2.1
      have htd := td_lt (W := W') hT
      obtain ⟨μ1, a1, a2, a3, a4⟩ := x_planToday hT hW hX hS hq
      have hX1 : XT T μ1 := XT_of (fun key hk => a4 key (by unfold pz; omega)) hX
      have g52 : zfr (fun k => k = 53) μ1 (zfil μ1 53 10 zN1) := fun k hk => zfil_nk hk
      have hX2 : XT T (zfil μ1 53 10 zN1) := XT_of (fun key hk => zfil_nk (by omega)) hX1
      have hV2 : xV T W' (T 2 2) (zfil μ1 53 10 zN1) := by
        unfold xV xTw
        rw [zfil_nk (by decide), zfil_nk (by decide), zfil_nk (by decide), zfil_nk (by decide)]; exact a2
      have hO := td_sO (W := W') hT
      obtain ⟨μ2, c, c1, c2, c3⟩ : ∃ μ' c, f2_seat 12 (zi (tdS T W')) (zi (2 ^ W' 0 3 - 1)) (zi 0) (zfil μ1 53 10 zN1) = some (0, zi 1, μ') ∧ sA T W' (tdS T W') (T 2 2) 0 (2 ^ W' 0 3 - 1) c ∧ sM (tdS T W') (T 2 2) 0 c (zfil μ1 53 10 zN1) μ' := by
        rcases x_seat hT hW' htd.1 (T 2 2) 12 0 (2 ^ W' 0 3 - 1) (zfil μ1 53 10 zN1) (by omega) (by omega) (by have := Nat.two_pow_pos (W' 0 3); omega) hX2 hV2 with ⟨k1, -⟩ | ⟨-, k2⟩
        · exact absurd hO k1
        · exact k2
      obtain ⟨m1, b1, b2, b3, b4, b5⟩ := m_today hT hW' (x2 := x) (μ := zset μM 0 0 (zi 0)) rfl hM0 (ms_asked hT hW hS0 e30 hq)
      rw [eP] at b1
      have hM1 := MT_q (zmq_today b5).2.2 hT hM0
      have hS1 := MS_q (zmq_today b5) hT hW hS0
      have e31 : m1 0 30 = zN1 := (b5.2 30 (by decide)).trans e30
      have hMs := ms_asked hT hW hS1 e31 hq
      have hMt : MT T (zset m1 0 30 (if x = (-1 : Int32) then m1 0 30 else x)) := MT_at (fun j _ => by rw [zset_nk (by decide)]) (zset_nk (by decide)) (zset_nk (by decide)) (fun p _ => by rw [zset_nk (by omega)]) (fun d _ => zset_nk (by omega)) hT hM1
      rw [eP] at c2
      obtain ⟨m2, d1, d2, d3⟩ := m_findPairs hT hW' eP hMt hMs htd.1 c2
      have ff : mfr (fun j => j = 30 ∨ j = 34 ∨ j = 35) (fun k => 101 ≤ k ∧ k < 1127) (zset μM 0 0 (zi 0)) m2 := by
        refine ⟨fun k k1 k2 => ?_, fun j hj => ?_⟩
        · rw [d3 k (by omega), zset_nk k1, b5.1 k k1 (by omega)]
        · rw [d3 0 (by decide), zset_nj (by omega), b5.2 j (by omega)]
      refine zPm_q h' (μX' := μ2) (μM' := zset m2 0 30 (m1 0 30)) (e := 0) (v := if (tdS T W').testBit d = true then zi (c d) else zN1) (w := if (tdS T W').testBit d = true then zi (c d) else zN1) ?_ ?_ ?_ (fun _ => rfl) (Or.inl rfl) (pz_zsx (a4.trans ((g52.trans c3.2.2).mono (fun k hk => by unfold pz; omega)))) (zmq.trans (μ' := zset μM 0 0 (zi 0)) zmq_0 ?_)
      · unfold f8_pair
        rw [x_needQN_ok hT hX hq, bnd_ok, x_needD_ok hT hX hd, bnd_ok, a1, bnd0_ok]
        unfold f2_seatedAt
        rw [show (-1 : Int32) = zN1 from rfl, x_fill (by decide), bnd0_ok, x_doorsAtMost hT hW' hV2, bnd0_ok, hV2.1, show zshl (1 : Int32) (zi (W' 0 3)) = zi (2 ^ W' 0 3) from zshl1 (by omega), show zi (2 ^ W' 0 3) - (1 : Int32) = zi (2 ^ W' 0 3 - 1) from zi_sub (b := 1) (by have := Nat.two_pow_pos (W' 0 3); omega)]
        rw [show f2_seat 12 (zi (tdS T W')) (zi (2 ^ W' 0 3 - 1)) (0 : Int32) (zfil μ1 53 10 zN1) = _ from c1, bnd0_ok, zin_i (by omega) (by omega), bnd0_ok, zi_cl (by omega)]
        by_cases cb : (tdS T W').testBit d = true
        · rw [if_pos cb, c3.1 d (by omega) hd cb]
        · rw [if_neg cb, c3.2.1 d (Or.inr ((Bool.not_eq_true _).mp cb)), zfil_at, if_pos ⟨rfl, by omega⟩]
      · unfold f9_pair
        rw [zlet_e, show zset μM 0 0 (0 : Int32) = zset μM 0 0 (zi 0) from rfl, m_badAsked_ok hT hM0 e00 hq, bnd0_ok, zlet_e, if_pos (show zi 0 = (0 : Int32) from rfl), m_isD_ok hT hM0 hd, bnd0_ok, zlet_e, if_neg (show ¬ zi 1 = (0 : Int32) from by decide)]
        show bnd0 (f9_bad (0 : Int32) (2 : Int32) (zset μM 0 0 (zi 0))) _ = _
        rw [show f9_bad (0 : Int32) (2 : Int32) (zset μM 0 0 (zi 0)) = _ from m_bad0 e00, bnd0_ok, if_pos (show zi 0 = (0 : Int32) from rfl), z1', n1, hM0.1.2.1, b1, bnd0_ok]
        have e : (if x = (-1 : Int32) then fPB x (zi d) (m1 0 30) m1 (m1 0 30) else fPB x (zi d) (m1 0 30) m1 x) = fPB x (zi d) (m1 0 30) m1 (if x = (-1 : Int32) then m1 0 30 else x) := by
          by_cases c : x = (-1 : Int32)
          · rw [if_pos c, if_pos c]
          · rw [if_neg c, if_neg c]
        refine Eq.trans e ?_
        unfold fPB
        rw [zlet_e, show zset m1 0 30 (if x = (-1 : Int32) then m1 0 30 else x) 0 35 = zi (tdS T W') from by rw [zset_nj (by decide)]; exact b3, d1, bnd0_ok, zlet_e, zin_i (by omega) (by omega), zi_cl (by omega), zset_nk (by decide), d2 d hd]
      · rw [zset_nj (by decide), ff.2 0 (by decide)]; exact e00
      · refine ⟨⟨?_, ?_, ?_, ?_⟩, fun key j hk => ?_, fun key hk => ?_⟩
        · rw [zset_nj (by decide)]; exact ff.2 1 (by decide)
        · rw [zset_nj (by decide)]; exact ff.2 3 (by decide)
        · rw [zset_nj (by decide)]; exact ff.2 22 (by decide)
        · rw [zset_eq]; exact b5.2 30 (by decide)
        · by_cases h0 : key = 0
          · subst h0
            have : ¬ (j = 30 ∨ j = 34 ∨ j = 35) := fun e => by
              have := kidx_0 (j := j) (by omega) (by omega)
              omega
            rw [zset_nj (by omega)]; exact ff.2 j this
          · have : ¬ (101 ≤ key ∧ key < 1127) := fun e => by
              have := kidx_big (k := key) (j := j) (by unfold zsk; omega)
              omega
            rw [zset_nk h0]; rw [ff.1 key h0 this]
        · rw [zset_nk (by unfold zmk at hk; omega)]; exact ff.1 key (by unfold zmk at hk; omega) (by unfold zmk at hk; omega)
    · refine zPm_q h' (μX' := μX) (μM' := zset (zset μM 0 0 (zi 0)) 0 0 (zi 2)) (e := 3) (v := zi 0) (w := zi 0) ?_ ?_ zset_00 (fun h => absurd h (by decide)) (Or.inr (by decide)) zfr.refl zmq_00
      · unfold f8_pair
        rw [x_needQN_ok hT hX hq, bnd_ok, x_needD_no hX hy]; rfl
      · unfold f9_pair
        rw [zlet_e, show zset μM 0 0 (0 : Int32) = zset μM 0 0 (zi 0) from rfl, m_badAsked_ok hT hM0 e00 hq, bnd0_ok, zlet_e, if_pos (show zi 0 = (0 : Int32) from rfl), m_isD_no hT hM0 hy, bnd0_ok, zlet_e, if_pos (show zi 0 = (0 : Int32) from rfl)]
        show bnd0 (f9_bad (1 : Int32) (2 : Int32) (zset μM 0 0 (zi 0))) _ = _
        rw [show f9_bad (1 : Int32) (2 : Int32) (zset μM 0 0 (zi 0)) = _ from m_bad1 (c := 2) e00 (by decide) (by decide), bnd0_ok, if_neg (show ¬ zi 1 = (0 : Int32) from by decide)]; rfl
  · refine zPm_q h' (μX' := μX) (μM' := zset (zset μM 0 0 (zi 0)) 0 0 (zi 1)) (e := 1) (v := zi 0) (w := zi 0) ?_ ?_ zset_00 (fun h => absurd h (by decide)) (Or.inr (by decide)) zfr.refl zmq_00
    · unfold f8_pair
      rw [x_needQN_no hX hx]; rfl
    · unfold f9_pair
      rw [zlet_e, show zset μM 0 0 (0 : Int32) = zset μM 0 0 (zi 0) from rfl, m_badAsked_no hT hM0 e00 hx, bnd0_ok, zlet_e, if_neg (show ¬ zi 1 = (0 : Int32) from by decide)]; rfl
