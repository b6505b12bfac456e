/-! THE PURE SIDE, 81: a TOWN's text, the class reads the other clauses -/
theorem rfX_s {μ : zMem} {y : Int32} : rfX μ (zset μ 22 3 y) := rfX.refl.set (by decide) (by decide)
theorem xA_s {N a e : Nat} {μ : zMem} (hA : xA N a μ) (he : e ≤ N) : xA N e (zset μ 22 3 (zi e)) := ⟨by rw [zset_nj (by decide)]; exact hA.1, zset_eq, he⟩
theorem x_feigns {c : Nat → Nat} {N a : Nat} {D : zN2} {μ : zMem} (hc : tx c N μ) (hA : xA N a μ) (h4 : μ 22 4 = zi 0) (hB : DB D) (hD : XD D μ) : ∃ x μ', f3_readFeigns μ = some (0, x, μ') ∧ xO (aFei c N D a) x μ μ' := by
  have hN := hc.1
  have hP := hB.1.2.1
  have b0 : ∀ A, zbl (zi 0) A = A := fun A => zbl_0
  have b1 : ∀ A, zbl (zi 1) A = A := fun A => zbl_1
  obtain ⟨x, μ1, n1, n2⟩ := x_number (lo := 0) (H := D 2 1) (x2 := zi (D 2 1) - (1 : Int32)) hc hA h4 (by decide) (hle rfl (by omega))
  unfold f3_readFeigns aFei
  rw [hD.1.2.1, show f3_readNumber (0 : Int32) (zi (D 2 1) - (1 : Int32)) μ = _ from n1, bnd0_ok]
  rcases hn : aNum c N 0 (D 2 1) 1000000 a with ⟨k, p⟩ | ⟨p, e⟩
  · rw [hn] at n2
    have hk := (aNum_l hA.2.2 hn).1
    rw [xW_4 n2.2, if_neg (zne (by omega) (by omega))]
    exact ⟨zi 0, μ1, rfl, xO_w rfX.refl rfl n2.2⟩
  · rw [hn] at n2
    obtain ⟨n3, n4⟩ := n2
    subst n3 n4
    obtain ⟨-, hp, -, -, he⟩ := aNum_r hA.2.2 hn
    have h41 : zset μ 22 3 (zi e) 22 4 = zi 0 := by rw [zset_nj (by decide)]; exact h4
    obtain ⟨x, μ2, m1, m2⟩ := x_number (lo := 0) (H := 10) (x2 := (9 : Int32)) (tx_22 hc) (xA_s hA he) h41 (by decide) (hle rfl (by decide))
    rw [h41, if_pos (show zi 0 = (0 : Int32) from rfl), show f3_readNumber (0 : Int32) (9 : Int32) (zset μ 22 3 (zi e)) = _ from m1, bnd0_ok, zin_i (by omega) (by omega), zlet_e, zlet_e, zi_cl (by omega)]
    dsimp only
    rcases hn2 : aNum c N 0 10 1000000 e with ⟨k, q⟩ | ⟨v, e2⟩
    · rw [hn2] at m2
      have hk := (aNum_l he hn2).1
      rw [show zset μ2 16 p x 22 4 = zi k from by rw [zset_nk (by decide)]; exact xW_4 m2.2, if_neg (zne (by omega) (by omega))]
      exact ⟨zi 0, _, b0 _, ((rfX_s.w m2.2).set (by decide) (by omega)), rfl, by rw [zset_nk (by decide)]; exact xW_4 m2.2, by rw [zset_nk (by decide)]; exact xW_5 m2.2⟩
    · rw [hn2] at m2
      obtain ⟨m3, m4⟩ := m2
      subst m3 m4
      have hz : zset (zset (zset μ 22 3 (zi e)) 22 3 (zi e2)) 16 p (zi v) 22 4 = zi 0 := by rw [zset_nk (by decide), zset_nj (by decide)]; exact h41
      rw [hz, if_pos (show zi 0 = (0 : Int32) from rfl)]
      refine ⟨zi 1, _, b1 _, ((rfX_s.set (by decide) (by decide)).set (by decide) (by omega)), rfl, ?_, by rw [zset_nk (by decide), zset_eq], hz⟩
      have hD2 : XD D (zset (zset μ 22 3 (zi e)) 22 3 (zi e2)) := XD_22 (XD_22 hD)
      obtain ⟨⟨D1, D2, D3, D4, D5, D6⟩, E2, E3, E4, E5⟩ := hD2
      refine ⟨⟨?_, ?_, ?_, ?_, ?_, ?_⟩, fun i hi => ?_, fun p' hp' => ⟨?_, fun q hq => ?_⟩, fun p' hp' => ⟨?_, ?_⟩, fun d hd => ⟨?_, ?_, ?_, ?_⟩⟩
      · rw [nup_nk (by decide), zset_nk (by decide)]; exact D1
      · rw [nup_nk (by decide), zset_nk (by decide)]; exact D2
      · rw [nup_nk (by decide), zset_nk (by decide)]; exact D3
      · rw [nup_nk (by decide), zset_nk (by decide)]; exact D4
      · rw [nup_nk (by decide), zset_nk (by decide)]; exact D5
      · rw [nup_nk (by decide), zset_nk (by decide)]; exact D6
      · rw [nup_nk (by decide)] at hi ⊢
        rw [zset_nk (by decide)]; exact E2 i hi
      · rw [nup_nk (by decide)] at hp' ⊢
        rw [zset_nk (by decide)]; exact (E3 p' hp').1
      · rw [nup_nk (by decide)] at hp' hq
        rw [nup_nk (by omega), zset_nk (by decide)]; exact (E3 p' hp').2 q hq
      · by_cases e' : p' = p
        · rw [e', nup_eq, zset_eq]
        · rw [nup_nj e', zset_nj e']; exact (E4 p' hp').1
      · rw [nup_nk (by decide), zset_nk (by decide)]; exact (E4 p' hp').2
      · rw [nup_nk (by decide)] at hd ⊢
        rw [zset_nk (by decide)]; exact (E5 d hd).1
      · rw [nup_nk (by decide)] at hd ⊢
        rw [zset_nk (by decide)]; exact (E5 d hd).2.1
      · rw [nup_nk (by decide)] at hd ⊢
        rw [zset_nk (by decide)]; exact (E5 d hd).2.2.1
      · rw [nup_nk (by decide)] at hd ⊢
        rw [zset_nk (by decide)]; exact (E5 d hd).2.2.2
/-- a number that mustn't be one -/
theorem aNum_nt {c : Nat → Nat} {N H p a : Nat} (hp : p < H) (_ : H < 1000) : aNum c N 0 H p a = match aNum c N 0 H 1000000 a with
    | .inl q => .inl q
    | .inr (v, e) => if v = p then .inl (2, bl9 c N a) else .inr (v, e) := by
  unfold aNum
  by_cases h1 : de9 c N (bl9 c N a) = bl9 c N a
  · rw [if_pos h1, if_pos h1]
  · rw [if_neg h1, if_neg h1]
    have hv := dval_le (c := c) (b := bl9 c N a) (e := de9 c N (bl9 c N a))
    by_cases h2 : dval c (bl9 c N a) (de9 c N (bl9 c N a)) < 0 ∨ H ≤ dval c (bl9 c N a) (de9 c N (bl9 c N a)) ∨ dval c (bl9 c N a) (de9 c N (bl9 c N a)) = 1000000
    · rw [if_pos (by omega), if_pos h2]
    · rw [if_neg h2]
      dsimp only
      by_cases h3 : dval c (bl9 c N a) (de9 c N (bl9 c N a)) = p
      · rw [if_pos (by omega), if_pos h3]
      · rw [if_neg (by omega), if_neg h3]
theorem aNum_bl {c : Nat → Nat} {N lo H nt a : Nat} (h : a ≤ N) : aNum c N lo H nt (bl9 c N a) = aNum c N lo H nt a := by
  unfold aNum
  rw [bl9_id h]
theorem x_kin {c : Nat → Nat} {N a : Nat} {D : zN2} {μ : zMem} (hc : tx c N μ) (hA : xA N a μ) (h4 : μ 22 4 = zi 0) (hB : DB D) (hD : XD D μ) : ∃ x μ', f3_readKin μ = some (0, x, μ') ∧ xO (aKin c N D a) x μ μ' := by
  have hN := hc.1
  have hP := hB.1.2.1
  have b0 : ∀ A, zbl (zi 0) A = A := fun A => zbl_0
  obtain ⟨x, μ1, n1, n2⟩ := x_number (lo := 0) (H := D 2 1) (x2 := zi (D 2 1) - (1 : Int32)) hc hA h4 (by decide) (hle rfl (by omega))
  unfold f3_readKin aKin
  rw [hD.1.2.1, show f3_readNumber (0 : Int32) (zi (D 2 1) - (1 : Int32)) μ = _ from n1, bnd0_ok]
  rcases hn : aNum c N 0 (D 2 1) 1000000 a with ⟨k, p⟩ | ⟨p, e⟩
  · rw [hn] at n2
    have hk := (aNum_l hA.2.2 hn).1
    rw [xW_4 n2.2, if_neg (zne (by omega) (by omega))]
    exact ⟨zi 0, μ1, rfl, xO_w rfX.refl rfl n2.2⟩
  · rw [hn] at n2
    obtain ⟨n3, n4⟩ := n2
    subst n3 n4
    obtain ⟨-, hp, -, -, he⟩ := aNum_r hA.2.2 hn
    have h41 : zset μ 22 3 (zi e) 22 4 = zi 0 := by rw [zset_nj (by decide)]; exact h4
    have hA1 := xA_s hA he
    have hbl := (bl9_sp (c := c) he).2
    rw [h41, if_pos (show zi 0 = (0 : Int32) from rfl), x_blanks (tx_22 hc) hA1, bnd0_ok, zset_zset]
    show ∃ x μ', zlet (zset μ 22 3 (zi (bl9 c N e)) 22 3) _ = _ ∧ _
    rw [zlet_e, zset_eq]
    have h42 : zset μ 22 3 (zi (bl9 c N e)) 22 4 = zi 0 := by rw [zset_nj (by decide)]; exact h4
    have e12 : zset μ 22 3 (zi (bl9 c N e)) 12 1 = zi (D 2 1) := by rw [zset_nk (by decide)]; exact hD.1.2.1
    obtain ⟨x, μ2, m1, m2⟩ := x_number (lo := 0) (H := D 2 1) (x2 := zi (D 2 1) - (1 : Int32)) (tx_22 hc) (xA_s hA hbl) h42 (by decide) (hle rfl (by omega))
    rw [show zset μ 22 3 (zi (advN (isB c) N e)) = zset μ 22 3 (zi (bl9 c N e)) from rfl, e12, show f3_readNumber (0 : Int32) (zi (D 2 1) - (1 : Int32)) (zset μ 22 3 (zi (bl9 c N e))) = _ from m1, bnd0_ok]
    dsimp only
    rw [aNum_nt hp (by omega), ← aNum_bl (nt := 1000000) he]
    rcases hn2 : aNum c N 0 (D 2 1) 1000000 (bl9 c N e) with ⟨k, q⟩ | ⟨o, e2⟩
    · rw [hn2] at m2
      have hk := (aNum_l hbl hn2).1
      rw [xW_4 m2.2, if_neg (zne (by omega) (by omega))]
      exact ⟨zi 0, μ2, rfl, xO_w rfX_s rfl m2.2⟩
    · rw [hn2] at m2
      obtain ⟨m3, m4⟩ := m2
      subst m3 m4
      obtain ⟨-, ho, -, -, he2⟩ := aNum_r hbl hn2
      rw [show zset (zset μ 22 3 (zi (bl9 c N e))) 22 3 (zi e2) 22 4 = zi 0 from by rw [zset_nj (by decide)]; exact h42, if_pos (show zi 0 = (0 : Int32) from rfl)]
      dsimp only
      by_cases eo : o = p
      · rw [if_pos (by rw [eo]), if_pos eo]
        refine ⟨zi 0, _, ?_, xO_w (μ1 := zset μ 22 3 (zi (bl9 c N e))) (k := 2) (p := bl9 c N e) rfX_s rfl ⟨zi e2, rfl⟩⟩
        show bnd0 (f3_wrong (zi 2) (zi (bl9 c N e)) _) _ = _
        rw [x_wrong, bnd0_ok, b0]
      · have hD2 : XD D (zset (zset μ 22 3 (zi (bl9 c N e))) 22 3 (zi e2)) := XD_22 (XD_22 hD)
        rw [if_neg (by rw [zi_eq (by omega) (by omega)]; exact eo), if_neg eo]
        unfold f7_makeKin
        rw [zin_i (by omega) (by omega), zin_i (by omega) (by omega), zlet_e, zin_i (by omega) (by omega), zin_i (by omega) (by omega), zlet_e, bnd0_ok, zi_cl (n := p) (by omega), zi_cl (n := o) (by omega), (hD2.2.2.2.1 p (by omega)).2, zset_nj eo, (hD2.2.2.2.1 o (by omega)).2, show zshl (1 : Int32) (zi p) = zi (2 ^ p) from zshl1 (by omega), show zshl (1 : Int32) (zi o) = zi (2 ^ o) from zshl1 (by omega), zi_or, zi_or]
        refine ⟨zi 1, _, rfl, (((rfX_s.set (by decide) (by decide)).set (by decide) (by omega)).set (by decide) (by omega)), rfl, ?_, by rw [zset_nk (by decide), zset_nk (by decide), zset_eq], by rw [zset_nk (by decide), zset_nk (by decide), zset_nj (by decide)]; exact h42⟩
        obtain ⟨⟨D1, D2, D3, D4, D5, D6⟩, E2, E3, E4, E5⟩ := hD2
        have r : ∀ k j, k ≠ 7 → dKin D p o k j = D k j := fun k j hk => by unfold dKin; rw [nup_nk hk, nup_nk hk]
        refine ⟨⟨?_, ?_, ?_, ?_, ?_, ?_⟩, fun i hi => ?_, fun p' hp' => ⟨?_, fun q hq => ?_⟩, fun p' hp' => ⟨?_, ?_⟩, fun d hd => ⟨?_, ?_, ?_, ?_⟩⟩
        · rw [r 2 0 (by decide), zset_nk (by decide), zset_nk (by decide)]; exact D1
        · rw [r 2 1 (by decide), zset_nk (by decide), zset_nk (by decide)]; exact D2
        · rw [r 2 2 (by decide), zset_nk (by decide), zset_nk (by decide)]; exact D3
        · rw [r 2 3 (by decide), zset_nk (by decide), zset_nk (by decide)]; exact D4
        · rw [r 2 4 (by decide), zset_nk (by decide), zset_nk (by decide)]; exact D5
        · rw [r 2 5 (by decide), zset_nk (by decide), zset_nk (by decide)]; exact D6
        · rw [r 2 5 (by decide)] at hi
          rw [r 3 i (by decide), zset_nk (by decide), zset_nk (by decide)]; exact E2 i hi
        · rw [r 2 1 (by decide)] at hp'
          rw [r 5 p' (by decide), zset_nk (by decide), zset_nk (by decide)]; exact (E3 p' hp').1
        · rw [r 2 1 (by decide)] at hp'
          rw [r 2 0 (by decide)] at hq
          rw [r (20 + p') q (by omega), zset_nk (by decide), zset_nk (by decide)]; exact (E3 p' hp').2 q hq
        · rw [r 6 p' (by decide), zset_nk (by decide), zset_nk (by decide)]; exact (E4 p' hp').1
        · unfold dKin
          by_cases e1 : p' = o
          · rw [e1, zset_eq, nup_eq]
          · rw [zset_nj e1, nup_nj e1]
            by_cases e2' : p' = p
            · rw [e2', zset_eq, nup_eq]
            · rw [zset_nj e2', nup_nj e2']; exact (E4 p' hp').2
        · rw [r 2 2 (by decide)] at hd
          rw [r 8 d (by decide), zset_nk (by decide), zset_nk (by decide)]; exact (E5 d hd).1
        · rw [r 2 2 (by decide)] at hd
          rw [r 9 d (by decide), zset_nk (by decide), zset_nk (by decide)]; exact (E5 d hd).2.1
        · rw [r 2 2 (by decide)] at hd
          rw [r 10 d (by decide), zset_nk (by decide), zset_nk (by decide)]; exact (E5 d hd).2.2.1
        · rw [r 2 2 (by decide)] at hd
          rw [r 11 d (by decide), zset_nk (by decide), zset_nk (by decide)]; exact (E5 d hd).2.2.2
theorem x_slaL {c : Nat → Nat} {N b n : Nat} {μ : zMem} (hc : tx c N μ) (hn : n ≤ 7) (h5 : μ 12 5 = zi n) (hb : b + n ≤ N) (hd : ∀ i, i < n → 48 ≤ c (b + i) ∧ c (b + i) ≤ 57) (K : zMem → zRes) :
    ∃ μ', f3_readSlate_L64 (zi b) K zF (zi 0) μ = K μ' ∧ (∀ q, q < n → μ' 13 q = zi (c (b + q) - 48)) ∧ zfr (fun k => k = 13) μ μ' := by
  have hN := hc.1
  obtain ⟨μ', e1, e2, e3⟩ := zloopE (L := fun n' i (x : zMem) => f3_readSlate_L64 (zi b) K n' (zi i) x) (N := n) (o := fun x => K x)
    (fun i x => (∀ q, q < i → x 13 q = zi (c (b + q) - 48)) ∧ zfr (fun k => k = 13) μ x)
    (fun n' x hx => by
      show f3_readSlate_L64 (zi b) K (n' + 1) (zi n) x = _
      rw [f3_readSlate_L64, hx.2 12 (by decide), h5, if_pos (Int32.le_refl _)])
    (fun n' i x hi hx => by
      obtain ⟨x1, x3⟩ := hx
      have hdi := hd i hi
      refine ⟨zset x 13 i (zi (c (b + i) - 48)), ?_, fun q hq => ?_, x3.set rfl⟩
      · show f3_readSlate_L64 (zi b) K (n' + 1) (zi i) x = _
        rw [f3_readSlate_L64, x3 12 (by decide), h5, if_neg (show ¬ zi n ≤ zi i from by rw [zi_le (by omega) (by omega)]; omega), zi_add, zin_i (by omega) (by omega), zin_i (by omega) (by omega), zlet_e, zi_cl (by omega), zi_cl (by omega), x3 1 (by decide), (hc.2 (b + i) (by omega)).2, show (48 : Int32) = zi 48 from rfl, zi_sub (by omega), show zi i + (1 : Int32) = zi (i + 1) from zi_add i 1]
      · by_cases e : q = i
        · rw [e, zset_eq]
        · rw [zset_nj (by omega)]; exact x1 q (by omega))
    n 0 μ zF (by omega) (by unfold zF; omega) ⟨fun q hq => absurd hq (by omega), fun _ _ => rfl⟩
  exact ⟨μ', e1, e2, e3⟩
theorem x_slate {c : Nat → Nat} {N a : Nat} {D : zN2} {μ : zMem} (hc : tx c N μ) (hA : xA N a μ) (h4 : μ 22 4 = zi 0) (hB : DB D) (hD : XD D μ) : ∃ x μ', f3_readSlate μ = some (0, x, μ') ∧ xO (aSla c N D a) x μ μ' := by
  have hN := hc.1
  have hQ := hB.1.1
  have b0 : ∀ A, zbl (zi 0) A = A := fun A => zbl_0
  obtain ⟨k1, k2⟩ := bl9_sp (c := c) hA.2.2
  obtain ⟨d1, d2, d3⟩ := de9_sp (c := c) k2
  unfold f3_readSlate aSla
  rw [x_readDigits hc hA]
  unfold aDig
  by_cases e : de9 c N (bl9 c N a) = bl9 c N a
  · rw [if_pos e, if_pos e, bnd0_ok, zset_nj (by decide), zset_eq, if_neg (zne (by decide) (by decide))]
    exact ⟨zi 0, _, rfl, xO_w rfX.refl rfl ⟨_, rfl⟩⟩
  · rw [if_neg e, if_neg e, bnd0_ok, zset_nj (by decide), h4, if_pos (show zi 0 = (0 : Int32) from rfl), zlet_e, zset_eq, zset_nk (by decide), hD.1.1, zi_sub d1]
    have ew : ∀ μ1 : zMem, bnd0 (f3_wrong (2 : Int32) (zi (bl9 c N a)) μ1) (fun (v6 : Int32) (μ7 : zMem) => zbl v6 (some (0, v6, μ7))) = some (0, zi 0, zset (zset μ1 22 4 (zi 2)) 22 5 (zi (bl9 c N a))) := fun μ1 => by
      show bnd0 (f3_wrong (zi 2) (zi (bl9 c N a)) μ1) _ = _
      rw [x_wrong, bnd0_ok, b0]
    have tx1 : tx c N (zset μ 22 3 (zi (de9 c N (bl9 c N a)))) := tx_22 hc
    have c7 : ((7 : Int32) < zi (de9 c N (bl9 c N a) - bl9 c N a)) = (7 < de9 c N (bl9 c N a) - bl9 c N a) := zi_lt (a := 7) (by decide) (by omega)
    by_cases en : 7 < de9 c N (bl9 c N a) - bl9 c N a
    · rw [if_pos (by rw [c7]; exact en), if_neg (fun q => by omega)]
      exact ⟨zi 0, _, ew _, xO_w rfX.refl rfl ⟨_, rfl⟩⟩
    · rw [if_neg (by rw [c7]; exact en), x_areDigits (G := D 2 0) (x2 := zi (D 2 0) - (1 : Int32)) tx1 zset_eq d1 d2 d3 (fun v hv => hle rfl (by omega) v (by omega)), bnd0_ok]
      cases ok : okD c (bl9 c N a) (de9 c N (bl9 c N a) - bl9 c N a) (D 2 0)
      · rw [if_pos (show zi (b01 false) = (0 : Int32) from rfl), if_neg (fun q => absurd q.1 (by decide))]
        exact ⟨zi 0, _, ew _, xO_w rfX.refl rfl ⟨_, rfl⟩⟩
      · rw [if_neg (show ¬ zi (b01 true) = (0 : Int32) from by decide), if_pos ⟨rfl, by omega, by omega⟩, zlet_e, zset_eq, zi_sub d1]
        have hD1 : XD D (zset μ 22 3 (zi (de9 c N (bl9 c N a)))) := XD_22 hD
        obtain ⟨μ1, l1, l2, l4⟩ := x_slaL (b := bl9 c N a) (n := de9 c N (bl9 c N a) - bl9 c N a) (μ := zset (zset μ 22 3 (zi (de9 c N (bl9 c N a)))) 12 5 (zi (de9 c N (bl9 c N a) - bl9 c N a))) ⟨tx1.1, fun j hj => by rw [zset_nk (by decide)]; exact tx1.2 j hj⟩ (by omega) zset_eq (by omega) (fun i hi => d3 _ (by omega) (by omega)) (fun (μ21 : zMem) => some (0, (1 : Int32), μ21))
        have g : ∀ k, k ≠ 13 → k ≠ 22 → k ≠ 12 → μ1 k = μ k := fun k h1 h2 h3 => by rw [l4 k h1, zset_nk h3, zset_nk h2]
        have g22 : μ1 22 = zset μ 22 3 (zi (de9 c N (bl9 c N a))) 22 := by rw [l4 22 (by decide), zset_nk (by decide)]
        refine ⟨zi 1, μ1, l1, ⟨fun k hk => g k (by omega) (by omega) (by omega), by rw [g22, zset_nj (by decide)]⟩, rfl, ?_, by rw [g22, zset_eq], by rw [g22, zset_nj (by decide)]; exact h4⟩
        obtain ⟨⟨D1, D2, D3, D4, D5, D6⟩, E2, E3, E4, E5⟩ := hD
        have g12 : ∀ j, j ≠ 5 → μ1 12 j = μ 12 j := fun j hj => by rw [l4 12 (by decide), zset_nj hj, zset_nk (by decide)]
        have r : ∀ k j, ¬ (k = 2 ∧ j = 5) → k ≠ 3 → dSl D (de9 c N (bl9 c N a) - bl9 c N a) (dF c (bl9 c N a) (de9 c N (bl9 c N a) - bl9 c N a)) k j = D k j := fun k j h1 h2 => by unfold dSl; rw [if_neg h1, if_neg h2]
        refine ⟨⟨?_, ?_, ?_, ?_, ?_, ?_⟩, fun i hi => ?_, fun p hp => ⟨?_, fun q hq => ?_⟩, fun p hp => ⟨?_, ?_⟩, fun d hd => ⟨?_, ?_, ?_, ?_⟩⟩
        · rw [r 2 0 (by decide) (by decide), g12 0 (by decide)]; exact D1
        · rw [r 2 1 (by decide) (by decide), g12 1 (by decide)]; exact D2
        · rw [r 2 2 (by decide) (by decide), g12 2 (by decide)]; exact D3
        · rw [r 2 3 (by decide) (by decide), g12 3 (by decide)]; exact D4
        · rw [r 2 4 (by decide) (by decide), g12 4 (by decide)]; exact D5
        · rw [l4 12 (by decide), zset_eq]; rfl
        · have hi' : i < de9 c N (bl9 c N a) - bl9 c N a := hi
          rw [l2 i hi']
          show _ = zi (dF c (bl9 c N a) (de9 c N (bl9 c N a) - bl9 c N a) i)
          rw [show dF c (bl9 c N a) (de9 c N (bl9 c N a) - bl9 c N a) i = c (bl9 c N a + i) - 48 from if_pos hi']
        · rw [r 2 1 (by decide) (by decide)] at hp
          rw [r 5 p (by omega) (by decide), g 15 (by decide) (by decide) (by decide)]; exact (E3 p hp).1
        · rw [r 2 1 (by decide) (by decide)] at hp
          rw [r 2 0 (by decide) (by decide)] at hq
          rw [r (20 + p) q (by omega) (by omega), g 14 (by decide) (by decide) (by decide)]; exact (E3 p hp).2 q hq
        · rw [r 6 p (by omega) (by decide), g 16 (by decide) (by decide) (by decide)]; exact (E4 p hp).1
        · rw [r 7 p (by omega) (by decide), g 17 (by decide) (by decide) (by decide)]; exact (E4 p hp).2
        · rw [r 2 2 (by decide) (by decide)] at hd
          rw [r 8 d (by omega) (by decide), g 18 (by decide) (by decide) (by decide)]; exact (E5 d hd).1
        · rw [r 2 2 (by decide) (by decide)] at hd
          rw [r 9 d (by omega) (by decide), g 19 (by decide) (by decide) (by decide)]; exact (E5 d hd).2.1
        · rw [r 2 2 (by decide) (by decide)] at hd
          rw [r 10 d (by omega) (by decide), g 20 (by decide) (by decide) (by decide)]; exact (E5 d hd).2.2.1
        · rw [r 2 2 (by decide) (by decide)] at hd
          rw [r 11 d (by omega) (by decide), g 21 (by decide) (by decide) (by decide)]; exact (E5 d hd).2.2.2
