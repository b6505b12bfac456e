/-! THE PURE SIDE, 74: few -/
def fFM (x1 x2 x3 : Int32) (μ5 : zMem) : zRes := zlet (zset μ5 0 40 (0 : Int32)) (fun (μ8 : zMem) => f9_few_L73 x1 (fun (μ19 : zMem) => bnd0 (f9_stateNow x2 μ19) (fun (v20 : Int32) (μ21 : zMem) => f9_few_L136 (fun (μ26 : zMem) => zlet (fun (x5_27 : Int32) (μ28 : zMem) => bnd0 (f9_becomes v20 x2 μ28) (fun (v29 : Int32) (μ30 : zMem) => some (0, x5_27, μ30))) (fun j31 => if x3 = 0 then bnd0 (f9_mostFrom 2000 v20 x2 μ26) (fun (v36 : Int32) (μ37 : zMem) => j31 v36 μ37) else bnd0 (f9_soonest v20 x2 μ26) (fun (v34 : Int32) (μ35 : zMem) => j31 v34 μ35))) zF (0 : Int32) μ21)) zF (0 : Int32) μ8)
theorem fFw {x1 x2 x3 : Int32} {μ : zMem} : f9_few x1 x2 x3 μ = (zlet (zset μ 0 0 (0 : Int32)) (fun (μ1 : zMem) => zlet (fun (s2 : Int32) (μ3 : zMem) => bnd0 (f9_bad s2 (1 : Int32) μ3) (fun (v4 : Int32) (μ5 : zMem) => if v4 = 0 then fFM x1 x2 x3 μ5 else some (0, (0 : Int32), μ5))) (fun j38 => zlet (fun (μ39 : zMem) => j38 (1 : Int32) μ39) (fun j40 => if x1 < 0 then j40 μ1 else zin (1 : Int32) 6 (if (zshl (1 : Int32) (μ1 4 (1 : Int32).toNatClampNeg)) ≤ x1 then j40 μ1 else bnd0 (f9_ones x1 μ1) (fun (v46 : Int32) (μ47 : zMem) => bnd0 (f9_in v46 (2 : Int32) (4 : Int32) μ47) (fun (v48 : Int32) (μ49 : zMem) => if v48 = 0 then j40 μ49 else bnd0 (f9_isAsked x2 μ49) (fun (v52 : Int32) (μ53 : zMem) => if v52 = 0 then j40 μ53 else bnd0 (f9_in x3 (0 : Int32) (1 : Int32) μ53) (fun (v56 : Int32) (μ57 : zMem) => if v56 = 0 then j40 μ57 else j38 (0 : Int32) μ57))))))))) := rfl
theorem m_few73 {T : zN2} {bits : Nat} {μ : zMem} (hT : TB T) (hM : MT T μ) (hb : bits < 256) (hc : cb bits (T 2 1) ≤ 4) (h40 : μ 0 40 = zi 0) (K : zMem → zRes) :
    ∃ μ', f9_few_L73 (zi bits) K zF (zi 0) μ = K μ' ∧ μ' 0 40 = zi (cb bits (T 2 1)) ∧ (∀ p, p < T 2 1 → bits.testBit p = true → μ' 1129 (cb bits p) = zi p) ∧ mfr (fun j => j = 40) (fun k => k = 1129) μ μ' := by
  have hP := hT.2.1
  have z1' : ∀ A, zin (1 : Int32) 6 A = A := fun A => zin_i (i := 1) (by decide) (by decide)
  have n1 : (1 : Int32).toNatClampNeg = 1 := by decide
  obtain ⟨μ', e1, e2, e3, e4⟩ := zloopE (L := fun n i (x : zMem) => f9_few_L73 (zi bits) K n (zi i) x) (N := T 2 1) (o := fun x => K x)
    (fun i x => x 0 40 = zi (cb bits i) ∧ (∀ p, p < i → bits.testBit p = true → x 1129 (cb bits p) = zi p) ∧ mfr (fun j => j = 40) (fun k => k = 1129) μ x)
    (fun n x hx => by
      show f9_few_L73 (zi bits) K (n + 1) (zi (T 2 1)) x = _
      rw [f9_few_L73, z1', n1, hx.2.2.1 4 (by decide) (by decide), hM.1.2.1, if_pos (Int32.le_refl _)])
    (fun n i x hi hx => by
      obtain ⟨x1, x2, x3⟩ := hx
      have z1 : zi i + (1 : Int32) = zi (i + 1) := zi_add i 1
      have hbit : (zshr (zi bits) (zi i) &&& (1 : Int32) = 0) = (bits.testBit i = false) := zbit0 (by omega) (by omega)
      by_cases c : bits.testBit i = true
      · have hlt := cb_lt hi c
        have hc4 : cb bits i < 4 := by omega
        refine ⟨zset (zset x 1129 (cb bits i) (zi i)) 0 40 (zi (cb bits i + 1)), ?_, ?_, fun p hp hpb => ?_, ?_⟩
        · show f9_few_L73 (zi bits) K (n + 1) (zi i) x = _
          rw [f9_few_L73, z1', n1, x3.1 4 (by decide) (by decide), hM.1.2.1, if_neg (show ¬ zi (T 2 1) ≤ zi i from by rw [zi_le (by omega) (by omega)]; omega), zlet_e, if_neg (by rw [hbit, c]; decide), x1, zin_i hc4 (by omega), zlet_e, zlet_e, zi_cl (by omega), zset_nk (by decide), x1, show zi (cb bits i) + (1 : Int32) = zi (cb bits i + 1) from zi_add _ 1, z1]
        · rw [zset_eq, cb_s, c]; rfl
        · rw [zset_nk (by decide)]
          by_cases e : p = i
          · rw [e, zset_eq]
          · rw [zset_nj (fun q => e (cb_inj hpb c q))]; exact x2 p (by omega) hpb
        · exact (x3.set (by decide) rfl).set0 rfl
      · refine ⟨x, ?_, ?_, fun p hp hpb => ?_, x3⟩
        · show f9_few_L73 (zi bits) K (n + 1) (zi i) x = _
          rw [f9_few_L73, z1', n1, x3.1 4 (by decide) (by decide), hM.1.2.1, if_neg (show ¬ zi (T 2 1) ≤ zi i from by rw [zi_le (by omega) (by omega)]; omega), zlet_e, if_pos (by rw [hbit]; exact (Bool.not_eq_true _).mp c), z1]
        · rw [cb_s, (Bool.not_eq_true _).mp c]; exact x1
        · have : p ≠ i := fun e => c (e ▸ hpb)
          exact x2 p (by omega) hpb)
    (T 2 1) 0 μ zF (by omega) (by unfold zF; omega) ⟨h40, fun p hp => absurd hp (by omega), mfr.refl⟩
  exact ⟨μ', e1, e2, e3, e4⟩
theorem m_few136 {μ : zMem} (K : zMem → zRes) : f9_few_L136 K zF (zi 0) μ = K (zfil μ 1130 6561 (zi 0)) := by
  obtain ⟨s, e1, e2⟩ := zloopE (L := fun n i s => f9_few_L136 K n (zi i) s) (N := 6561) (o := fun s => K s) (fun i s => s = zfil μ 1130 i (zi 0))
    (fun n s _ => by
      show f9_few_L136 K (n + 1) (zi 6561) s = _
      rw [f9_few_L136, if_pos (show (6561 : Int32) ≤ zi 6561 from Int32.le_refl _)])
    (fun n i s hi hs => ⟨zfil μ 1130 (i + 1) (zi 0), by
      subst hs
      show f9_few_L136 K (n + 1) (zi i) _ = _
      rw [f9_few_L136, if_neg (show ¬ (6561 : Int32) ≤ zi i from by rw [show (6561 : Int32) = zi 6561 from rfl, zi_le (by omega) (by omega)]; omega), zin_i hi (by omega), zlet_e, zi_cl (by omega), show (0 : Int32) = zi 0 from rfl, zfil_set, show zi i + (1 : Int32) = zi (i + 1) from zi_add i 1], rfl⟩)
    6561 0 μ zF (by omega) (by unfold zF; omega) zfil_0.symm
  rw [e2] at e1
  exact e1
theorem m_fewM {T W : zN2} {bits q w : Nat} {μ : zMem} (hT : TB T) (hW : WB T W) (hP : W 0 3 = T 2 1) (hg : 1 ≤ W 0 2) (hM : MT T μ) (hS : MS T W μ) (hb : bits < 256) (hc : cb bits (T 2 1) ≤ 4) (hq : q < T 2 0) (hw : w < 2) :
    ∃ x m', fFM (zi bits) (zi q) (zi w) μ = some (0, x, m') ∧ (w = 0 → moC (fE T W (fM9 bits (T 2 1)) (cb bits (T 2 1))) (st9 T W bits q) x) ∧ (w ≠ 0 → soC (fE T W (fM9 bits (T 2 1)) (cb bits (T 2 1))) (st9 T W bits q) x) ∧ mfr (fun j => j = 40) (fun k => 1129 ≤ k) μ m' := by
  have hPP := hT.2.1
  have hQ := hT.1
  have hpm : pmOk T (fM9 bits (T 2 1)) (cb bits (T 2 1)) := ⟨fun i hi => (fM9_sp hi).1, fun i j hi hj e => fM9_inj hi hj e⟩
  have hst : st9 T W bits q < 9 ^ cb bits (T 2 1) := val9_lt _ (fun i _ => wb_th hW _ _)
  have h9 := pow9 hc
  have m0 : mfr (fun j => j = 40) (fun k => 1129 ≤ k) μ (zset μ 0 40 (zi 0)) := mfr.refl.set0 rfl
  have hM0 : MT T (zset μ 0 40 (zi 0)) := MT_at (fun j _ => by rw [zset_nk (by decide)]) (zset_nk (by decide)) (zset_nk (by decide)) (fun p _ => by rw [zset_nk (by omega)]) (fun d _ => zset_nk (by omega)) hT hM
  obtain ⟨μ1, a1, a2, a3, a4⟩ := m_few73 hT hM0 hb hc zset_eq (fun (μ19 : zMem) => bnd0 (f9_stateNow (zi q) μ19) (fun (v20 : Int32) (μ21 : zMem) => f9_few_L136 (fun (μ26 : zMem) => zlet (fun (x5_27 : Int32) (μ28 : zMem) => bnd0 (f9_becomes v20 (zi q) μ28) (fun (v29 : Int32) (μ30 : zMem) => some (0, x5_27, μ30))) (fun j31 => if zi w = 0 then bnd0 (f9_mostFrom 2000 v20 (zi q) μ26) (fun (v36 : Int32) (μ37 : zMem) => j31 v36 μ37) else bnd0 (f9_soonest v20 (zi q) μ26) (fun (v34 : Int32) (μ35 : zMem) => j31 v34 μ35))) zF (0 : Int32) μ21))
  have m1 : mfr (fun j => j = 40) (fun k => 1129 ≤ k) μ μ1 := m0.trans (a4.mono (fun j hj => hj) (fun k hk => by omega))
  have hM1 : MT T μ1 := MT_at (fun j _ => congrFun (m1.1 4 (by decide) (by omega)) j) (m1.1 47 (by decide) (by omega)) (m1.1 49 (by decide) (by omega)) (fun p _ => congrFun (m1.1 (15 + p) (by omega) (by omega)) 5) (fun d _ => m1.1 (36 + d) (by omega) (by omega)) hT hM
  have hB1 : mB9 T W (fM9 bits (T 2 1)) (cb bits (T 2 1)) μ1 := by
    refine ⟨hM1, ?_, fun p hp => ?_, a2, fun i hi => ?_⟩
    · rw [m1.1 4 (by decide) (by omega)]; exact hS.1.2.2
    · rw [m1.1 (15 + p) (by omega) (by omega)]; exact hS.2.2.1 p hp
    · obtain ⟨f1, f2, f3⟩ := fM9_sp hi
      have := a3 _ f1 f2
      rw [show cb bits (T 2 1) - 1 - i = cb bits (fM9 bits (T 2 1) i) by omega]; exact this
  have ht1 : ∀ i, i < cb bits (T 2 1) → μ1 (51 + fM9 bits (T 2 1) i) q = zi (W (4 + fM9 bits (T 2 1) i) q) := fun i hi => by
    have := (fM9_sp hi).1
    rw [m1.1 _ (by omega) (by omega)]; exact (hS.2.1 _ (by omega)).2 q hq
  have b1 := m_stateNow hT hc hpm hB1 hq ht1
  have r2 : rF9 (fM9 bits (T 2 1), cb bits (T 2 1), q) μ1 (zfil μ1 1130 6561 (zi 0)) := fun k j _ hl => by rw [zfil_nk (by omega)]
  have hB2 := mB9_r hT r2 hB1
  have core : ∃ x μ3, (if zi w = 0 then f9_mostFrom 2000 (zi (st9 T W bits q)) (zi q) (zfil μ1 1130 6561 (zi 0)) else f9_soonest (zi (st9 T W bits q)) (zi q) (zfil μ1 1130 6561 (zi 0))) = some (0, x, μ3) ∧ (w = 0 → moC (fE T W (fM9 bits (T 2 1)) (cb bits (T 2 1))) (st9 T W bits q) x) ∧ (w ≠ 0 → soC (fE T W (fM9 bits (T 2 1)) (cb bits (T 2 1))) (st9 T W bits q) x) ∧ rF9 (fM9 bits (T 2 1), cb bits (T 2 1), q) (zfil μ1 1130 6561 (zi 0)) μ3 := by
    by_cases h0 : w = 0
    · rw [if_pos (show zi w = (0 : Int32) from by rw [h0]; rfl)]
      obtain ⟨x, μ3, d1, d2, d3⟩ := m_mostFew hT hW hg hc hpm hB2 hq hst (fun v hv => by rw [zfil_at, if_pos ⟨rfl, hv⟩])
      exact ⟨x, μ3, d1, fun _ => d2, fun q => absurd h0 q, d3⟩
    · rw [if_neg (show ¬ zi w = (0 : Int32) from by rw [show (0 : Int32) = zi 0 from rfl, zi_eq (by omega) (by omega)]; exact h0)]
      obtain ⟨x, μ3, d1, d2, d3⟩ := m_soonest hT hW hg hc hpm hB2 hq hst
      exact ⟨x, μ3, d1, fun q => absurd q h0, fun _ => d2, d3⟩
  obtain ⟨x, μ3, d1, d2, d3, d4⟩ := core
  have r3 := r2.trans d4
  obtain ⟨μ4, g1, g2, g3⟩ := m_becomes hT hc hpm (mB9_r hT r3 hB1) (show st9 T W bits q < 6561 by omega) hq
  have r4 : rF9 (fM9 bits (T 2 1), cb bits (T 2 1), q) μ1 μ4 := r3.trans (rF9.t g3)
  refine ⟨x, μ4, ?_, d2, d3, ?_⟩
  · unfold fFM
    rw [zlet_e]
    refine a1.trans ?_
    show bnd0 (f9_stateNow (zi q) μ1) _ = _
    rw [b1, bnd0_ok]
    refine (m_few136 _).trans ?_
    show zlet _ _ = _
    rw [zlet_e]
    have e9 : val9 (fun i => W (4 + fM9 bits (T 2 1) i) q) (cb bits (T 2 1)) = st9 T W bits q := rfl
    by_cases h0 : zi w = 0
    · rw [if_pos h0] at d1 ⊢
      rw [e9, d1, bnd0_ok]
      show bnd0 (f9_becomes (zi (st9 T W bits q)) (zi q) μ3) _ = _
      rw [g1, bnd0_ok]
    · rw [if_neg h0] at d1 ⊢
      rw [e9, d1, bnd0_ok]
      show bnd0 (f9_becomes (zi (st9 T W bits q)) (zi q) μ3) _ = _
      rw [g1, bnd0_ok]
  · refine m1.trans ⟨fun k h1 h2 => ?_, fun j hj => r4 0 j (fun q => by omega) (by decide)⟩
    funext j
    by_cases c : ∃ i, i < cb bits (T 2 1) ∧ k = 51 + fM9 bits (T 2 1) i ∧ j = q
    · obtain ⟨i, hi, e1, e2⟩ := c
      rw [e1, e2, g2 i hi, ht1 i hi]
      congr 1
      unfold st9
      rw [dg_val9 _ _ hi (fun i _ => wb_th hW _ _)]
    · exact r4 k j (fun q' => by
        obtain ⟨_, _, ⟨i, hi, e1⟩, e2⟩ := q'
        exact c ⟨i, hi, e1, e2⟩) (by omega)
theorem cb_popc {T : zN2} (hT : TB T) {b : Nat} (hb : b < 2 ^ T 2 1) : cb b (T 2 1) = popc b := (popc_lt hb (by have := hT.2.1; omega)).symm
/-- few: what both do -/
theorem P_few0 {x y z : Int32} {μX μM : zMem} (h : zInv μX μM) :
    (f8_few x y z μX = some (1, zi 0, μX) ∧ f8_fewE x y z μX = some (1, zi 0, μX) ∧ ∃ w μM', f9_few x y z μM = some (0, w, μM') ∧ μM' 0 0 = zi 1 ∧ zInv μX μM')
    ∨ (∃ v1 v5 v6, (fJ6_bitCount_0f7a4 x μX = some (0, v1, μX) ∧ ¬ x < 0 ∧ ¬ zshl (1 : Int32) (μX 2 1) ≤ x ∧ ¬ v1 < (2 : Int32) ∧ v1 ≤ (4 : Int32) ∧ f8_needQuestion y μX = some (0, v5, μX) ∧ f8_needWhat z (1 : Int32) μX = some (0, v6, μX)) ∧ ∃ v μM', f9_few x y z μM = some (0, v, μM') ∧ μM' 0 0 = zi 0 ∧ ∀ μ', (∀ k, k < 69 → μ' k = μX k) → ∃ μ9, fewT x y z μ' = some (0, v, μ9) ∧ zInv μ9 μM') := by
  have h' := h
  obtain ⟨T, W, r, R, n, m, WI, rI, RI, ⟨hT, hW, hL, hX, hM, hS, hS', h30, hB, hR, hR'⟩, ht, hf, hi⟩ := h
  have hPP := hT.2.1
  have hQ := hT.1
  obtain ⟨hp1, hp2⟩ := pow_p hT
  have hM0 := MT_0 (v := zi 0) hT hM
  have hS0 := MS_0 (v := zi 0) hT hW hS'
  have e00 : zset μM 0 0 (zi 0) 0 0 = zi 0 := zset_00
  have z1' : ∀ A, zin (1 : Int32) 6 A = A := fun A => zin_i (i := 1) (by decide) (by decide)
  have n1 : (1 : Int32).toNatClampNeg = 1 := by decide
  have esX : zshl (1 : Int32) (μX 2 1) = zi (2 ^ T 2 1) := by rw [hX.1.2.1]; exact zshl1 (by omega)
  have esM : zshl (1 : Int32) (zi (T 2 1)) = zi (2 ^ T 2 1) := zshl1 (by omega)
  have bad : ∀ (A : Prop), f8_few x y z μX = some (1, zi 0, μX) → f8_fewE x y z μX = some (1, zi 0, μX) → f9_few x y z μM = some (0, zi 0, zset (zset μM 0 0 (zi 0)) 0 0 (zi 1)) → (f8_few x y z μX = some (1, zi 0, μX) ∧ f8_fewE x y z μX = some (1, zi 0, μX) ∧ ∃ w μM', f9_few x y z μM = some (0, w, μM') ∧ μM' 0 0 = zi 1 ∧ zInv μX μM') ∨ A := fun A k1 k2 k3 =>
    Or.inl ⟨k1, k2, _, _, k3, zset_00, zInv_q h' zfr.refl zmq_00⟩
  have rb : bnd0 (f9_bad (1 : Int32) (1 : Int32) (zset μM 0 0 (zi 0))) (fun (v4 : Int32) (μ5 : zMem) => if v4 = 0 then fFM x y z μ5 else some (0, (0 : Int32), μ5)) = some (0, zi 0, zset (zset μM 0 0 (zi 0)) 0 0 (zi 1)) := by
    rw [show f9_bad (1 : Int32) (1 : Int32) (zset μM 0 0 (zi 0)) = _ from m_bad1 e00 (by decide) (by decide), bnd0_ok, if_neg (show ¬ zi 1 = (0 : Int32) from by decide)]; rfl
  rcases zcase x (2 ^ T 2 1) (by omega) with ⟨b, hb, rfl⟩ | hx
  · have hpl := popc_le b
    have hb0 : ¬ zi b < (0 : Int32) := by rw [show (0 : Int32) = zi 0 from rfl, zi_lt (by omega) (by omega)]; omega
    have hb1 : ¬ zi (2 ^ T 2 1) ≤ zi b := by rw [zi_le (by omega) (by omega)]; omega
    have bc : fJ6_bitCount_0f7a4 (zi b) μX = some (0, zi (popc b), μX) := x_bitCount (by omega)
    have l2 : (zi (popc b) < (2 : Int32)) = (popc b < 2) := zi_lt (b := 2) (by omega) (by decide)
    have l4 : (zi (popc b) ≤ (4 : Int32)) = (popc b ≤ 4) := zi_le (b := 4) (by omega) (by decide)
    by_cases hpc : 2 ≤ popc b ∧ popc b ≤ 4
    · have mi : f9_in (zi (popc b)) (2 : Int32) (4 : Int32) (zset μM 0 0 (zi 0)) = some (0, zi 1, zset μM 0 0 (zi 0)) := m_in_ok (by rw [l2]; omega) (by rw [show (4 : Int32) = zi 4 from rfl, zi_lt (by omega) (by omega)]; omega)
      rcases zcase y (T 2 0) (by omega) with ⟨q, hq, rfl⟩ | hy
      · rcases zcase z 2 (by decide) with ⟨w, hw, rfl⟩ | hz
        · right
          have hg : 1 ≤ W 0 2 := by rw [hL.2.1]; exact (hT.2.2.2.2.2.2.2.1 (by omega)).1
          have hcb := cb_popc hT hb
          obtain ⟨v, m', a1, a2, a3, a4⟩ := m_fewM (w := w) hT hW hL.2.2.1 hg hM0 hS0 (show b < 256 by omega) (by omega) hq hw
          refine ⟨zi (popc b), zi 0, zi 0, ⟨bc, hb0, by rw [esX]; exact hb1, by rw [l2]; omega, by rw [l4]; exact hpc.2, x_needQ_ok hT hX hq, x_needW_ok (n := 1) (by omega) (by decide)⟩, v, m', ?_, ?_, fun μ' hμ' => ?_⟩
          · rw [fFw, zlet_e, show zset μM 0 0 (0 : Int32) = zset μM 0 0 (zi 0) from rfl, zlet_e, zlet_e, if_neg hb0, z1', n1, hM0.1.2.1, esM, if_neg hb1, m_ones (by omega), bnd0_ok, mi, bnd0_ok, if_neg (show ¬ zi 1 = (0 : Int32) from by decide), m_isQ_ok hT hM0 hq, bnd0_ok, if_neg (show ¬ zi 1 = (0 : Int32) from by decide), show f9_in (zi w) (0 : Int32) (1 : Int32) (zset μM 0 0 (zi 0)) = _ from m_inn_o (n := 1) (by decide) (by omega), bnd0_ok, if_neg (show ¬ zi 1 = (0 : Int32) from by decide)]
            show bnd0 (f9_bad (0 : Int32) (1 : Int32) (zset μM 0 0 (zi 0))) _ = _
            rw [show f9_bad (0 : Int32) (1 : Int32) (zset μM 0 0 (zi 0)) = _ from m_bad0 e00, bnd0_ok, if_pos (show zi 0 = (0 : Int32) from rfl)]
            exact a1
          · rw [a4.2 0 (by decide)]; exact e00
          · have hX' : XT T μ' := XT_of (fun key hk => hμ' key (by omega)) hX
            have hS1 : XS T W 23 μ' := XS_of (fun key k1 k2 => hμ' key (by omega)) hS
            obtain ⟨v', μ9, b1, b2, b3, b4⟩ := x_fewT (w := w) hT hW hL.2.2.1 hX' hS1 (show b < 256 by omega) (by omega) hq hw
            have ev : v' = v := by
              by_cases h0 : w = 0
              · exact moC_eq (b2 h0) (a2 h0)
              · exact soC_eq (b3 h0) (a3 h0)
            subst ev
            refine ⟨μ9, b1, zInv_q h' (fun k hk => ?_) (zmq.trans (μ' := zset μM 0 0 (zi 0)) zmq_0 ?_)⟩
            · unfold zsx at hk
              rw [b4 k (by omega), hμ' k (by omega)]
            · refine ⟨⟨a4.2 1 (by decide), a4.2 3 (by decide), a4.2 22 (by decide), a4.2 30 (by decide)⟩, fun key j hk => ?_, fun key hk => a4.1 key (by unfold zmk at hk; omega) (by unfold zmk at hk; omega)⟩
              by_cases h0 : key = 0
              · subst h0
                refine a4.2 j (fun e => ?_)
                subst e
                have := kidx_0 (j := 40) (by decide) (by decide)
                omega
              · by_cases h1 : 1129 ≤ key
                · have := kidx_big (k := key) (j := j) (by unfold zsk; omega)
                  omega
                · rw [a4.1 key h0 h1]
        · refine bad _ ?_ ?_ ?_
          · unfold f8_few
            rw [bc, bnd0_ok, zlet_e, if_neg hb0, esX, if_neg hb1, if_neg (by rw [l2]; omega), if_pos (by rw [l4]; exact hpc.2), x_needQ_ok hT hX hq, bnd_ok, show f8_needWhat z (1 : Int32) μX = _ from x_needW_no (n := 1) (by decide) hz]; rfl
          · unfold f8_fewE
            rw [bc, bnd0_ok, zlet_e, if_neg hb0, esX, if_neg hb1, if_neg (by rw [l2]; omega), if_pos (by rw [l4]; exact hpc.2), x_needQ_ok hT hX hq, bnd_ok, show f8_needWhat z (1 : Int32) μX = _ from x_needW_no (n := 1) (by decide) hz]; rfl
          · rw [fFw, zlet_e, show zset μM 0 0 (0 : Int32) = zset μM 0 0 (zi 0) from rfl, zlet_e, zlet_e, if_neg hb0, z1', n1, hM0.1.2.1, esM, if_neg hb1, m_ones (by omega), bnd0_ok, mi, bnd0_ok, if_neg (show ¬ zi 1 = (0 : Int32) from by decide), m_isQ_ok hT hM0 hq, bnd0_ok, if_neg (show ¬ zi 1 = (0 : Int32) from by decide), show f9_in z (0 : Int32) (1 : Int32) (zset μM 0 0 (zi 0)) = _ from m_inn_c (n := 1) (by decide) hz, bnd0_ok, if_pos (show zi 0 = (0 : Int32) from rfl)]
            exact rb
      · refine bad _ ?_ ?_ ?_
        · unfold f8_few
          rw [bc, bnd0_ok, zlet_e, if_neg hb0, esX, if_neg hb1, if_neg (by rw [l2]; omega), if_pos (by rw [l4]; exact hpc.2), x_needQ_no hX hy]; rfl
        · unfold f8_fewE
          rw [bc, bnd0_ok, zlet_e, if_neg hb0, esX, if_neg hb1, if_neg (by rw [l2]; omega), if_pos (by rw [l4]; exact hpc.2), x_needQ_no hX hy]; rfl
        · rw [fFw, zlet_e, show zset μM 0 0 (0 : Int32) = zset μM 0 0 (zi 0) from rfl, zlet_e, zlet_e, if_neg hb0, z1', n1, hM0.1.2.1, esM, if_neg hb1, m_ones (by omega), bnd0_ok, mi, bnd0_ok, if_neg (show ¬ zi 1 = (0 : Int32) from by decide), m_isQ_no hT hM0 hy, bnd0_ok, if_pos (show zi 0 = (0 : Int32) from rfl)]
          exact rb
    · have mi : f9_in (zi (popc b)) (2 : Int32) (4 : Int32) (zset μM 0 0 (zi 0)) = some (0, zi 0, zset μM 0 0 (zi 0)) := m_in_no (by
        rw [l2, show (4 : Int32) = zi 4 from rfl, zi_lt (by omega) (by omega)]
        omega)
      refine bad _ ?_ ?_ ?_
      · unfold f8_few
        rw [bc, bnd0_ok, zlet_e, if_neg hb0, esX, if_neg hb1]
        by_cases c2 : popc b < 2
        · rw [if_pos (by rw [l2]; exact c2)]; rfl
        · rw [if_neg (by rw [l2]; exact c2), if_neg (by rw [l4]; omega)]; rfl
      · unfold f8_fewE
        rw [bc, bnd0_ok, zlet_e, if_neg hb0, esX, if_neg hb1]
        by_cases c2 : popc b < 2
        · rw [if_pos (by rw [l2]; exact c2)]; rfl
        · rw [if_neg (by rw [l2]; exact c2), if_neg (by rw [l4]; omega)]; rfl
      · rw [fFw, zlet_e, show zset μM 0 0 (0 : Int32) = zset μM 0 0 (zi 0) from rfl, zlet_e, zlet_e, if_neg hb0, z1', n1, hM0.1.2.1, esM, if_neg hb1, m_ones (by omega), bnd0_ok, mi, bnd0_ok, if_pos (show zi 0 = (0 : Int32) from rfl)]
        exact rb
  · refine bad _ ?_ ?_ ?_
    · unfold f8_few
      rw [x_bc, bnd0_ok, zlet_e]
      by_cases c1 : x < 0
      · rw [if_pos c1]; rfl
      · rw [if_neg c1, esX, if_pos (hx.resolve_left c1)]; rfl
    · unfold f8_fewE
      rw [x_bc, bnd0_ok, zlet_e]
      by_cases c1 : x < 0
      · rw [if_pos c1]; rfl
      · rw [if_neg c1, esX, if_pos (hx.resolve_left c1)]; rfl
    · rw [fFw, zlet_e, show zset μM 0 0 (0 : Int32) = zset μM 0 0 (zi 0) from rfl, zlet_e, zlet_e]
      by_cases c1 : x < 0
      · rw [if_pos c1]; exact rb
      · rw [if_neg c1, z1', n1, hM0.1.2.1, esM, if_pos (hx.resolve_left c1)]; exact rb
theorem P_few {x y z : Int32} {μX μM : zMem} (h : zInv μX μM) : zPm cI (f8_few x y z μX) (f9_few x y z μM) := by
  rcases P_few0 (x := x) (y := y) (z := z) h with ⟨h1, -, w, μM', h2, h3, h4⟩ | ⟨v1, v5, v6, ⟨k1, k2, k3, k4, k5, k6, k7⟩, v, μM', h2, h3, h4⟩
  · exact ⟨1, zi 0, μX, w, μM', h1, h2, h3, fun q => absurd q (by decide), Or.inr (by decide), h4⟩
  · obtain ⟨μ9, b1, b2⟩ := h4 μX (fun _ _ => rfl)
    refine ⟨0, v, μ9, v, μM', ?_, h2, h3, fun _ => rfl, Or.inl rfl, b2⟩
    unfold f8_few
    rw [k1, bnd0_ok, zlet_e, if_neg k2, if_neg k3, if_neg k4, if_pos k5, k6, bnd_ok, k7, bnd_ok]
    exact b1
