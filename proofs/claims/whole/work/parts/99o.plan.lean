/-! THE PURE SIDE, 54: slack -/
theorem nup_nup {W : zN2} {k j u v : Nat} : nup (nup W k j u) k j v = nup W k j v := by
  funext k' j'
  rw [nup_at, nup_at, nup_at]
  by_cases h : k' = k ∧ j' = j
  · rw [if_pos h, if_pos h]
  · rw [if_neg h, if_neg h, if_neg h]
theorem nup_self {W : zN2} {k j v : Nat} (h : W k j = v) : nup W k j v = W := by
  funext k' j'
  rw [nup_at]
  by_cases e : k' = k ∧ j' = j
  · rw [if_pos e, e.1, e.2, h]
  · rw [if_neg e]
theorem wb_gap {T W : zN2} (hW : WB T W) {g : Nat} (hg : g ≤ 8) : WB T (nup W 0 2 g) := by
  unfold WB at hW ⊢
  obtain ⟨h1, h2, h3, h4, h5, h6, h7, h8, h9⟩ := hW
  refine ⟨?_, ?_, by rw [nup_eq]; exact hg, ?_, ?_, fun p => ?_, fun p => ?_, fun p q' => ?_, ?_⟩
  · rw [nup_nj (by decide)]; exact h1
  · rw [nup_nj (by decide)]; exact h2
  · rw [nup_nj (by decide)]; exact h4
  · rw [nup_nj (by decide)]; exact h5
  · rw [nup_nk (by decide)]; exact h6 p
  · rw [nup_nk (by decide)]; exact h7 p
  · rw [nup_nk (by omega)]; exact h8 p q'
  · rw [nup_nj (by decide)]; exact h9
theorem xs_gap {T W : zN2} {k g : Nat} {μ : zMem} (hS : XS T W k μ) : XS T (nup W 0 2 g) k (zset μ k 3 (zi g)) := by
  obtain ⟨⟨s1, s2, s3, s4, s5⟩, s6⟩ := hS
  refine ⟨⟨?_, ?_, ?_, ?_, ?_⟩, fun p hp => ?_⟩
  · rw [zset_nj (by decide), nup_nj (by decide)]; exact s1
  · rw [zset_nj (by decide), nup_nj (by decide)]; exact s2
  · rw [zset_eq, nup_eq]
  · rw [zset_nj (by decide), nup_nj (by decide)]; exact s4
  · rw [zset_nj (by decide), nup_nj (by decide)]; exact s5
  · rw [nup_nj (by decide)] at hp
    rw [zset_nk (by omega), zset_nk (by omega), zset_nk (by omega), nup_nk (by decide), nup_nk (by decide)]
    refine ⟨(s6 p hp).1, (s6 p hp).2.1, fun q' hq' => ?_⟩
    rw [nup_nk (by omega)]; exact (s6 p hp).2.2 q' hq'
theorem ms_gap {T W : zN2} {g : Nat} {μ : zMem} (hS : MS T W μ) : MS T (nup W 0 2 g) (zset μ 4 3 (zi g)) := by
  obtain ⟨⟨s1, s2, s3⟩, s4, s5, s6⟩ := hS
  refine ⟨⟨?_, ?_, ?_⟩, fun p hp => ?_, fun p hp => ?_, fun d hd => ?_⟩
  · rw [zset_nk (by decide), nup_nj (by decide)]; exact s1
  · rw [zset_nk (by decide), nup_nj (by decide), nup_nj (by decide)]; exact s2
  · rw [zset_eq, nup_eq]
  · rw [nup_nj (by decide)] at hp
    rw [zset_nk (by decide), zset_nk (by omega), nup_nk (by decide)]
    refine ⟨(s4 p hp).1, fun q' hq' => ?_⟩
    rw [nup_nk (by omega)]; exact (s4 p hp).2 q' hq'
  · rw [zset_nk (by omega), nup_nk (by decide)]; exact s5 p hp
  · rw [zset_nk (by decide), nup_nj (by decide)]; exact s6 d hd
noncomputable def skG (T W : zN2) (due : Nat) : Nat → Nat
  | 0 => 0
  | g + 1 => if tdW T (nup W 0 2 (g + 1)) = due then g + 1 else skG T W due g
theorem x_slack27 {T W : zN2} {due : Nat} (hT : TB T) (hW : WB T W) (h1 : 1 ≤ T 2 3) (hdue : tdW T (nup W 0 2 (T 2 3)) = due) (hd9 : due ≤ 990) : ∀ (g n : Nat) (μ : zMem) (u : Nat), T 2 3 ≤ g → g ≤ 8 → g < n → XT T μ → XS T (nup W 0 2 u) 28 μ →
    ∃ μ', f8_slack_L27 (zi due) (fun (μ18 : zMem) => some (0, μ18 2 3, μ18)) (fun (x3_19 : Int32) (μ20 : zMem) => some (0, x3_19, μ20)) n (zi g) μ = some (0, zi (skG T W due g), μ') ∧ zfr pz μ μ'
  | 0, n, μ, u, a1, _, _, _, _ => absurd a1 (by omega)
  | g + 1, n, μ, u, a1, a2, a3, hX, hS => by
    have h23 := hT.2.2.2.1
    obtain ⟨n, rfl⟩ : ∃ k, n = k + 1 := ⟨n - 1, by omega⟩
    by_cases e : T 2 3 = g + 1
    · refine ⟨μ, ?_, zfr.refl⟩
      rw [f8_slack_L27, hX.1.2.2.2.1, if_pos (show zi (g + 1) ≤ zi (T 2 3) from by rw [e]; exact Int32.le_refl _), skG, if_pos (by rw [← e]; exact hdue)]
      rw [e]
    · have hX1 : XT T (zset μ 28 3 (zi (g + 1))) := XT_of (fun key hk => zset_nk (by omega)) hX
      have hS1 : XS T (nup W 0 2 (g + 1)) 28 (zset μ 28 3 (zi (g + 1))) := by
        have := xs_gap (g := g + 1) hS
        rw [nup_nup] at this; exact this
      obtain ⟨μ2, b1, b2, b3⟩ := x_make hT (wb_gap hW a2) hX1 hS1
      have hf2 : zfr pz μ μ2 := (zfr.set (k := 28) (j := 3) (v := zi (g + 1)) zfr.refl (show pz 28 by unfold pz; omega)).trans (b3.mono (fun k hk => by unfold pz; omega))
      have hw := x_worthAtMost hT (wb_gap hW a2) b2
      have hb := (td_lt (W := nup W 0 2 (g + 1)) hT).2.1
      have z1 : zi (g + 1) + (-1 : Int32) = zi g := by rw [zneg1, zi_pred (by omega)]; rfl
      have hq : f8_slack_L27 (zi due) (fun (μ18 : zMem) => some (0, μ18 2 3, μ18)) (fun (x3_19 : Int32) (μ20 : zMem) => some (0, x3_19, μ20)) (n + 1) (zi (g + 1)) μ = if zi (tdW T (nup W 0 2 (g + 1))) = zi due then some (0, zi (g + 1), μ2) else f8_slack_L27 (zi due) (fun (μ18 : zMem) => some (0, μ18 2 3, μ18)) (fun (x3_19 : Int32) (μ20 : zMem) => some (0, x3_19, μ20)) n (zi g) μ2 := by
        rw [f8_slack_L27, hX.1.2.2.2.1, if_neg (show ¬ zi (g + 1) ≤ zi (T 2 3) from by rw [zi_le (by omega) (by omega)]; omega), zlet_e, b1, bnd0_ok, hw, bnd0_ok, z1]
      rw [hq, skG]
      by_cases e2 : tdW T (nup W 0 2 (g + 1)) = due
      · rw [if_pos (by rw [e2]), if_pos e2]
        exact ⟨μ2, rfl, hf2⟩
      · rw [if_neg (by rw [zi_eq (by omega) (by omega)]; exact e2), if_neg e2]
        obtain ⟨μ3, c1, c2⟩ := x_slack27 hT hW h1 hdue hd9 g n μ2 (g + 1) (by omega) (by omega) (by omega) (XT_of (fun key hk => hf2 key (by unfold pz; omega)) hX) (XS_of (fun key k1 k2 => b3 key (by omega)) hS1)
        exact ⟨μ3, c1, hf2.trans c2⟩
/-- what slack changes in the reference -/
def sfr (μ μ' : zMem) : Prop := mfr (fun j => j = 34 ∨ j = 35) (fun k => k = 4 ∨ (101 ≤ k ∧ k < 1125)) μ μ' ∧ ∀ j, j ≠ 3 → μ' 4 j = μ 4 j
theorem sfr.refl {μ : zMem} : sfr μ μ := ⟨mfr.refl, fun _ _ => rfl⟩
theorem sfr.trans {μ μ' μ'' : zMem} (h : sfr μ μ') (h' : sfr μ' μ'') : sfr μ μ'' := ⟨h.1.trans h'.1, fun j hj => (h'.2 j hj).trans (h.2 j hj)⟩
theorem MT_sfr {T : zN2} {μ μ' : zMem} (h : sfr μ μ') (hT : TB T) (hM : MT T μ) : MT T μ' :=
  MT_at h.2 (h.1.1 47 (by omega) (by omega)) (h.1.1 49 (by omega) (by omega)) (fun p _ => congrFun (h.1.1 (15 + p) (by omega) (by omega)) 5) (fun d _ => h.1.1 (36 + d) (by omega) (by omega)) hT hM
theorem m_slack45 {T W W' : zN2} {x : Int32} {due : Nat} {μ0 : zMem} (hT : TB T) (hW : WB T W) (hP : W 0 3 = T 2 1) (hq : qOk T W x W') (hd0 : 0 < due) (hd9 : due ≤ 990) (hM : MT T μ0) (hS : MS T W μ0) (h30 : μ0 0 30 = zN1) (K : Int32 → zMem → zRes) : ∀ (g n : Nat) (μ : zMem), g ≤ 8 → g + 1 < n → sfr μ0 μ →
    ∃ μ', f9_slack_L45 x (zi due) K n (zi 0) (zi g) μ = K (zi (skG T W' due g)) μ' ∧ sfr μ0 μ'
  | 0, n, μ, _, a2, hf => by
    obtain ⟨n, rfl⟩ : ∃ k, n = k + 1 := ⟨n - 1, by omega⟩
    refine ⟨μ, ?_, hf⟩
    rw [f9_slack_L45, if_pos (show zi 0 ≤ (0 : Int32) from Int32.le_refl _)]; rfl
  | g + 1, n, μ, a1, a2, hf => by
    obtain ⟨n, rfl⟩ : ∃ k, n = k + 1 := ⟨n - 1, by omega⟩
    have hPP := hT.2.1
    have z3 : ∀ A, zin (3 : Int32) 6 A = A := fun A => zin_i (i := 3) (by decide) (by decide)
    have z1' : ∀ A, zin (1 : Int32) 6 A = A := fun A => zin_i (i := 1) (by decide) (by decide)
    have n3 : (3 : Int32).toNatClampNeg = 3 := by decide
    have n1 : (1 : Int32).toNatClampNeg = 1 := by decide
    have z1 : zi (g + 1) + (-1 : Int32) = zi g := by rw [zneg1, zi_pred (by omega)]; rfl
    have f1 : sfr μ0 (zset μ 4 3 (zi (g + 1))) := ⟨hf.1.set (by decide) (Or.inl rfl), fun j hj => by rw [zset_nj hj]; exact hf.2 j hj⟩
    have hM1 := MT_sfr f1 hT hM
    have hS1 : MS T (nup W 0 2 (g + 1)) (zset μ 4 3 (zi (g + 1))) := by
      have hh : MS T (nup W 0 2 (g + 1)) (zset μ0 4 3 (zi (g + 1))) := ms_gap hS
      refine MS_at ?_ ?_ ?_ ?_ ?_ (fun p _ => ?_) (fun p _ => ?_) hT (wb_gap hW a1) hh
      · rw [zset_nk (by decide), zset_nk (by decide)]; exact hf.1.2 20 (by decide)
      · rw [zset_nk (by decide), zset_nk (by decide)]; exact hf.1.2 30 (by decide)
      · rw [zset_eq, zset_eq]
      · rw [zset_nk (by decide), zset_nk (by decide)]; exact hf.1.1 91 (by decide) (by omega)
      · rw [zset_nk (by decide), zset_nk (by decide)]; exact hf.1.1 92 (by decide) (by omega)
      · rw [zset_nk (by omega), zset_nk (by omega)]; exact hf.1.1 (51 + p) (by omega) (by omega)
      · rw [zset_nk (by omega), zset_nk (by omega)]; exact congrFun (hf.1.1 (15 + p) (by omega) (by omega)) 4
    have hq1 : qOk T (nup W 0 2 (g + 1)) x (nup W' 0 2 (g + 1)) := by
      rcases hq with ⟨e1, e2⟩ | ⟨q, e0, e1, e2⟩
      · exact Or.inl ⟨e1, by rw [e2]⟩
      · refine Or.inr ⟨q, e0, e1, ?_⟩
        rw [e2]
        funext k j
        simp only [nup_at]
        by_cases c1 : k = 0 ∧ j = 2
        · rw [if_pos c1, if_neg (by omega), if_pos c1]
        · by_cases c2 : k = 0 ∧ j = 1
          · rw [if_neg c1, if_pos c2, if_pos c2]
          · rw [if_neg c1, if_neg c2, if_neg c2, if_neg c1]
    have e30 : zset μ 4 3 (zi (g + 1)) 0 30 = zN1 := by rw [zset_nk (by decide)]; exact (hf.1.2 30 (by decide)).trans h30
    obtain ⟨μ2, b1, b2, b3, b4, b5⟩ := m_today hT (qOk_wb (wb_gap hW a1) hq1) (x2 := x) (μ := zset μ 4 3 (zi (g + 1))) rfl hM1 (ms_asked hT (wb_gap hW a1) hS1 e30 hq1)
    have eP : nup W' 0 2 (g + 1) 0 3 = T 2 1 := by rw [nup_nj (by decide), qOk_0 hq 0 3 (by omega)]; exact hP
    rw [eP] at b1
    have f2 : sfr μ0 μ2 := f1.trans ⟨b5.mono (fun j hj => hj) (fun k hk => Or.inr hk), fun j _ => congrFun (b5.1 4 (by decide) (by omega)) j⟩
    have hb := (td_lt (W := nup W' 0 2 (g + 1)) hT).2.1
    have hqq : f9_slack_L45 x (zi due) K (n + 1) (zi 0) (zi (g + 1)) μ = if zi (tdW T (nup W' 0 2 (g + 1))) = zi due then f9_slack_L45 x (zi due) K n (zi (g + 1)) (zi g) μ2 else f9_slack_L45 x (zi due) K n (zi 0) (zi g) μ2 := by
      rw [f9_slack_L45, if_neg (show ¬ zi (g + 1) ≤ (0 : Int32) from by rw [show (0 : Int32) = zi 0 from rfl, zi_le (by omega) (by omega)]; omega), if_pos (show zi 0 = (0 : Int32) from rfl), if_neg (show ¬ zi due ≤ (0 : Int32) from by rw [show (0 : Int32) = zi 0 from rfl, zi_le (by omega) (by omega)]; omega), z3, n3, zlet_e, z1', n1, hM1.1.2.1, b1, bnd0_ok, zlet_e, b2, z1]
      rfl
    rw [hqq, skG]
    by_cases e2 : tdW T (nup W' 0 2 (g + 1)) = due
    · rw [if_pos (by rw [e2]), if_pos e2]
      refine ⟨μ2, ?_, f2⟩
      obtain ⟨n, rfl⟩ : ∃ k, n = k + 1 := ⟨n - 1, by omega⟩
      rw [f9_slack_L45]
      by_cases e3 : g = 0
      · rw [if_pos (show zi g ≤ (0 : Int32) from by rw [e3]; exact Int32.le_refl _)]
      · rw [if_neg (show ¬ zi g ≤ (0 : Int32) from by rw [show (0 : Int32) = zi 0 from rfl, zi_le (by omega) (by omega)]; omega), if_neg (show ¬ zi (g + 1) = (0 : Int32) from by rw [show (0 : Int32) = zi 0 from rfl, zi_eq (by omega) (by omega)]; omega)]
    · rw [if_neg (by rw [zi_eq (by omega) (by omega)]; exact e2), if_neg e2]
      exact m_slack45 hT hW hP hq hd0 hd9 hM hS h30 K g n μ2 (by omega) (by omega) f2
theorem P_slack {x : Int32} {μX μM : zMem} (h : zInv μX μM) : zPm cI (f8_slack x μX) (f9_slack x μM) := by
  have h' := h
  obtain ⟨T, W, r, R, n, m, WI, rI, RI, ⟨hT, hW, hL, hX, hM, hS, hS', h30, hB, hR, hR'⟩, ht, hf, hi⟩ := h
  have hPP := hT.2.1
  have hM0 := MT_0 (v := zi 0) hT hM
  have hS0 := MS_0 (v := zi 0) hT hW hS'
  have e00 : zset μM 0 0 (zi 0) 0 0 = zi 0 := zset_00
  have e30 : zset μM 0 0 (zi 0) 0 30 = zN1 := by rw [zset_nj (by decide)]; exact h30
  have z3 : ∀ A, zin (3 : Int32) 6 A = A := fun A => zin_i (i := 3) (by decide) (by decide)
  have z1' : ∀ A, zin (1 : Int32) 6 A = A := fun A => zin_i (i := 1) (by decide) (by decide)
  have n3 : (3 : Int32).toNatClampNeg = 3 := by decide
  have n1 : (1 : Int32).toNatClampNeg = 1 := by decide
  rcases qcase (W := W) hT x with ⟨W', hq⟩ | hx
  · have hW' := qOk_wb hW hq
    have eP : W' 0 3 = T 2 1 := (qOk_0 hq 0 3 (by omega)).trans hL.2.2.1
    have eG : W' 0 2 = T 2 3 := (qOk_0 hq 0 2 (by omega)).trans hL.2.1
    obtain ⟨μ1, a1, a2, a3, a4⟩ := x_planToday hT hW hX hS hq
    obtain ⟨m1, b1, b2, b3, b4, b5⟩ := m_today hT hW' (x2 := x) (μ := zset μM 0 0 (zi 0)) rfl hM0 (ms_asked hT hW hS0 e30 hq)
    rw [eP] at b1
    have hw := x_worthAtMost hT hW' a2
    have hb := (td_lt (W := W') hT).2.1
    have m4 : m1 4 3 = zi (T 2 3) := by rw [b5.1 4 (by decide) (by omega), zset_nk (by decide), hS'.1.2.2, hL.2.1]
    have hX1 : XT T μ1 := XT_of (fun key hk => a4 key (by unfold pz; omega)) hX
    -- the reference's end
    have fin : ∀ (v : Int32) (m2 : zMem), sfr m1 m2 → f9_slack_L45 x (zi (tdW T W')) (fun (x4_32 : Int32) (μ33 : zMem) => zin (3 : Int32) 6 (zlet (zset μ33 4 (3 : Int32).toNatClampNeg (zi (T 2 3))) (fun (μ15 : zMem) => some (0, x4_32, μ15)))) zF (0 : Int32) (8 : Int32) m1 = (fun (x4_32 : Int32) (μ33 : zMem) => zin (3 : Int32) 6 (zlet (zset μ33 4 (3 : Int32).toNatClampNeg (zi (T 2 3))) (fun (μ15 : zMem) => some (0, x4_32, μ15)))) v m2 →
        f9_slack x μM = some (0, v, zset m2 4 3 (zi (T 2 3))) ∧ zmq μM (zset m2 4 3 (zi (T 2 3))) ∧ zset m2 4 3 (zi (T 2 3)) 0 0 = zi 0 := by
      intro v m2 hs he
      refine ⟨?_, ?_, ?_⟩
      · unfold f9_slack
        rw [zlet_e, show zset μM 0 0 (0 : Int32) = zset μM 0 0 (zi 0) from rfl, m_badAsked_ok hT hM0 e00 hq, bnd0_ok, if_pos (show zi 0 = (0 : Int32) from rfl), z1', n1, hM0.1.2.1, b1, bnd0_ok, zlet_e, z3, n3, zlet_e, zlet_e, b2, m4]
        rw [n3] at he
        refine he.trans ?_
        show zin _ _ _ = _
        rw [z3, zlet_e]
      · refine zmq_0.trans ((zmq_today b5).trans ?_)
        refine ⟨⟨?_, ?_, ?_, ?_⟩, fun key j hk => ?_, fun key hk => ?_⟩
        · rw [zset_nk (by decide)]; exact hs.1.2 1 (by decide)
        · rw [zset_nk (by decide)]; exact hs.1.2 3 (by decide)
        · rw [zset_nk (by decide)]; exact hs.1.2 22 (by decide)
        · rw [zset_nk (by decide)]; exact hs.1.2 30 (by decide)
        · by_cases h0 : key = 0
          · subst h0
            rw [zset_nk (by decide)]
            refine hs.1.2 j (fun q => ?_)
            have := kidx_0 (j := j) (by omega) (by omega)
            omega
          · by_cases h1 : key = 4 ∨ (101 ≤ key ∧ key < 1125)
            · have := kidx_big (k := key) (j := j) (by unfold zsk; omega)
              omega
            · rw [zset_nk (by omega), hs.1.1 key h0 h1]
        · by_cases h4 : key = 4
          · subst h4
            funext j
            by_cases h3 : j = 3
            · subst h3; rw [zset_eq, m4]
            · rw [zset_nj h3]; exact hs.2 j h3
          · rw [zset_nk h4]
            exact hs.1.1 key (by unfold zmk at hk; omega) (by unfold zmk at hk; omega)
      · rw [zset_nk (by decide), hs.1.2 0 (by decide), b5.2 0 (by decide)]; exact e00
    by_cases hd : tdW T W' = 0
    · obtain ⟨c1, c2, c3⟩ := fin (zi 0) m1 sfr.refl (by
        rw [show zF = 999999 + 1 from rfl, f9_slack_L45, if_neg (show ¬ (8 : Int32) ≤ (0 : Int32) from by decide), if_pos (show (0 : Int32) = 0 from rfl), if_pos (show zi (tdW T W') ≤ (0 : Int32) from by rw [hd]; exact Int32.le_refl _)]; rfl)
      refine zPm_q h' (μX' := μ1) (e := 0) (v := zi 0) ?_ c1 c3 (fun _ => rfl) (Or.inl rfl) (pz_zsx a4) c2
      unfold f8_slack
      rw [x_needQN_ok hT hX hq, bnd_ok, a1, bnd0_ok, hw, bnd0_ok, if_pos (show zi (tdW T W') = (0 : Int32) from by rw [hd]; rfl)]; rfl
    · have h0 : 0 < T 2 0 := by
        apply Nat.pos_of_ne_zero
        intro e
        have := (hT.2.2.2.2.2.2.1 e).2.1
        apply hd
        unfold tdW
        rw [this]; rfl
      have h1 : 1 ≤ T 2 3 := (hT.2.2.2.2.2.2.2.1 h0).1
      have eW : nup W' 0 2 (T 2 3) = W' := nup_self eG
      have h23 := hT.2.2.2.1
      obtain ⟨μ2, d1, d2⟩ := x_slack27 (W := W') (due := tdW T W') hT hW' h1 (by rw [eW]) hb 8 zF μ1 (T 2 3) h23 (Nat.le_refl _) (by unfold zF; omega) hX1 (by rw [eW]; exact a3)
      obtain ⟨m2, f1, f2⟩ := m_slack45 (W := W) (W' := W') (x := x) (due := tdW T W') (μ0 := m1) hT hW hL.2.2.1 hq (by omega) hb (MT_q (zmq_today b5).2.2 hT hM0) (MS_q (zmq_today b5) hT hW hS0) ((b5.2 30 (by decide)).trans e30) (fun (x4_32 : Int32) (μ33 : zMem) => zin (3 : Int32) 6 (zlet (zset μ33 4 (3 : Int32).toNatClampNeg (zi (T 2 3))) (fun (μ15 : zMem) => some (0, x4_32, μ15)))) 8 zF m1 (Nat.le_refl _) (by unfold zF; omega) sfr.refl
      obtain ⟨c1, c2, c3⟩ := fin _ m2 f2 f1
      refine zPm_q h' (μX' := μ2) (e := 0) (v := zi (skG T W' (tdW T W') 8)) ?_ c1 c3 (fun _ => rfl) (Or.inl rfl) (pz_zsx (a4.trans d2)) c2
      unfold f8_slack
      rw [x_needQN_ok hT hX hq, bnd_ok, a1, bnd0_ok, hw, bnd0_ok, if_neg (show ¬ zi (tdW T W') = (0 : Int32) from by rw [show (0 : Int32) = zi 0 from rfl, zi_eq (by omega) (by omega)]; exact hd)]
      exact d1
  · refine zPm_q h' (μX' := μX) (μM' := zset (zset μM 0 0 (zi 0)) 0 0 (zi 1)) (e := 1) (v := zi 0) (w := zi 0) ?_ ?_ zset_00 (fun h => absurd h (by decide)) (Or.inr (by decide)) zfr.refl zmq_00
    · unfold f8_slack
      rw [x_needQN_no hX hx]; rfl
    · unfold f9_slack
      rw [zlet_e, show zset μM 0 0 (0 : Int32) = zset μM 0 0 (zi 0) from rfl, m_badAsked_no hT hM0 e00 hx, bnd0_ok, if_neg (show ¬ zi 1 = (0 : Int32) from by decide)]; rfl
