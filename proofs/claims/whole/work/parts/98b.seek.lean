/-! THE PURE SIDE, 39: BEST ROW, TWO DAYS in the class; a second WORK in the reference -/
theorem x_forget {μ : zMem} : ∃ m, f6_forget μ = some (0, zi 0, m) ∧ xQ (0, zN1, zN1) m ∧ f57 μ m := by
  refine ⟨zset (zset (zset μ 58 3 (zi 0)) 58 4 zN1) 58 5 zN1, ?_, ⟨?_, ?_, zset_eq⟩, (((zfr.refl (S := fun k => k = 58)).set rfl).set rfl).set rfl⟩
  · unfold f6_forget; simp only [zlet_e, ↓zneg1, zlit]
  · rw [zset_nj (by decide), zset_nj (by decide), zset_eq]
  · rw [zset_nj (by decide), zset_eq]
def bestV (T W : zN2) : qT := zcand (T 2 2) (T 2 1) (sS T W 0) (pB T W)
def twoV (T W : zN2) : qT := if W 0 0 < 29 then zcand (T 2 2) (T 2 1) (sS T W 1) (qB T (tD T W (W 0 0 + 1)) 0 zN1 (pB T W)) else pB T W
theorem x_bestRow {T W : zN2} {μ : zMem} (hT : TB T) (hW : WB T W) (hP : W 0 3 = T 2 1) (hX : XT T μ) (hS : XS T W 23 μ) : ∃ m, f6_seekBestRow μ = some (0, zi 0, m) ∧ xQ (bestV T W) m ∧ zfr zsx μ m := by
  obtain ⟨m1, a1, a2, a3⟩ := x_forget (μ := μ)
  have hS1 : XS T W 23 m1 := XS_of (fun key h1 h2 => a3 key (by omega)) hS
  have hX1 : XT T m1 := XT_of (fun key hk => a3 key (by omega)) hX
  obtain ⟨m2, b1, b2, b3, -⟩ := x_copyWorld (k := 59) (k2 := 23) (by omega) hT hW hS1
  have hX2 : XT T m2 := XT_of (fun key hk => b3 key (by omega)) hX1
  have q2 : xQ (0, zN1, zN1) m2 := by unfold xQ; rw [b3 58 (by omega)]; exact a2
  obtain ⟨m3, c1, c2, c3, c4⟩ := x_seekFirst hT hW hP hX2 b2 q2
  have hX3 : XT T m3 := XT_of (fun key hk => c4 key (by omega)) hX2
  have hS3 : XS T W 59 m3 := XS_of (fun key h1 h2 => c4 key (by omega)) b2
  obtain ⟨m4, d1, d2, d3, d4⟩ := x_seekTwo (nd := 0) hT hW hP hX3 hS3 (by decide) (Or.inl rfl) c2 c3
  have d1' : f6_seekTwo (0 : Int32) m3 = some (0, zi 0, m4) := d1
  refine ⟨m4, ?_, d2, ?_⟩
  · unfold f6_seekBestRow
    rw [a1, bnd0_ok, b1, bnd0_ok, c1, bnd0_ok, d1', bnd0_ok]; rfl
  · exact (a3.mono (fun q hq => by unfold zsx; omega)).trans ((b3.mono (fun q hq => by unfold zsx; omega)).trans ((c4.mono (fun q hq => by unfold zsx; omega)).trans (d4.mono (fun q hq => by unfold zsx; omega))))
theorem x_twoDays {T W : zN2} {μ : zMem} (hT : TB T) (hW : WB T W) (hP : W 0 3 = T 2 1) (hX : XT T μ) (hS : XS T W 23 μ) : ∃ m, f6_seekTwoDays μ = some (0, zi 0, m) ∧ xQ (twoV T W) m ∧ zfr zsx μ m := by
  have hN := hW.1
  obtain ⟨m1, a1, a2, a3⟩ := x_forget (μ := μ)
  have hS1 : XS T W 23 m1 := XS_of (fun key h1 h2 => a3 key (by omega)) hS
  have hX1 : XT T m1 := XT_of (fun key hk => a3 key (by omega)) hX
  obtain ⟨m2, b1, b2, b3, -⟩ := x_copyWorld (k := 59) (k2 := 23) (by omega) hT hW hS1
  have hX2 : XT T m2 := XT_of (fun key hk => b3 key (by omega)) hX1
  have hS2 : XS T W 23 m2 := XS_of (fun key h1 h2 => b3 key (by omega)) hS1
  have q2 : xQ (0, zN1, zN1) m2 := by unfold xQ; rw [b3 58 (by omega)]; exact a2
  obtain ⟨m3, c1, c2, c3, c4⟩ := x_seekFirst hT hW hP hX2 b2 q2
  have hX3 : XT T m3 := XT_of (fun key hk => c4 key (by omega)) hX2
  have hS3 : XS T W 59 m3 := XS_of (fun key h1 h2 => c4 key (by omega)) b2
  have hS3' : XS T W 23 m3 := XS_of (fun key h1 h2 => c4 key (by omega)) hS2
  have f3 : zfr zsx μ m3 := (a3.mono (fun q hq => by unfold zsx; omega)).trans ((b3.mono (fun q hq => by unfold zsx; omega)).trans (c4.mono (fun q hq => by unfold zsx; omega)))
  unfold f6_seekTwoDays twoV
  rw [a1, bnd0_ok, b1, bnd0_ok, c1, bnd0_ok]
  by_cases h29 : W 0 0 < 29
  · rw [if_pos (show m3 23 1 < (29 : Int32) from by rw [hS3'.1.1, show (29 : Int32) = zi 29 from rfl, zi_lt (by omega) (by omega)]; exact h29), if_pos h29]
    obtain ⟨m4, d1, d2, d3, -⟩ := x_copyWorld (k := 64) (k2 := 23) (by omega) hT hW hS3'
    have hX4 : XT T m4 := XT_of (fun key hk => d3 key (by omega)) hX3
    have e23 : m4 23 1 + (1 : Int32) = zi (W 0 0 + 1) := by rw [d3 23 (by omega), hS3'.1.1]; exact zi_add _ 1
    obtain ⟨m5, g1, g2, g3, -⟩ := x_beginDay (k := 64) (day := W 0 0 + 1) (by decide) hT hW hX4 d2 (by omega)
    have hX5 : XT T m5 := XT_of (fun key hk => g3 key (by omega)) hX4
    have f35 : zfr (fun k => 64 ≤ k ∧ k < 68) m3 m5 := d3.trans (g3.mono (fun q hq => by omega))
    have q5 : xQ (pB T W) m5 := by unfold xQ; rw [f35 58 (by omega)]; exact c2
    obtain ⟨m6, t1, t2, t3, t4⟩ := x_seekSecond0 hT (wb_dawn hT hW (by omega)) hP hX5 g2 c3 q5
    have t1' : f6_seekSecond (-1 : Int32) m5 = some (0, zi 0, m6) := t1
    have hX6 : XT T m6 := XT_of (fun key hk => t4 key (by omega)) hX5
    have hS6 : XS T W 59 m6 := XS_of (fun key h1 h2 => by rw [t4 key (by omega), f35 key (by omega)]) hS3
    obtain ⟨m7, u1, u2, u3, u4⟩ := x_seekTwo (nd := 1) hT hW hP hX6 hS6 (by decide) (Or.inr h29) t2 t3
    have u1' : f6_seekTwo (1 : Int32) m6 = some (0, zi 0, m7) := u1
    refine ⟨m7, ?_, u2, f3.trans ((f35.mono (fun q hq => by unfold zsx; omega)).trans ((t4.mono (fun q hq => by unfold zsx; omega)).trans (u4.mono (fun q hq => by unfold zsx; omega))))⟩
    rw [d1, bnd0_ok, e23, g1, bnd0_ok, t1', bnd0_ok, u1', bnd0_ok]; rfl
  · rw [if_neg (show ¬ m3 23 1 < (29 : Int32) from by rw [hS3'.1.1, show (29 : Int32) = zi 29 from rfl, zi_lt (by omega) (by omega)]; exact h29), if_neg h29]
    exact ⟨m3, rfl, c2, f3⟩
/-- the reference's memory behind a look: what counts is as it was, 1127 too -/
def zmb (μ μ' : zMem) : Prop := zmq μ μ' ∧ μ' 0 0 = μ 0 0 ∧ μ' 1127 = μ 1127
theorem zmb_aside {μ μ1 μ2 μ3 : zMem} {J S : Nat → Prop} (a1 : ∀ key j, kidx key j < 177 → μ1 (98 + 1) (kidx key j) = μ key j) (a2 : mfr (fun j => j = 29) (fun k => k = 98 + 1) μ μ1) (h : mfr J S μ1 μ2)
    (b1 : ∀ key j, kidx key j < 177 → μ3 key j = μ2 (98 + 1) (kidx key j)) (b2 : ∀ key j, 177 ≤ kidx key j → ¬ (key = 0 ∧ j = 29) → μ3 key j = μ2 key j)
    (hS : ∀ k, S k → zsk k) (hJ : ∀ j, J j → j = 20) : zmb μ μ3 := by
  obtain ⟨q1, q2⟩ := zmq_aside (i := 1) (by decide) a1 a2 h b1 b2 (fun q => by have := hS _ q; unfold zsk at this; omega) (fun k hk q => by have := hS _ q; unfold zmk at hk; unfold zsk at this; omega) ⟨fun q => by have := hJ _ q; omega, fun q => by have := hJ _ q; omega, fun q => by have := hJ _ q; omega, fun q => by have := hJ _ q; omega⟩
  refine ⟨q1, q2 0 (fun q => by have := hJ _ q; omega) (by decide) (by decide) (by decide), ?_⟩
  funext j
  rw [b2 1127 j (by rw [kidx_big (by unfold zsk; omega)]; decide) (by omega), h.1 1127 (by decide) (fun q => by have := hS _ q; unfold zsk at this; omega), a2.1 1127 (by decide) (by decide)]
theorem m_secondOf {T W : zN2} {μ : zMem} (hT : TB T) (hW : WB T W) (hP : W 0 3 = T 2 1) (hM : MT T μ) (hS : MS T W μ) {c : Nat} (hc : cok T c) (he : tE T W (c / 100) (c / 10 % 10) (c % 10) = 0) :
    ∃ μ', f9_secondOf (zi (c / 100)) (zi (c / 10 % 10)) (zi (c % 10)) μ = some (0, oI (bN T (vB T W 0 c)), μ') ∧ zmb μ μ' := by
  obtain ⟨c1, c2, c3⟩ := hc
  obtain ⟨-, -, hab, -, l1, l2, -⟩ := tE_0 he
  obtain ⟨v1, v2⟩ := vB_b (nd := 0) hT hW (Or.inl rfl) ⟨c1, c2, c3⟩ he
  obtain ⟨m1, a1, a2, a3⟩ := m_lays0 (i := 1) (μ := μ) (by decide)
  have g1 : MS T W m1 := MS_j a3 ⟨by decide, by decide⟩ (by decide) (fun k hk => by unfold zsk at hk; omega) (fun p hp => by omega) hT hW hS
  have g2 : MT T m1 := MT_j a3 (fun k hk => by unfold zmk at hk; omega) hT hM
  obtain ⟨m2, w1, w2, w3⟩ := m_works hT hW g2 g1 c1 (show c / 10 % 10 < W 0 3 by omega) (show c % 10 < W 0 3 by omega) c2 c3 hab l1 l2
  have hM2 : MT T m2 := MT_fr w3 (by omega) (by omega) (by omega) (fun p hp => by omega) (fun d hd => by omega) hT g2
  have hb := (m_bestNow hT v1 (v2.trans hP) hM2 (show MS T (vB T W 0 c) m2 from w2)).1
  obtain ⟨m3, f1, f2, f3⟩ := m_lays1 (i := 1) (μ := m2) (by decide)
  have a1' : f9_lays (1 : Int32) (0 : Int32) μ = some (0, zi 0, m1) := a1
  have f1' : f9_lays (1 : Int32) (1 : Int32) m2 = some (0, zi 0, m3) := f1
  refine ⟨m3, ?_, zmb_aside (J := fun _ => False) (S := zsk) a2 a3 (mfr.ofz w3 (by omega) (fun k hk => hk)) f2 f3 (fun k hk => hk) (fun j hj => hj.elim)⟩
  unfold f9_secondOf
  rw [a1', bnd0_ok, w1, bnd0_ok, hb, bnd0_ok, f1', bnd0_ok]
