/-! THE PURE SIDE, 52: TODAY as numbers; today -/
theorem mx_ex {S : Nat → Prop} (h0 : ∃ u, S u) : ∀ c, (∀ u, S u → u ≤ c) → ∃ v, mxOf S v
  | 0, hb => by
    obtain ⟨u, hu⟩ := h0
    have : u = 0 := Nat.le_zero.1 (hb u hu)
    subst this
    exact ⟨0, hu, hb⟩
  | c + 1, hb => by
    by_cases h : S (c + 1)
    · exact ⟨c + 1, h, hb⟩
    · exact mx_ex h0 c (fun u hu => by
        have := hb u hu
        have : u ≠ c + 1 := fun e => h (e ▸ hu)
        omega)
theorem tBest_ex {T W : zN2} (hT : TB T) : ∃ t, tBest T W t := by
  obtain ⟨v, ⟨s, g, h1, h2⟩, h3⟩ := mx_ex (S := fun u => ∃ s g, hA T W (T 2 2) s g ∧ u = vl T s) ⟨_, 0, 0, hA_0 _, rfl⟩ 2000000 (fun u hu => by
    obtain ⟨s, g, h1, h2⟩ := hu
    have := vl_sp hT (hA_lt h1).1
    omega)
  refine ⟨s, ⟨g, h1⟩, fun s' g' h' => ?_⟩
  rw [← h2]; exact h3 _ ⟨s', g', h', rfl⟩
noncomputable def tdS (T W : zN2) : Nat := Classical.epsilon (fun t => tBest T W t)
noncomputable def tdW (T W : zN2) : Nat := wor T (tdS T W) (T 2 2)
theorem td_best {T W : zN2} (hT : TB T) : tBest T W (tdS T W) := Classical.epsilon_spec (tBest_ex hT)
theorem td_eq {T W : zN2} (hT : TB T) {t : Nat} (h : tBest T W t) : t = tdS T W := tBest_eq hT h (td_best hT)
theorem td_lt {T W : zN2} (hT : TB T) : tdS T W < 1024 ∧ tdW T W ≤ 990 ∧ tdS T W < 2 ^ T 2 2 := by
  obtain ⟨⟨g, hg⟩, -⟩ := td_best (W := W) hT
  have := vl_sp hT (hA_lt hg).1
  exact ⟨this.2.1, this.2.2.1, (hA_lt hg).1⟩
theorem m_today {T W : zN2} (hT : TB T) (hW : WB T W) {x2 s2 : Int32} {μ : zMem} (hs2 : (if x2 = (-1 : Int32) then μ 0 30 else x2) = s2) (hM : MT T μ) (hS : MS T W (zset μ 0 30 s2)) :
    ∃ m', f9_findToday (zi (W 0 3)) x2 μ = some (0, zi 0, m') ∧ m' 0 34 = zi (tdW T W) ∧ m' 0 35 = zi (tdS T W) ∧ mH (2 ^ T 2 2) (2 ^ W 0 3) (hA T W (T 2 2)) m' ∧ mfr (fun j => j = 34 ∨ j = 35) (fun k => 101 ≤ k ∧ k < 1125) μ m' := by
  obtain ⟨m', t, a1, a2, a3, a4, a5, a6⟩ := m_findToday hT hW hs2 hM hS
  have e := td_eq hT a2
  subst e
  exact ⟨m', a1, a3, a4, a5, a6⟩
theorem all_sub {g P : Nat} (h : g < 2 ^ P) : sub2 g (2 ^ P - 1) := fun i hi => by
  rw [Nat.testBit_two_pow_sub_one, decide_eq_true (bit_lt h hi)]
theorem xV_all {T W : zN2} (hT : TB T) {μ : zMem} (hV : xV T W (T 2 2) μ) : μ 52 (2 ^ W 0 3 - 1) = zi (vl T (tdS T W)) := by
  obtain ⟨v, h1, h2⟩ := hV.2.2 (2 ^ W 0 3 - 1) (by have := Nat.two_pow_pos (W 0 3); omega)
  obtain ⟨⟨g, b1⟩, b2⟩ := td_best (W := W) hT
  rw [h1]
  congr 1
  apply Nat.le_antisymm
  · obtain ⟨s, g', c1, -, c2⟩ := h2.1
    rw [c2]; exact b2 s g' c1
  · exact h2.2 _ ⟨_, g, b1, all_sub (hA_lt b1).2, rfl⟩
theorem x_worthAtMost {T W : zN2} (hT : TB T) (hW : WB T W) {μ : zMem} (hV : xV T W (T 2 2) μ) : f2_worthAtMost μ = some (0, zi (tdW T W), μ) := by
  have hP := hW.2.2.2.1
  have hG : 2 ^ W 0 3 ≤ 512 := pw9 hP
  have hG1 : 1 ≤ 2 ^ W 0 3 := Nat.two_pow_pos _
  have b := vl_sp hT (td_lt (W := W) hT).2.2
  unfold f2_worthAtMost
  rw [hV.1, show zshl (1 : Int32) (zi (W 0 3)) = zi (2 ^ W 0 3) from zshl1 (by omega), show zi (2 ^ W 0 3) - (1 : Int32) = zi (2 ^ W 0 3 - 1) from zi_sub (b := 1) (by omega), zin_i (by omega) (by omega), zi_cl (by omega), xV_all hT hV, x_worthIn (by omega), bnd0_ok, b.2.2.2]
  rfl
theorem x_doorsAtMost {T W : zN2} (hT : TB T) (hW : WB T W) {μ : zMem} (hV : xV T W (T 2 2) μ) : f2_doorsAtMost μ = some (0, zi (tdS T W), μ) := by
  have hP := hW.2.2.2.1
  have hG : 2 ^ W 0 3 ≤ 512 := pw9 hP
  have hG1 : 1 ≤ 2 ^ W 0 3 := Nat.two_pow_pos _
  have b := vl_sp hT (td_lt (W := W) hT).2.2
  have b' : tdW T W = wor T (tdS T W) (T 2 2) := rfl
  unfold f2_doorsAtMost
  rw [x_worthAtMost hT hW hV, bnd0_ok, hV.1, show zshl (1 : Int32) (zi (W 0 3)) = zi (2 ^ W 0 3) from zshl1 (by omega), show zi (2 ^ W 0 3) - (1 : Int32) = zi (2 ^ W 0 3 - 1) from zi_sub (b := 1) (by omega), zin_i (by omega) (by omega), zi_cl (by omega), xV_all hT hV, show (1024 : Int32) = zi 1024 from rfl, zi_mul, zi_sub (by omega), show tdW T W * 1024 - vl T (tdS T W) = tdS T W from by omega]
/-- a QUESTION, or none, and the scene with it -/
def qOk (T W : zN2) (x : Int32) (W' : zN2) : Prop := (x = zN1 ∧ W' = W) ∨ ∃ q, q < T 2 0 ∧ x = zi q ∧ W' = nup W 0 1 q
theorem qcase {T W : zN2} (hT : TB T) (x : Int32) : (∃ W', qOk T W x W') ∨ (x ≠ zN1 ∧ (x < zi 0 ∨ zi (T 2 0) ≤ x)) := by
  have hQ := hT.1
  by_cases h : x = zN1
  · exact Or.inl ⟨W, Or.inl ⟨h, rfl⟩⟩
  · rcases zcase x (T 2 0) (by omega) with ⟨q, hq, e⟩ | hx
    · exact Or.inl ⟨nup W 0 1 q, Or.inr ⟨q, hq, e, rfl⟩⟩
    · exact Or.inr ⟨h, hx⟩
theorem wb_asked {T W : zN2} (hW : WB T W) {q : Nat} (hq : q < T 2 0) : WB T (nup W 0 1 q) := by
  unfold WB at hW ⊢
  obtain ⟨h1, h2, h3, h4, h5, h6, h7, h8, h9⟩ := hW
  refine ⟨?_, Or.inl (by rw [nup_eq]; exact hq), ?_, ?_, ?_, fun p => ?_, fun p => ?_, fun p q' => ?_, ?_⟩
  · rw [nup_nj (by decide)]; exact h1
  · rw [nup_nj (by decide)]; exact h3
  · rw [nup_nj (by decide)]; exact h4
  · rw [nup_nj (by decide)]; exact h5
  · rw [nup_nk (by decide)]; exact h6 p
  · rw [nup_nk (by decide)]; exact h7 p
  · rw [nup_nk (by omega)]; exact h8 p q'
  · rw [nup_nj (by decide)]; exact h9
theorem qOk_wb {T W W' : zN2} {x : Int32} (hW : WB T W) (h : qOk T W x W') : WB T W' := by
  rcases h with ⟨-, h⟩ | ⟨q, hq, -, h⟩
  · rw [h]; exact hW
  · rw [h]; exact wb_asked hW hq
theorem qOk_0 {T W W' : zN2} {x : Int32} (h : qOk T W x W') (k j : Nat) (hj : ¬ (k = 0 ∧ j = 1)) : W' k j = W k j := by
  rcases h with ⟨-, h⟩ | ⟨q, hq, -, h⟩
  · rw [h]
  · rw [h, nup_at, if_neg hj]
theorem xs_asked {T W : zN2} {k q : Nat} {μ : zMem} (hS : XS T W k μ) : XS T (nup W 0 1 q) k (zset μ k 2 (zi q)) := by
  obtain ⟨⟨s1, s2, s3, s4, s5⟩, s6⟩ := hS
  refine ⟨⟨?_, ?_, ?_, ?_, ?_⟩, fun p hp => ?_⟩
  · rw [zset_nj (by decide), nup_nj (by decide)]; exact s1
  · rw [zset_eq, nup_eq]
  · rw [zset_nj (by decide), nup_nj (by decide)]; exact s3
  · rw [zset_nj (by decide), nup_nj (by decide)]; exact s4
  · rw [zset_nj (by decide), nup_nj (by decide)]; exact s5
  · rw [nup_nj (by decide)] at hp
    rw [zset_nk (by omega), zset_nk (by omega), zset_nk (by omega), nup_nk (by decide), nup_nk (by decide)]
    refine ⟨(s6 p hp).1, (s6 p hp).2.1, fun q' hq' => ?_⟩
    rw [nup_nk (by omega)]; exact (s6 p hp).2.2 q' hq'
/-- what a plan changes -/
def pz (k : Nat) : Prop := (28 ≤ k ∧ k < 32) ∨ (49 ≤ k ∧ k ≤ 53)
theorem pz_zsx {μ μ' : zMem} (h : zfr pz μ μ') : zfr zsx μ μ' := h.mono (fun k hk => by unfold pz at hk; unfold zsx; omega)
theorem x_planToday {T W W' : zN2} {x : Int32} {μ : zMem} (hT : TB T) (hW : WB T W) (hX : XT T μ) (hS : XS T W 23 μ) (hq : qOk T W x W') :
    ∃ μ', f8_planToday x μ = some (0, zi 0, μ') ∧ xV T W' (T 2 2) μ' ∧ XS T W' 28 μ' ∧ zfr pz μ μ' := by
  have hQ := hT.1
  obtain ⟨μ1, a1, a2, a3, -⟩ := x_copyWorld (k := 28) (k2 := 23) (by omega) hT hW hS
  have hX1 : XT T μ1 := XT_of (fun key hk => a3 key (by omega)) hX
  have fin : ∀ (μ2 : zMem), XS T W' 28 μ2 → XT T μ2 → zfr pz μ μ2 → ∃ μ', bnd0 (f2_make μ2) (fun (v4 : Int32) (μ5 : zMem) => some (0, 0, μ5)) = some (0, zi 0, μ') ∧ xV T W' (T 2 2) μ' ∧ XS T W' 28 μ' ∧ zfr pz μ μ' := by
    intro μ2 h1 h2 h3
    obtain ⟨μ3, b1, b2, b3⟩ := x_make hT (qOk_wb hW hq) h2 h1
    refine ⟨μ3, ?_, b2, XS_of (fun key k1 k2 => b3 key (by omega)) h1, h3.trans (b3.mono (fun k hk => by unfold pz; omega))⟩
    rw [b1, bnd0_ok]; rfl
  unfold f8_planToday
  rw [a1, bnd0_ok, zlet_e]
  rcases hq with ⟨h1, h2⟩ | ⟨q, h0, h1, h2⟩
  · rw [if_pos (show x = (-1 : Int32) from h1)]
    exact fin μ1 (by rw [h2]; exact a2) hX1 (a3.mono (fun k hk => by unfold pz; omega))
  · rw [if_neg (show ¬ x = (-1 : Int32) from by rw [h1, zneg1, zi_nN1 (by omega)]; exact fun q => q), zlet_e]
    refine fin (zset μ1 28 2 x) ?_ ?_ ?_
    · rw [h2, h1]; exact xs_asked a2
    · exact XT_of (fun key hk => zset_nk (by omega)) hX1
    · exact (a3.mono (fun k hk => by unfold pz; omega)).set (by unfold pz; omega)
theorem x_needQN_ok {T W W' : zN2} {x : Int32} {μ : zMem} (hT : TB T) (hX : XT T μ) (hq : qOk T W x W') : f8_needQuestionOrNone x μ = some (0, zi 0, μ) := by
  have hQ := hT.1
  unfold f8_needQuestionOrNone
  rw [zlet_e]
  rcases hq with ⟨h1, -⟩ | ⟨q, h0, h1, -⟩
  · rw [if_pos (show x = (-1 : Int32) from h1)]; rfl
  · rw [if_neg (show ¬ x = (-1 : Int32) from by rw [h1, zneg1, zi_nN1 (by omega)]; exact fun q => q), h1, x_needQ_ok hT hX h0]; rfl
theorem x_needQN_no {T : zN2} {x : Int32} {μ : zMem} (hX : XT T μ) (hx : x ≠ zN1 ∧ (x < zi 0 ∨ zi (T 2 0) ≤ x)) : f8_needQuestionOrNone x μ = some (1, zi 0, μ) := by
  unfold f8_needQuestionOrNone
  rw [zlet_e, if_neg (show ¬ x = (-1 : Int32) from hx.1), x_needQ_no hX hx.2]; rfl
theorem m_badAsked_ok {T W W' : zN2} {x : Int32} {μ : zMem} (hT : TB T) (hM : MT T μ) (h0 : μ 0 0 = zi 0) (hq : qOk T W x W') : f9_badAsked x μ = some (0, zi 0, μ) := by
  have hQ := hT.1
  unfold f9_badAsked
  rw [zlet_e, zlet_e]
  have e : bnd0 (f9_bad (0 : Int32) (1 : Int32) μ) (fun (v3 : Int32) (μ4 : zMem) => zbl v3 (some (0, v3, μ4))) = some (0, zi 0, μ) := by
    rw [show f9_bad (0 : Int32) (1 : Int32) μ = some (0, zi 0, μ) from m_bad0 h0, bnd0_ok, zbl_0]
  rcases hq with ⟨h1, -⟩ | ⟨q, h2, h1, -⟩
  · rw [if_pos (show x = (-1 : Int32) from h1)]; exact e
  · rw [if_neg (show ¬ x = (-1 : Int32) from by rw [h1, zneg1, zi_nN1 (by omega)]; exact fun q => q), h1, m_isQ_ok hT hM h2, bnd0_ok, if_neg (show ¬ zi 1 = (0 : Int32) from by decide)]
    exact e
theorem m_badAsked_no {T : zN2} {x : Int32} {μ : zMem} (hT : TB T) (hM : MT T μ) (h0 : μ 0 0 = zi 0) (hx : x ≠ zN1 ∧ (x < zi 0 ∨ zi (T 2 0) ≤ x)) : f9_badAsked x μ = some (0, zi 1, zset μ 0 0 (zi 1)) := by
  unfold f9_badAsked
  rw [zlet_e, zlet_e, if_neg (show ¬ x = (-1 : Int32) from hx.1), m_isQ_no hT hM hx.2, bnd0_ok, if_pos (show zi 0 = (0 : Int32) from rfl)]
  show bnd0 (f9_bad (1 : Int32) (1 : Int32) μ) _ = _
  rw [show f9_bad (1 : Int32) (1 : Int32) μ = some (0, zi 1, zset μ 0 0 (zi 1)) from m_bad1 h0 (by decide) (by decide), bnd0_ok, zbl_1]
theorem ms_asked {T W W' : zN2} {x : Int32} {μ : zMem} (hT : TB T) (hW : WB T W) (hS : MS T W μ) (h30 : μ 0 30 = zN1) (hq : qOk T W x W') : MS T W' (zset μ 0 30 (if x = (-1 : Int32) then μ 0 30 else x)) := by
  have hQ := hT.1
  rcases hq with ⟨h1, h2⟩ | ⟨q, h0, h1, h2⟩
  · rw [if_pos (show x = (-1 : Int32) from h1), h2]
    refine MS_at ?_ ?_ ?_ ?_ ?_ (fun p _ => ?_) (fun p _ => ?_) hT hW hS
    · exact zset_nj (by decide)
    · exact zset_eq
    · rw [zset_nk (by decide)]
    · exact zset_nk (by decide)
    · exact zset_nk (by decide)
    · exact zset_nk (by omega)
    · rw [zset_nk (by omega)]
  · rw [if_neg (show ¬ x = (-1 : Int32) from by rw [h1, zneg1, zi_nN1 (by omega)]; exact fun q => q), h2, h1]
    obtain ⟨⟨s1, s2, s3⟩, s4, s5, s6⟩ := hS
    refine ⟨⟨?_, Or.inr ?_, ?_⟩, fun p hp => ?_, fun p hp => ?_, fun d hd => ?_⟩
    · rw [zset_nj (by decide), nup_nj (by decide)]; exact s1
    · rw [zset_eq, nup_eq]
    · rw [zset_nk (by decide), nup_nj (by decide)]; exact s3
    · rw [nup_nj (by decide)] at hp
      rw [zset_nk (by decide), zset_nk (by omega), nup_nk (by decide)]
      refine ⟨(s4 p hp).1, fun q' hq' => ?_⟩
      rw [nup_nk (by omega)]; exact (s4 p hp).2 q' hq'
    · rw [zset_nk (by omega), nup_nk (by decide)]; exact s5 p hp
    · rw [zset_nk (by decide), nup_nj (by decide)]; exact s6 d hd
theorem zmq_today {μ μ' : zMem} (h : mfr (fun j => j = 34 ∨ j = 35) (fun k => 101 ≤ k ∧ k < 1125) μ μ') : zmq μ μ' := by
  refine ⟨⟨h.2 1 (by decide), h.2 3 (by decide), h.2 22 (by decide), h.2 30 (by decide)⟩, fun key j hk => ?_, fun key hk => h.1 key (by unfold zmk at hk; omega) (by unfold zmk at hk; omega)⟩
  by_cases h0 : key = 0
  · subst h0
    refine h.2 j (fun q => ?_)
    have := kidx_0 (j := j) (by omega) (by omega)
    omega
  · by_cases h1 : 101 ≤ key ∧ key < 1125
    · have := kidx_big (k := key) (j := j) (by unfold zsk; omega)
      omega
    · rw [h.1 key h0 h1]
