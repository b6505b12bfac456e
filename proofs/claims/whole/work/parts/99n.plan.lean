/-! THE PURE SIDE, 53: today, choose, slack -/
theorem P_today {x y : Int32} {μX μM : zMem} (h : zInv μX μM) : zPm cI (f8_today x y μX) (f9_today x y μM) := by
  have h' := h
  obtain ⟨T, W, r, R, n, m, WI, rI, RI, ⟨hT, hW, hL, hX, hM, hS, hS', h30, hB, hR, hR'⟩, ht, hf, hi⟩ := h
  have hPP := hT.2.1
  have hM0 := MT_0 (v := zi 0) hT hM
  have hS0 := MS_0 (v := zi 0) hT hW hS'
  have e00 : zset μM 0 0 (zi 0) 0 0 = zi 0 := zset_00
  have e30 : zset μM 0 0 (zi 0) 0 30 = zN1 := by rw [zset_nj (by decide)]; exact h30
  rcases qcase (W := W) hT x with ⟨W', hq⟩ | hx
  · rcases zcase y 2 (by decide) with ⟨w, hw, rfl⟩ | hy
    · have hW' := qOk_wb hW hq
      have eP : W' 0 3 = T 2 1 := (qOk_0 hq 0 3 (by omega)).trans hL.2.2.1
      obtain ⟨μ1, a1, a2, a3, a4⟩ := x_planToday hT hW hX hS hq
      obtain ⟨m1, b1, b2, b3, b4, b5⟩ := m_today hT hW' (x2 := x) (μ := zset μM 0 0 (zi 0)) rfl hM0 (ms_asked hT hW hS0 e30 hq)
      rw [eP] at b1
      refine zPm_q h' (μX' := μ1) (μM' := m1) (e := 0) (v := zi (if w = 0 then tdW T W' else tdS T W')) (w := zi (if w = 0 then tdW T W' else tdS T W')) ?_ ?_ ((b5.2 0 (by decide)).trans e00) (fun _ => rfl) (Or.inl rfl) (pz_zsx a4) (zmq_0.trans (zmq_today b5))
      · unfold f8_today
        rw [x_needQN_ok hT hX hq, bnd_ok, show f8_needWhat (zi w) (1 : Int32) μX = _ from x_needW_ok (n := 1) (by omega) (by decide), bnd_ok, a1, bnd0_ok, zlet_e]
        by_cases h0 : w = 0
        · rw [if_pos (show zi w = (0 : Int32) from by rw [h0]; rfl), if_pos h0, x_worthAtMost hT hW' a2]; rfl
        · rw [if_neg (show ¬ zi w = (0 : Int32) from by rw [show (0 : Int32) = zi 0 from rfl, zi_eq (by omega) (by omega)]; exact h0), if_neg h0, x_doorsAtMost hT hW' a2]; rfl
      · unfold f9_today
        simp (disch := omega) only [zlet_e', zlit', m_badAsked_ok hT hM0 e00 hq, bnd0_ok', if_true, if_false, ite_true, ite_false, Bool.false_eq_true, Bool.true_eq_false, reduceIte, z10, z01, Nat.one_ne_zero, Nat.zero_ne_one, m_inn_o, m_bad0 e00, zin_i, zi_cl, zset_nk, hM.1.2.1, b1, zi_eq, b2, b3]
        by_cases h0 : w = 0
        · rw [if_pos h0, if_pos h0]
        · rw [if_neg h0, if_neg h0]
    · refine zPm_q h' (μX' := μX) (μM' := zset (zset μM 0 0 (zi 0)) 0 0 (zi 1)) (e := 1) (v := zi 0) (w := zi 0) ?_ ?_ zset_00 (fun h => absurd h (by decide)) (Or.inr (by decide)) zfr.refl zmq_00
      · unfold f8_today
        rw [x_needQN_ok hT hX hq, bnd_ok, show f8_needWhat y (1 : Int32) μX = _ from x_needW_no (n := 1) (by decide) hy]; rfl
      · unfold f9_today
        simp (disch := omega) only [zlet_e', zlit', m_badAsked_ok hT hM0 e00 hq, bnd0_ok', if_true, if_false, ite_true, ite_false, Bool.false_eq_true, Bool.true_eq_false, reduceIte, z10, z01, Nat.one_ne_zero, Nat.zero_ne_one, m_inn_c (by decide : 1 < 1000) hy, m_bad1 e00]
  · refine zPm_q h' (μX' := μX) (μM' := zset (zset μM 0 0 (zi 0)) 0 0 (zi 1)) (e := 1) (v := zi 0) (w := zi 0) ?_ ?_ zset_00 (fun h => absurd h (by decide)) (Or.inr (by decide)) zfr.refl zmq_00
    · unfold f8_today
      rw [x_needQN_no hX hx]; rfl
    · unfold f9_today
      simp (disch := omega) only [zlet_e', zlit', m_badAsked_no hT hM0 e00 hx, bnd0_ok', if_true, if_false, ite_true, ite_false, Bool.false_eq_true, Bool.true_eq_false, reduceIte, z10, z01, Nat.one_ne_zero, Nat.zero_ne_one]
/-- the QUESTION chosen so far, and what it gives -/
noncomputable def chF (T W : zN2) (i : Nat) (t : Option (Nat × Nat)) : Option (Nat × Nat) := match t with
  | none => some (i, tdW T (nup W 0 1 i))
  | some (q, w) => if w < tdW T (nup W 0 1 i) then some (i, tdW T (nup W 0 1 i)) else some (q, w)
def chA (t : Option (Nat × Nat)) : Int32 := match t with
  | none => zN1
  | some (q, _) => zi q
def chB (c : Int32) (t : Option (Nat × Nat)) : Int32 := match t with
  | none => c
  | some (_, w) => zi w
def chL (t : Option (Nat × Nat)) : Prop := ∀ q w, t = some (q, w) → q < 4 ∧ w ≤ 990
theorem chF_ok {T W : zN2} (hT : TB T) {i : Nat} {t : Option (Nat × Nat)} (hi : i < T 2 0) (h : chL t) : chL (chF T W i t) := by
  have hQ := hT.1
  have hw := (td_lt (W := nup W 0 1 i) hT).2.1
  intro q w e
  unfold chF at e
  cases t with
  | none => injection e with e; injection e with e1 e2; omega
  | some p =>
    obtain ⟨q', w'⟩ := p
    have := h q' w' rfl
    dsimp only at e
    split at e
    · injection e with e; injection e with e1 e2; omega
    · injection e with e; injection e with e1 e2; omega
theorem x_choose {T W : zN2} {μ : zMem} (hT : TB T) (hW : WB T W) (hX : XT T μ) (hS : XS T W 23 μ) : ∃ μ', f8_choose μ = some (0, chA (zit (chF T W) (T 2 0) 0 none), μ') ∧ zfr pz μ μ' := by
  have hQ := hT.1
  obtain ⟨⟨s1, s2, s3⟩, e1, e2, e3, e4, e5⟩ := zloopS (L := fun n i (s : Int32 × Int32 × zMem) => f8_choose_L6 (fun (x1_15 : Int32) (μ16 : zMem) => some (0, x1_15, μ16)) n s.1 s.2.1 (zi i) s.2.2) (N := T 2 0) (o := fun s => some (0, s.1, s.2.2)) (F := chF T W)
    (fun i t s => s.1 = chA t ∧ s.2.1 = chB zN1 t ∧ chL t ∧ zfr pz μ s.2.2)
    (fun n s t hs => by
      show f8_choose_L6 _ (n + 1) s.1 s.2.1 (zi (T 2 0)) s.2.2 = _
      rw [f8_choose_L6, hs.2.2.2 2 (by unfold pz; omega), hX.1.1, if_pos (Int32.le_refl _)])
    (fun n i s t hi hs => by
      obtain ⟨c1, c2, μ1⟩ := s
      obtain ⟨h1, h2, h3, h4⟩ := hs
      dsimp only at h1 h2 h3 h4
      subst h1 h2
      have z1 : zi i + (1 : Int32) = zi (i + 1) := zi_add i 1
      have hle : ¬ zi (T 2 0) ≤ zi i := by rw [zi_le (by omega) (by omega)]; omega
      have hX' : XT T μ1 := XT_of (fun key hk => h4 key (by unfold pz; omega)) hX
      have hS' : XS T W 23 μ1 := XS_of (fun key k1 k2 => h4 key (by unfold pz; omega)) hS
      obtain ⟨μ2, a1, a2, a3, a4⟩ := x_planToday hT hW hX' hS' (x := zi i) (W' := nup W 0 1 i) (Or.inr ⟨i, hi, rfl, rfl⟩)
      have hw := x_worthAtMost hT (wb_asked hW hi) a2
      have hb := (td_lt (W := nup W 0 1 i) hT).2.1
      refine ⟨(chA (chF T W i t), chB zN1 (chF T W i t), μ2), ?_, rfl, rfl, chF_ok hT hi h3, h4.trans a4⟩
      show f8_choose_L6 _ (n + 1) (chA t) (chB zN1 t) (zi i) μ1 = f8_choose_L6 _ n (chA (chF T W i t)) (chB zN1 (chF T W i t)) (zi (i + 1)) μ2
      rw [f8_choose_L6, h4 2 (by unfold pz; omega), hX.1.1, if_neg hle, a1, bnd0_ok, hw, bnd0_ok, zlet_e]
      cases t with
      | none =>
        rw [if_neg (show ¬ zi (tdW T (nup W 0 1 i)) ≤ chB zN1 none from by show ¬ zi _ ≤ zN1; rw [zle_N1 (by omega)]; exact fun q => q), hw, bnd0_ok, z1]; rfl
      | some p =>
        obtain ⟨q, w⟩ := p
        have := h3 q w rfl
        by_cases hlt : w < tdW T (nup W 0 1 i)
        · rw [if_neg (show ¬ zi (tdW T (nup W 0 1 i)) ≤ chB zN1 (some (q, w)) from by show ¬ zi _ ≤ zi w; rw [zi_le (by omega) (by omega)]; omega), hw, bnd0_ok, z1]
          rw [show chF T W i (some (q, w)) = some (i, tdW T (nup W 0 1 i)) from if_pos hlt]; rfl
        · rw [if_pos (show zi (tdW T (nup W 0 1 i)) ≤ chB zN1 (some (q, w)) from by show zi _ ≤ zi w; rw [zi_le (by omega) (by omega)]; omega), z1]
          rw [show chF T W i (some (q, w)) = some (q, w) from if_neg hlt])
    (T 2 0) 0 (zN1, zN1, μ) none zF (by omega) (by unfold zF; omega) ⟨rfl, rfl, fun q w e => (by cases e), zfr.refl⟩
  refine ⟨s3, ?_, e5⟩
  unfold f8_choose
  refine e1.trans ?_
  rw [← e2]
theorem m_choose {T W : zN2} {μ : zMem} (hT : TB T) (hW : WB T W) (hP : W 0 3 = T 2 1) (hM : MT T μ) (hS : MS T W μ) (h30 : μ 0 30 = zN1) : ∃ μ', f9_choose_L11 (fun (x1_17 : Int32) (μ18 : zMem) => some (0, x1_17, μ18)) zF (-1 : Int32) (0 : Int32) (0 : Int32) μ = some (0, chA (zit (chF T W) (T 2 0) 0 none), μ') ∧ mfr (fun j => j = 34 ∨ j = 35) (fun k => 101 ≤ k ∧ k < 1125) μ μ' := by
  have hQ := hT.1
  have z0 : ∀ A, zin (0 : Int32) 6 A = A := fun A => zin_i (i := 0) (by decide) (by decide)
  have z1' : ∀ A, zin (1 : Int32) 6 A = A := fun A => zin_i (i := 1) (by decide) (by decide)
  have n0 : (0 : Int32).toNatClampNeg = 0 := by decide
  have n1 : (1 : Int32).toNatClampNeg = 1 := by decide
  obtain ⟨⟨s1, s2, s3⟩, e1, e2, e3, e4, e5⟩ := zloopS (L := fun n i (s : Int32 × Int32 × zMem) => f9_choose_L11 (fun (x1_17 : Int32) (μ18 : zMem) => some (0, x1_17, μ18)) n s.1 s.2.1 (zi i) s.2.2) (N := T 2 0) (o := fun s => some (0, s.1, s.2.2)) (F := chF T W)
    (fun i t s => s.1 = chA t ∧ s.2.1 = chB (zi 0) t ∧ chL t ∧ mfr (fun j => j = 34 ∨ j = 35) (fun k => 101 ≤ k ∧ k < 1125) μ s.2.2)
    (fun n s t hs => by
      show f9_choose_L11 _ (n + 1) s.1 s.2.1 (zi (T 2 0)) s.2.2 = _
      rw [f9_choose_L11, z0, n0, hs.2.2.2.1 4 (by decide) (by omega), hM.1.1, if_pos (Int32.le_refl _)])
    (fun n i s t hi hs => by
      obtain ⟨c1, c2, μ1⟩ := s
      obtain ⟨h1, h2, h3, h4⟩ := hs
      dsimp only at h1 h2 h3 h4
      subst h1 h2
      have z1 : zi i + (1 : Int32) = zi (i + 1) := zi_add i 1
      have hle : ¬ zi (T 2 0) ≤ zi i := by rw [zi_le (by omega) (by omega)]; omega
      have hM' : MT T μ1 := MT_q (zmq_today h4).2.2 hT hM
      have hS' : MS T W μ1 := MS_q (zmq_today h4) hT hW hS
      obtain ⟨μ2, a1, a2, a3, a4, a5⟩ := m_today hT (wb_asked hW hi) (x2 := zi i) (μ := μ1) rfl hM' (ms_asked hT hW hS' ((h4.2 30 (by decide)).trans h30) (Or.inr ⟨i, hi, rfl, rfl⟩))
      rw [nup_nj (by decide), hP] at a1
      have hb := (td_lt (W := nup W 0 1 i) hT).2.1
      refine ⟨(chA (chF T W i t), chB (zi 0) (chF T W i t), μ2), ?_, rfl, rfl, chF_ok hT hi h3, h4.trans a5⟩
      show f9_choose_L11 _ (n + 1) (chA t) (chB (zi 0) t) (zi i) μ1 = f9_choose_L11 _ n (chA (chF T W i t)) (chB (zi 0) (chF T W i t)) (zi (i + 1)) μ2
      rw [f9_choose_L11, z0, n0, h4.1 4 (by decide) (by omega), hM.1.1, if_neg hle, z1', n1, hM.1.2.1, a1, bnd0_ok, zlet_e, zlet_e, zlet_e, a2]
      cases t with
      | none =>
        rw [if_pos (show chA none = (-1 : Int32) from rfl), z1]; rfl
      | some p =>
        obtain ⟨q, w⟩ := p
        have := h3 q w rfl
        rw [if_neg (show ¬ chA (some (q, w)) = (-1 : Int32) from by show ¬ zi q = zN1; rw [zi_nN1 (by omega)]; exact fun q => q)]
        by_cases hlt : w < tdW T (nup W 0 1 i)
        · rw [if_pos (show chB (zi 0) (some (q, w)) < zi (tdW T (nup W 0 1 i)) from by show zi w < zi _; rw [zi_lt (by omega) (by omega)]; exact hlt), z1]
          rw [show chF T W i (some (q, w)) = some (i, tdW T (nup W 0 1 i)) from if_pos hlt]; rfl
        · rw [if_neg (show ¬ chB (zi 0) (some (q, w)) < zi (tdW T (nup W 0 1 i)) from by show ¬ zi w < zi _; rw [zi_lt (by omega) (by omega)]; exact hlt), z1]
          rw [show chF T W i (some (q, w)) = some (q, w) from if_neg hlt])
    (T 2 0) 0 (zN1, zi 0, μ) none zF (by omega) (by unfold zF; omega) ⟨rfl, rfl, fun q w e => (by cases e), mfr.refl⟩
  refine ⟨s3, ?_, e5⟩
  refine e1.trans ?_
  rw [← e2]
theorem P_choose {μX μM : zMem} (h : zInv μX μM) : zPm c0 (f8_choose μX) (f9_choose μM) := by
  have h' := h
  obtain ⟨T, W, r, R, n, m, WI, rI, RI, ⟨hT, hW, hL, hX, hM, hS, hS', h30, hB, hR, hR'⟩, ht, hf, hi⟩ := h
  obtain ⟨μ1, a1, a2⟩ := x_choose hT hW hX hS
  obtain ⟨m1, b1, b2⟩ := m_choose hT hW hL.2.2.1 (MT_0 (v := zi 0) hT hM) (MS_0 (v := zi 0) hT hW hS') (by rw [zset_nj (by decide)]; exact h30)
  refine zPm_q h' (μX' := μ1) (μM' := m1) (e := 0) a1 (w := chA (zit (chF T W) (T 2 0) 0 none)) ?_ ((b2.2 0 (by decide)).trans zset_00) (fun _ => rfl) (Or.inl rfl) (pz_zsx a2) (zmq_0.trans (zmq_today b2))
  unfold f9_choose
  rw [zlet_e]; exact b1
