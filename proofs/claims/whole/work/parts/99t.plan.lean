/-! THE PURE SIDE, 59: stranger, whole -/
def fSM (x1 x2 : Int32) (μ25 : zMem) : zRes := zin (1 : Int32) 6 (bnd0 (f9_findToday (μ25 4 (1 : Int32).toNatClampNeg) x1 μ25) (fun (v29 : Int32) (μ30 : zMem) => zlet (μ30 0 34) (fun (v31 : Int32) => zin (1 : Int32) 6 (zlet (μ30 4 (1 : Int32).toNatClampNeg) (fun (v33 : Int32) => f9_stranger_L150 v33 (fun (μ41 : zMem) => zin v33 9 (zlet (μ41 91 v33.toNatClampNeg) (fun (v43 : Int32) => zin v33 9 (zlet (μ41 49 v33.toNatClampNeg) (fun (v45 : Int32) => zin (4 : Int32) 6 (zin v33 9 (zlet (zset μ41 91 v33.toNatClampNeg (μ41 4 (4 : Int32).toNatClampNeg)) (fun (μ48 : zMem) => zin v33 9 (zlet (zset μ48 49 v33.toNatClampNeg (0 : Int32)) (fun (μ50 : zMem) => bnd0 (f9_findToday (v33 + (1 : Int32)) x1 μ50) (fun (v51 : Int32) (μ52 : zMem) => zin v33 9 (zlet (zset μ52 91 v33.toNatClampNeg v43) (fun (μ54 : zMem) => zin v33 9 (zlet (zset μ54 49 v33.toNatClampNeg v45) (fun (μ56 : zMem) => some (0, (μ56 0 34) - v31, μ56)))))))))))))))) zF x2 (0 : Int32) μ30)))))
def fSK (x1 x2 x3 : Int32) (μ1 : zMem) (x4 x5 : Int32) : zRes := bnd0 (f9_badAsked x1 μ1) (fun (v16 : Int32) (μ17 : zMem) => zlet (fun (μ18 : zMem) => some (0, (0 : Int32), μ18)) (fun j19 => if v16 = 0 then zlet (fun (s22 : Int32) (μ23 : zMem) => bnd0 (f9_bad s22 (1 : Int32) μ23) (fun (v24 : Int32) (μ25 : zMem) => if v24 = 0 then fSM x1 x2 μ25 else j19 μ25)) (fun j57 => zlet (fun (μ58 : zMem) => j57 (1 : Int32) μ58) (fun j59 => if x4 = 0 then j59 μ17 else if 0 < x5 then j59 μ17 else bnd0 (f9_in x3 (0 : Int32) (4 : Int32) μ17) (fun (v64 : Int32) (μ65 : zMem) => if v64 = 0 then j59 μ65 else j57 (0 : Int32) μ65))) else j19 μ17))
theorem fS_eq {x1 x2 x3 : Int32} {μ : zMem} : f9_stranger x1 x2 x3 μ = (if x2 < 0 then f9_stranger_L31 (zset μ 0 0 (0 : Int32)) (fSK x1 x2 x3 (zset μ 0 0 (0 : Int32))) zF (0 : Int32) x2 (0 : Int32) else zin (0 : Int32) 6 (if (zset μ 0 0 (0 : Int32) 4 (0 : Int32).toNatClampNeg) ≤ 0 then f9_stranger_L31 (zset μ 0 0 (0 : Int32)) (fSK x1 x2 x3 (zset μ 0 0 (0 : Int32))) zF (0 : Int32) x2 (0 : Int32) else f9_stranger_L31 (zset μ 0 0 (0 : Int32)) (fSK x1 x2 x3 (zset μ 0 0 (0 : Int32))) zF (1 : Int32) x2 (0 : Int32))) := rfl
theorem fSK_q {T : zN2} {x1 x2 x3 x4 x5 : Int32} {μ : zMem} (hT : TB T) (hM : MT T μ) (h0 : μ 0 0 = zi 0) (hx : x1 ≠ zN1 ∧ (x1 < zi 0 ∨ zi (T 2 0) ≤ x1)) : fSK x1 x2 x3 μ x4 x5 = some (0, zi 0, zset μ 0 0 (zi 1)) := by
  unfold fSK
  rw [m_badAsked_no hT hM h0 hx, bnd0_ok, zlet_e, if_neg (show ¬ zi 1 = (0 : Int32) from by decide)]; rfl
theorem fSK_b {T W W' : zN2} {x1 x2 x3 x4 x5 : Int32} {μ : zMem} (hT : TB T) (hM : MT T μ) (h0 : μ 0 0 = zi 0) (hq : qOk T W x1 W') (hb : x4 = 0 ∨ 0 < x5 ∨ (x3 < zi 0 ∨ zi 5 ≤ x3)) : fSK x1 x2 x3 μ x4 x5 = some (0, zi 0, zset μ 0 0 (zi 1)) := by
  unfold fSK
  rw [m_badAsked_ok hT hM h0 hq, bnd0_ok, zlet_e, if_pos (show zi 0 = (0 : Int32) from rfl), zlet_e, zlet_e]
  have e : bnd0 (f9_bad (1 : Int32) (1 : Int32) μ) (fun (v24 : Int32) (μ25 : zMem) => if v24 = 0 then fSM x1 x2 μ25 else (fun (μ18 : zMem) => some (0, (0 : Int32), μ18)) μ25) = some (0, zi 0, zset μ 0 0 (zi 1)) := by
    rw [show f9_bad (1 : Int32) (1 : Int32) μ = _ from m_bad1 h0 (by decide) (by decide), bnd0_ok, if_neg (show ¬ zi 1 = (0 : Int32) from by decide)]; rfl
  by_cases c1 : x4 = 0
  · rw [if_pos c1]; exact e
  · rw [if_neg c1]
    by_cases c2 : 0 < x5
    · rw [if_pos c2]; exact e
    · rw [if_neg c2]
      have c3 := (hb.resolve_left c1).resolve_left c2
      rw [show f9_in x3 (0 : Int32) (4 : Int32) μ = _ from m_inn_c (n := 4) (by decide) c3, bnd0_ok, if_pos (show zi 0 = (0 : Int32) from rfl)]
      exact e
theorem fSK_ok {T W W' : zN2} {x1 x2 : Int32} {l : Nat} {μ : zMem} (hT : TB T) (hM : MT T μ) (h0 : μ 0 0 = zi 0) (hq : qOk T W x1 W') (hl : l < 5) : fSK x1 x2 (zi l) μ (zi 1) (zi 0) = fSM x1 x2 μ := by
  unfold fSK
  rw [m_badAsked_ok hT hM h0 hq, bnd0_ok, zlet_e, if_pos (show zi 0 = (0 : Int32) from rfl), zlet_e, zlet_e, if_neg (show ¬ zi 1 = (0 : Int32) from by decide), if_neg (show ¬ (0 : Int32) < zi 0 from by decide), show f9_in (zi l) (0 : Int32) (4 : Int32) μ = _ from m_inn_o (n := 4) (by decide) (by omega), bnd0_ok, if_neg (show ¬ zi 1 = (0 : Int32) from by decide)]
  show bnd0 (f9_bad (0 : Int32) (1 : Int32) μ) _ = _
  rw [show f9_bad (0 : Int32) (1 : Int32) μ = _ from m_bad0 h0, bnd0_ok, if_pos (show zi 0 = (0 : Int32) from rfl)]
theorem zset_same {m : zMem} {k j : Nat} {v : Int32} (h : m k j = v) : zset m k j v = m := by
  funext k' j'
  rw [zset_at]
  by_cases c : k' = k ∧ j' = j
  · rw [if_pos c, c.1, c.2, h]
  · rw [if_neg c]
theorem m_strM {T W W' : zN2} {x : Int32} {t l : Nat} {μ : zMem} (hT : TB T) (hW : WB T W) (hL : WL T W) (hM : MT T μ) (hS : MS T W μ) (h30 : μ 0 30 = zN1) (hq : qOk T W x W') (ht : t < 2147483648) (hl : l ≤ 4) (hd : dOk t (T 2 0) = true) :
    ∃ m', fSM x (zi t) μ = some (0, zi (tdW T (stW T W' t l)) - zi (tdW T W'), m') ∧ mfr (fun j => j = 34 ∨ j = 35) (fun k => k = 51 + T 2 1 ∨ (101 ≤ k ∧ k < 1125)) μ m' := by
  have hPP := hT.2.1
  have hW' := qOk_wb hW hq
  have eP : W' 0 3 = T 2 1 := (qOk_0 hq 0 3 (by omega)).trans hL.2.2.1
  have z1' : ∀ A, zin (1 : Int32) 6 A = A := fun A => zin_i (i := 1) (by decide) (by decide)
  have n1 : (1 : Int32).toNatClampNeg = 1 := by decide
  have z4' : ∀ A, zin (4 : Int32) 6 A = A := fun A => zin_i (i := 4) (by decide) (by decide)
  have n4 : (4 : Int32).toNatClampNeg = 4 := by decide
  have hzP : ∀ A, zin (zi (T 2 1)) 9 A = A := fun A => zin_i (by omega) (by omega)
  have hcP : (zi (T 2 1)).toNatClampNeg = T 2 1 := zi_cl (by omega)
  obtain ⟨m1, b1, b2, b3, b4, b5⟩ := m_today hT hW' (x2 := x) (μ := μ) rfl hM (ms_asked hT hW hS h30 hq)
  rw [eP] at b1
  have hM1 := MT_q (zmq_today b5).2.2 hT hM
  have hS1 := MS_q (zmq_today b5) hT hW hS
  have k7 : T 7 (T 2 1) = 0 := hT.2.2.2.2.2.2.2.2.2.2.2.1 (T 2 1) (Nat.le_refl _)
  have cont : ∀ K : zMem → zRes, ∃ m2, f9_stranger_L150 (zi (T 2 1)) K zF (zi t) (0 : Int32) m1 = K m2 ∧ (∀ q, q < T 2 0 → m2 (51 + T 2 1) q = zi (t / 10 ^ q % 10)) ∧ zfr (fun k => k = 51 + T 2 1) m1 m2 := fun K => m_str150 hT hM1 (by omega) ht K
  have main : ∀ m2 : zMem, (∀ q, q < T 2 0 → m2 (51 + T 2 1) q = zi (t / 10 ^ q % 10)) → zfr (fun k => k = 51 + T 2 1) m1 m2 → ∃ m5, f9_findToday (zi (T 2 1) + (1 : Int32)) x (zset m2 91 (T 2 1) (zi (T 2 4))) = some (0, zi 0, m5) ∧ m5 0 34 = zi (tdW T (stW T W' t l)) ∧ mfr (fun j => j = 34 ∨ j = 35) (fun k => 101 ≤ k ∧ k < 1125) (zset m2 91 (T 2 1) (zi (T 2 4))) m5 := by
    intro m2 c2 c3
    have hM3 : MT T (zset m2 91 (T 2 1) (zi (T 2 4))) := MT_at (fun j _ => by rw [zset_nk (by decide), c3 4 (by omega)]) (by rw [zset_nk (by decide), c3 47 (by omega)]) (by rw [zset_nk (by decide), c3 49 (by omega)]) (fun p _ => by rw [zset_nk (by omega), c3 (15 + p) (by omega)]) (fun d _ => by rw [zset_nk (by omega), c3 (36 + d) (by omega)]) hT hM1
    have hS3 : MS T (stW T W t l) (zset m2 91 (T 2 1) (zi (T 2 4))) := by
      obtain ⟨⟨s1, s2, s3⟩, s4, s5, s6⟩ := hS1
      refine ⟨⟨?_, Or.inl ⟨?_, ?_⟩, ?_⟩, fun p hp => ⟨?_, fun q hq => ?_⟩, fun p hp => ?_, fun d hd => ?_⟩
      · rw [zset_nk (by decide), c3 0 (by omega), stW_0 (by decide)]; exact s1
      · rw [zset_nk (by decide), c3 0 (by omega), b5.2 30 (by decide)]; exact h30
      · rw [stW_0 (by decide), stW_0 (by decide)]; exact hL.1
      · rw [zset_nk (by decide), c3 4 (by omega), stW_0 (by decide)]; exact s3
      · rw [stW_03, hL.2.2.1] at hp
        by_cases e : p = W 0 3
        · rw [e, stW_1', hL.2.2.1, zset_eq]
        · rw [stW_1 e, zset_nj (by rw [← hL.2.2.1]; exact e), c3 91 (by omega)]; exact (s4 p (by rw [hL.2.2.1] at e ⊢; omega)).1
      · rw [stW_03, hL.2.2.1] at hp
        by_cases e : p = W 0 3
        · rw [e, stW_4' hq, hL.2.2.1, zset_nk (by omega)]; exact c2 q hq
        · rw [stW_4 e, zset_nk (by omega), c3 (51 + p) (by rw [hL.2.2.1] at e; omega)]; exact (s4 p (by rw [hL.2.2.1] at e ⊢; omega)).2 q hq
      · rw [stW_2 (by rw [hL.2.2.1]; omega), zset_nk (by omega), c3 (15 + p) (by omega)]; exact s5 p hp
      · rw [stW_0 (by decide), zset_nk (by decide), c3 92 (by omega)]; exact s6 d hd
    have e30 : zset m2 91 (T 2 1) (zi (T 2 4)) 0 30 = zN1 := by rw [zset_nk (by decide), c3 0 (by omega), b5.2 30 (by decide)]; exact h30
    obtain ⟨m5, d1, d2, d3, d4, d5⟩ := m_today hT (wb_st hT hW' eP hl hd) (x2 := x) (μ := zset m2 91 (T 2 1) (zi (T 2 4))) rfl hM3 (ms_asked hT (wb_st hT hW hL.2.2.1 hl hd) hS3 e30 (st_qOk hq))
    rw [stW_03, eP, ← zi_add] at d1
    exact ⟨m5, d1, d2, d5⟩
  obtain ⟨m2, c1, c2, c3⟩ := cont (fun (μ41 : zMem) => zin (zi (T 2 1)) 9 (zlet (μ41 91 (T 2 1)) (fun (v43 : Int32) => zin (zi (T 2 1)) 9 (zlet (μ41 49 (T 2 1)) (fun (v45 : Int32) => zin (4 : Int32) 6 (zin (zi (T 2 1)) 9 (zlet (zset μ41 91 (T 2 1) (μ41 4 (4 : Int32).toNatClampNeg)) (fun (μ48 : zMem) => zin (zi (T 2 1)) 9 (zlet (zset μ48 49 (T 2 1) (0 : Int32)) (fun (μ50 : zMem) => bnd0 (f9_findToday (zi (T 2 1) + (1 : Int32)) x μ50) (fun (v51 : Int32) (μ52 : zMem) => zin (zi (T 2 1)) 9 (zlet (zset μ52 91 (T 2 1) v43) (fun (μ54 : zMem) => zin (zi (T 2 1)) 9 (zlet (zset μ54 49 (T 2 1) v45) (fun (μ56 : zMem) => some (0, (μ56 0 34) - zi (tdW T W'), μ56))))))))))))))))
  obtain ⟨m5, d1, d2, d3⟩ := main m2 c2 c3
  have k49 : m2 49 (T 2 1) = zi 0 := by rw [c3 49 (by omega), hM1.2.2.1 (T 2 1) (by omega), k7]
  have k49' : zset m2 91 (T 2 1) (zi (T 2 4)) 49 (T 2 1) = zi 0 := by rw [zset_nk (by decide)]; exact k49
  have k49'' : zset m5 91 (T 2 1) (m2 91 (T 2 1)) 49 (T 2 1) = zi 0 := by rw [zset_nk (by decide), d3.1 49 (by decide) (by omega)]; exact k49'
  refine ⟨zset m5 91 (T 2 1) (m2 91 (T 2 1)), ?_, fun k h1 h2 => ?_, fun j hj => ?_⟩
  · unfold fSM
    rw [z1', n1, hM.1.2.1, b1, bnd0_ok, zlet_e, z1', zlet_e, b2, hM1.1.2.1, hcP]
    refine c1.trans ?_
    show zin (zi (T 2 1)) 9 _ = _
    rw [hzP, zlet_e, hzP, zlet_e, z4', hzP, zlet_e, hzP, zlet_e, n4, show m2 4 4 = zi (T 2 4) from by rw [c3 4 (by omega)]; exact hM1.1.2.2.2.1, k49]
    rw [show zset (zset m2 91 (T 2 1) (zi (T 2 4))) 49 (T 2 1) (0 : Int32) = zset m2 91 (T 2 1) (zi (T 2 4)) from zset_same k49', d1, bnd0_ok, hzP, zlet_e, hzP, zlet_e, zset_same k49'', zset_nk (by decide), d2]
  · by_cases h91 : k = 91
    · subst h91
      funext j
      by_cases hj : j = T 2 1
      · rw [hj, zset_eq, c3 91 (by omega), b5.1 91 (by decide) (by omega)]
      · rw [zset_nj hj, d3.1 91 (by decide) (by omega), zset_nj hj, c3 91 (by omega), b5.1 91 (by decide) (by omega)]
    · rw [zset_nk h91, d3.1 k h1 (by omega), zset_nk h91, c3 k (by omega), b5.1 k h1 (by omega)]
  · rw [zset_nk (by decide), d3.2 j hj, zset_nk (by decide), c3 0 (by omega), b5.2 j hj]
theorem P_stranger {x y z : Int32} {μX μM : zMem} (h : zInv μX μM) : zPm cI (f8_stranger x y z μX) (f9_stranger x y z μM) := by
  have h' := h
  obtain ⟨T, W, r, R, n, m, WI, rI, RI, ⟨hT, hW, hL, hX, hM, hS, hS', h30, hB, hR, hR'⟩, ht, hf, hi⟩ := h
  have hPP := hT.2.1
  have hQ := hT.1
  have hM0 := MT_0 (v := zi 0) hT hM
  have hS0 := MS_0 (v := zi 0) hT hW hS'
  have e00 : zset μM 0 0 (zi 0) 0 0 = zi 0 := zset_00
  have e30 : zset μM 0 0 (zi 0) 0 30 = zN1 := by rw [zset_nj (by decide)]; exact h30
  have z0 : ∀ A, zin (0 : Int32) 6 A = A := fun A => zin_i (i := 0) (by decide) (by decide)
  have n0 : (0 : Int32).toNatClampNeg = 0 := by decide
  have l0 : ∀ (K : Int32 → Int32 → zRes), f9_stranger_L31 (zset μM 0 0 (zi 0)) K zF (0 : Int32) y (0 : Int32) = K (zit stF (T 2 0) 0 (0, y)).1 (zit stF (T 2 0) 0 (0, y)).2 := fun K => m_str31 hT hM0 K (0, y)
  have l1 : ∀ (K : Int32 → Int32 → zRes), f9_stranger_L31 (zset μM 0 0 (zi 0)) K zF (1 : Int32) y (0 : Int32) = K (zit stF (T 2 0) 0 (1, y)).1 (zit stF (T 2 0) 0 (1, y)).2 := fun K => m_str31 hT hM0 K (1, y)
  have ref : f9_stranger x y z μM = (if y < 0 then fSK x y z (zset μM 0 0 (zi 0)) (zit stF (T 2 0) 0 (0, y)).1 (zit stF (T 2 0) 0 (0, y)).2 else if zi (T 2 0) ≤ 0 then fSK x y z (zset μM 0 0 (zi 0)) (zit stF (T 2 0) 0 (0, y)).1 (zit stF (T 2 0) 0 (0, y)).2 else fSK x y z (zset μM 0 0 (zi 0)) (zit stF (T 2 0) 0 (1, y)).1 (zit stF (T 2 0) 0 (1, y)).2) := by
    rw [fS_eq, show zset μM 0 0 (0 : Int32) = zset μM 0 0 (zi 0) from rfl, l0, l1, z0, n0, hM0.1.1]
  have bad : ∀ (r' : zRes), r' = some (1, zi 0, μX) → f9_stranger x y z μM = some (0, zi 0, zset (zset μM 0 0 (zi 0)) 0 0 (zi 1)) → zPm cI r' (f9_stranger x y z μM) := fun r' e1 e2 =>
    zPm_q h' (μX' := μX) (μM' := zset (zset μM 0 0 (zi 0)) 0 0 (zi 1)) (e := 1) (v := zi 0) (w := zi 0) e1 e2 zset_00 (fun h => absurd h (by decide)) (Or.inr (by decide)) zfr.refl zmq_00
  have same : ∀ (A B : zRes) (p q : Prop) [Decidable p] [Decidable q] (r : zRes), A = r → B = r → (if p then A else if q then A else B) = r := fun A B p q _ _ r h1 h2 => by
    by_cases c1 : p
    · rw [if_pos c1]; exact h1
    · rw [if_neg c1]
      by_cases c2 : q
      · rw [if_pos c2]; exact h1
      · rw [if_neg c2]; exact h2
  rcases qcase (W := W) hT x with ⟨W', hq⟩ | hx
  · have hW' := qOk_wb hW hq
    have eP : W' 0 3 = T 2 1 := (qOk_0 hq 0 3 (by omega)).trans hL.2.2.1
    by_cases hQ0 : T 2 0 = 0
    · refine bad _ ?_ ?_
      · unfold f8_stranger
        rw [x_needQN_ok hT hX hq, bnd_ok, zlet_e, if_pos (show μX 2 0 = 0 from by rw [hX.1.1, hQ0]; rfl)]; rfl
      · rw [ref, if_pos (show zi (T 2 0) ≤ (0 : Int32) from by rw [hQ0]; exact Int32.le_refl _)]
        have e := fSK_b (x2 := y) (x3 := z) (x5 := (zit stF (T 2 0) 0 (0, y)).2) hT hM0 e00 hq (Or.inl (stF_0 (T 2 0) 0 (0, y) rfl))
        by_cases c : y < 0
        · rw [if_pos c]; exact e
        · rw [if_neg c]; exact e
    · have q0 : ¬ μX 2 0 = 0 := by rw [hX.1.1, show (0 : Int32) = zi 0 from rfl, zi_eq (by omega) (by omega)]; exact hQ0
      have q1 : ¬ zi (T 2 0) ≤ (0 : Int32) := by rw [show (0 : Int32) = zi 0 from rfl, zi_le (by omega) (by omega)]; omega
      rcases zcase z 5 (by decide) with ⟨l, hl, rfl⟩ | hz
      · have g1 : ¬ zi l < (0 : Int32) := by rw [show (0 : Int32) = zi 0 from rfl, zi_lt (by omega) (by omega)]; omega
        have g2 : ¬ (4 : Int32) < zi l := by rw [show (4 : Int32) = zi 4 from rfl, zi_lt (by omega) (by omega)]; omega
        by_cases hy : y < 0
        · refine bad _ ?_ ?_
          · unfold f8_stranger
            rw [x_needQN_ok hT hX hq, bnd_ok, zlet_e, if_neg q0, if_neg g1, if_neg g2, x_areTn hT hX hy, bnd0_ok, if_pos (show zi 0 = (0 : Int32) from rfl)]; rfl
          · rw [ref, if_pos hy]
            exact fSK_b hT hM0 e00 hq (Or.inl (stF_0 (T 2 0) 0 (0, y) rfl))
        · obtain ⟨t, ht1, rfl⟩ : ∃ t, t ≤ 2147483647 ∧ y = zi t := zi_ex (by
            rw [Int32.lt_iff_toInt_lt] at hy
            have : (0 : Int32).toInt = 0 := rfl
            omega) (by
            have := Int32.toInt_lt y
            omega)
          have ht2 : t < 2147483648 := by omega
          have hdv : t / 10 ^ T 2 0 ≤ t := Nat.div_le_self _ _
          rw [if_neg hy, if_neg q1, show ((1 : Int32), zi t) = (zi 1, zi t) from rfl, stF_i ht2] at ref
          have xa := x_areTh (t := t) hT hX ht2
          by_cases hok : dOk t (T 2 0) = true ∧ t / 10 ^ T 2 0 = 0
          · obtain ⟨o1, o2⟩ := hok
            rw [o1, o2, decide_eq_true rfl] at xa
            rw [o1, o2] at ref
            obtain ⟨μ1, a1, a2, a3, a4⟩ := x_planToday hT hW hX hS hq
            have hX1 : XT T μ1 := XT_of (fun key hk => a4 key (by unfold pz; omega)) hX
            obtain ⟨μ2, b1, b2, b3⟩ := x_addSt (t := t) (l := l) hT hW' eP hX1 a3 ht2 (by omega) o1
            have hX2 : XT T μ2 := XT_of (fun key hk => b3 key (by unfold pz; omega)) hX1
            have hWs := wb_st (t := t) (l := l) hT hW' eP (by omega) o1
            obtain ⟨μ3, c1, c2, c3⟩ := x_make hT hWs hX2 b2
            have fX : zfr pz μX μ3 := a4.trans (b3.trans (c3.mono (fun k hk => by unfold pz; omega)))
            obtain ⟨m', d1, d2⟩ := m_strM (t := t) (l := l) hT hW hL hM0 hS0 e30 hq ht2 (by omega) o1
            refine ⟨0, zi (tdW T (stW T W' t l)) - zi (tdW T W'), μ3, zi (tdW T (stW T W' t l)) - zi (tdW T W'), m', ?_, ?_, ?_, fun _ => rfl, Or.inl rfl, ?_⟩
            · unfold f8_stranger
              rw [x_needQN_ok hT hX hq, bnd_ok, zlet_e, if_neg q0, if_neg g1, if_neg g2, xa, bnd0_ok, if_neg (show ¬ zi (b01 (true && true)) = (0 : Int32) from by decide), a1, bnd0_ok, x_worthAtMost hT hW' a2, bnd0_ok, b1, bnd0_ok, c1, bnd0_ok, x_worthAtMost hT hWs c2, bnd0_ok]
            · rw [ref, show zi (b01 true) = zi 1 from rfl, fSK_ok hT hM0 e00 hq hl]; exact d1
            · rw [d2.2 0 (by decide)]; exact e00
            · refine zInv_mk (T := T) (W' := W) (r' := r) (R' := R) ⟨hT, hW, hL, XT_of (fun key hk => fX key (by unfold pz; omega)) hX, ?_, XS_of (fun key k1 k2 => fX key (by unfold pz; omega)) hS, ?_, ?_, hB, XR_of (by rw [fX 23 (by unfold pz; omega)]) (fX (23 + 4) (by unfold pz; omega)) hR, ?_⟩ ht hf hi (fun k hk => fX k (by unfold pz; omega)) ?_ ?_ ?_
              · exact MT_at (fun j _ => congrFun (d2.1 4 (by decide) (by omega)) j) (d2.1 47 (by decide) (by omega)) (d2.1 49 (by decide) (by omega)) (fun p _ => congrFun (d2.1 (15 + p) (by omega) (by omega)) 5) (fun d _ => d2.1 (36 + d) (by omega) (by omega)) hT hM0
              · obtain ⟨⟨s1, s2, s3⟩, s4, s5, s6⟩ := hS0
                refine ⟨⟨?_, ?_, ?_⟩, fun p hp => ⟨?_, fun q hq => ?_⟩, fun p hp => ?_, fun d hd => ?_⟩
                · rw [d2.2 20 (by decide)]; exact s1
                · rw [d2.2 30 (by decide)]; exact s2
                · rw [d2.1 4 (by decide) (by omega)]; exact s3
                · rw [d2.1 91 (by decide) (by omega)]; exact (s4 p hp).1
                · rw [d2.1 (51 + p) (by omega) (by rw [hL.2.2.1] at hp; omega)]; exact (s4 p hp).2 q hq
                · rw [d2.1 (15 + p) (by omega) (by omega)]; exact s5 p hp
                · rw [d2.1 92 (by decide) (by omega)]; exact s6 d hd
              · rw [d2.2 30 (by decide)]; exact e30
              · exact MR_of (by rw [d2.2 21 (by decide), zset_nj (by decide)]) (fun i hi => by rw [d2.1 (61 + i) (by omega) (by omega), zset_nk (by omega)]) hB.1 hR'
              · rw [d2.2 1 (by decide), d2.2 3 (by decide), d2.2 22 (by decide), zset_nj (by decide), zset_nj (by decide), zset_nj (by decide)]; exact ⟨rfl, rfl, rfl⟩
              · rw [d2.1 1 (by decide) (by omega), zset_nk (by decide)]
              · intro i hi; rw [d2.1 (94 + i) (by omega) (by omega), zset_nk (by omega)]
          · have xb : (dOk t (T 2 0) && decide (t / 10 ^ T 2 0 = 0)) = false := by
              cases e : (dOk t (T 2 0) && decide (t / 10 ^ T 2 0 = 0))
              · rfl
              · rw [Bool.and_eq_true] at e
                exact absurd ⟨e.1, of_decide_eq_true e.2⟩ hok
            rw [xb] at xa
            refine bad _ ?_ ?_
            · unfold f8_stranger
              rw [x_needQN_ok hT hX hq, bnd_ok, zlet_e, if_neg q0, if_neg g1, if_neg g2, xa, bnd0_ok, if_pos (show zi (b01 false) = (0 : Int32) from rfl)]; rfl
            · rw [ref]
              refine fSK_b hT hM0 e00 hq ?_
              cases e : dOk t (T 2 0)
              · exact Or.inl rfl
              · right
                left
                show zi 0 < zi _
                rw [zi_lt (by omega) (by omega)]
                exact Nat.pos_of_ne_zero (fun e' => hok ⟨e, e'⟩)
      · refine bad _ ?_ ?_
        · unfold f8_stranger
          rw [x_needQN_ok hT hX hq, bnd_ok, zlet_e, if_neg q0]
          by_cases c1 : z < 0
          · rw [if_pos c1]; rfl
          · rw [if_neg c1, if_pos (show (4 : Int32) < z from Int32.lt_of_lt_of_le (by decide) (hz.resolve_left c1))]; rfl
        · rw [ref]
          exact same _ _ _ _ _ (fSK_b hT hM0 e00 hq (Or.inr (Or.inr hz))) (fSK_b hT hM0 e00 hq (Or.inr (Or.inr hz)))
  · refine bad _ ?_ ?_
    · unfold f8_stranger
      rw [x_needQN_no hX hx]; rfl
    · rw [ref]
      exact same _ _ _ _ _ (fSK_q hT hM0 e00 hx) (fSK_q hT hM0 e00 hx)
