/-! THE PURE SIDE, 34: rule, firm -/
/-- what a RUN from a scene is worth -/
def gW0 (T W : zN2) (r days : Nat) : Nat := (zit (gS T r 0 (W 0 0)) days 0 ((W, 0, 0, zN1), zN1, zi 0)).1.2.1
theorem rD_worth {T : zN2} {r : Nat} (hT : TB T) : ∀ n s, (rD T r n s).2.1 ≤ s.2.1 + 99 * n
  | 0, s => Nat.le_refl _
  | n + 1, s => by
    unfold rD
    cases e : rC T s.1 r with
    | none => show s.2.1 ≤ _; omega
    | some c =>
      have h1 := rD_worth hT (r := r) n (rK T c s)
      have e1 : (rK T c s).2.1 = s.2.1 + T 8 (c / 100) := rfl
      have h2 := (tb_8 hT (c / 100)).2
      show (rD T r n (rK T c s)).2.1 ≤ _
      omega
theorem gW0_lt {T W : zN2} (hT : TB T) (r days : Nat) (hd : days ≤ 30) : gW0 T W r days < 100000 := by
  have hD := hT.2.2.1
  have key : ∀ m, (zit (gS T r 0 (W 0 0)) m 0 ((W, 0, 0, zN1), zN1, zi 0)).1.2.1 ≤ 990 * m := by
    intro m
    induction m with
    | zero => exact Nat.le_refl _
    | succ m ih =>
      rw [zit_succ]
      have := rD_worth hT (r := r) (T 2 2) (gA T 0 (gD 0 (zit (gS T r 0 (W 0 0)) m 0 ((W, 0, 0, zN1), zN1, zi 0)).2.2) (gB T (W 0 0) (0 + m) (zit (gS T r 0 (W 0 0)) m 0 ((W, 0, 0, zN1), zN1, zi 0)).1.1), (zit (gS T r 0 (W 0 0)) m 0 ((W, 0, 0, zN1), zN1, zi 0)).1.2)
      have e : (gS T r 0 (W 0 0) (0 + m) (zit (gS T r 0 (W 0 0)) m 0 ((W, 0, 0, zN1), zN1, zi 0))).1.2.1 ≤ (zit (gS T r 0 (W 0 0)) m 0 ((W, 0, 0, zN1), zN1, zi 0)).1.2.1 + 99 * T 2 2 := this
      omega
  have := key days
  unfold gW0
  omega
theorem x_worthOfRun {T W : zN2} {μ : zMem} (hT : TB T) (hW : WB T W) (hL : WL T W) (hX : XT T μ) (hS : XS T W 23 μ) {r days : Nat} (hr : r < 4) (hd : W 0 0 + days ≤ 30) :
    ∃ μ', f8_worthOfRun (zi r) (zi days) zN1 μ = some (0, zi (gW0 T W r days), μ') ∧ zfr zsx μ μ' := by
  obtain ⟨μ1, μ', a1, a2, a3, a4, a5, a6⟩ := x_run (lot := 0) (sd := zi 0) hT hW hL hX hS hr (by decide) hd
  refine ⟨μ', ?_, a5⟩
  have a2' : f4_goOn (zi r) (zi days) (0 : Int32) (0 : Int32) μ1 = some (0, zi 0, μ') := a2
  unfold f8_worthOfRun
  rw [a1, bnd0_ok, zlet_e, if_pos (show zN1 = (-1 : Int32) from rfl)]
  show bnd0 (f4_goOn (zi r) (zi days) (0 : Int32) (0 : Int32) μ1) _ = _
  rw [a2', bnd0_ok, a3.1.2.1]; rfl
theorem wb_led {T W : zN2} {p : Nat} (hW : WB T W) : WB T (nup W 2 p 0) := by
  refine ⟨?_, ?_, ?_, ?_, ?_, ?_, ?_, ?_, ?_⟩
  · rw [nup_nk (by decide)]; exact hW.1
  · rw [nup_nk (by decide)]; exact hW.2.1
  · rw [nup_nk (by decide)]; exact hW.2.2.1
  · rw [nup_nk (by decide)]; exact hW.2.2.2.1
  · rw [nup_nk (by decide)]; exact hW.2.2.2.2.1
  · intro p; rw [nup_nk (by decide)]; exact wb_1 hW p
  · intro q; rw [nup_at]; have := wb_2 hW q; split <;> omega
  · intro p q'; rw [nup_nk (by omega)]; exact wb_th hW p q'
  · rw [nup_nk (by decide)]; exact hW.2.2.2.2.2.2.2.2
theorem xs_led {T W : zN2} {μ : zMem} {p : Nat} (hS : XS T W 28 μ) : XS T (nup W 2 p 0) 28 (zset μ 31 p (zi 0)) := by
  refine ⟨⟨?_, ?_, ?_, ?_, ?_⟩, fun p' hp => ?_⟩
  · rw [zset_nk (by decide), nup_nk (by decide)]; exact hS.1.1
  · rw [zset_nk (by decide), nup_nk (by decide)]; exact hS.1.2.1
  · rw [zset_nk (by decide), nup_nk (by decide)]; exact hS.1.2.2.1
  · rw [zset_nk (by decide), nup_nk (by decide)]; exact hS.1.2.2.2.1
  · rw [zset_nk (by decide), nup_nk (by decide)]; exact hS.1.2.2.2.2
  · rw [nup_nk (by decide)] at hp
    obtain ⟨s1, s2, s3⟩ := hS.2 p' hp
    refine ⟨?_, ?_, fun q' hq' => ?_⟩
    · rw [zset_nk (by decide), nup_nk (by decide)]; exact s1
    · show zset μ 31 p (zi 0) 31 p' = _
      rw [zset_at, nup_at]
      by_cases e : p' = p
      · rw [if_pos ⟨rfl, e⟩, if_pos ⟨rfl, e⟩]
      · rw [if_neg (fun q => e q.2), if_neg (fun q => e q.2)]; exact s2
    · rw [zset_nk (by decide), nup_nk (by omega)]; exact s3 q' hq'
theorem x_worthOfRunP {T W : zN2} {μ : zMem} (hT : TB T) (hW : WB T W) (hL : WL T W) (hX : XT T μ) (hS : XS T W 23 μ) {r days p : Nat} (hr : r < 4) (hd : W 0 0 + days ≤ 30) (hp : p < T 2 1) :
    ∃ μ', f8_worthOfRun (zi r) (zi days) (zi p) μ = some (0, zi (gW0 T (nup W 2 p 0) r days), μ') ∧ zfr zsx μ μ' := by
  have hP := hT.2.1
  obtain ⟨μ1, a1, a2, a3⟩ := x_trial hT hW hS
  have hX1 := XT_28 (zsx_28 a3) hX
  have e0 : nup W 2 p 0 0 0 = W 0 0 := nup_nk (by decide)
  obtain ⟨μ', b1, b2, b3, b4⟩ := x_goOn (sd := zi 0) (lot := 0) (r := r) (days := days) hT (wb_led (p := p) hW) (by rw [nup_nk (by decide)]; exact hL.2.2.1) (XT_of (fun key hk => zset_nk (by omega)) hX1) (xs_led (p := p) a2) hr (by decide) (by rw [e0]; exact hd)
  have b1' : f4_goOn (zi r) (zi days) (0 : Int32) (0 : Int32) (zset μ1 31 p (zi 0)) = some (0, zi 0, μ') := b1
  refine ⟨μ', ?_, (zsx_28 a3).trans ((zfr.refl.set (by unfold zsx; omega)).trans (zsx_rn b4))⟩
  unfold f8_worthOfRun
  rw [a1, bnd0_ok, zlet_e, if_neg (show ¬ zi p = (-1 : Int32) from by rw [zneg1, zi_nN1 (by omega)]; exact id), zin_i (by omega) (by omega), zlet_e, zi_cl (by omega)]
  show bnd0 (f4_goOn (zi r) (zi days) (0 : Int32) (0 : Int32) (zset μ1 31 p (zi 0))) _ = _
  rw [b1', bnd0_ok, b2.1.2.1]
  rfl
/-- the best of the first i -/
def rl (f : Nat → Nat) : Nat → Nat × Nat
  | 0 => (0, f 0)
  | i + 1 => if (rl f i).2 < f (i + 1) then (i + 1, f (i + 1)) else rl f i
theorem rl_le {f : Nat → Nat} {c : Nat} (h : ∀ i, f i < c) : ∀ i, (rl f i).2 < c ∧ (rl f i).1 ≤ i
  | 0 => ⟨h 0, Nat.le_refl _⟩
  | i + 1 => by
    have := rl_le h i
    unfold rl
    split
    · exact ⟨h _, Nat.le_refl _⟩
    · exact ⟨this.1, by omega⟩
theorem P_rule {x : Int32} {μX μM : zMem} (h : zInv μX μM) : zPm cI (f8_rule x μX) (f9_rule x μM) := by
  have h' := h
  obtain ⟨T, W, r, R, n, m, WI, rI, RI, ⟨hT, hW, hL, hX, hM, hS, hS', h30, hB, hR, hR'⟩, ht, hf, hi⟩ := h
  have hN := hW.1
  have hM0 := MT_0 (v := zi 0) hT hM
  have hS0 := MS_0 (v := zi 0) hT hW hS'
  have e00 : zset μM 0 0 (zi 0) 0 0 = zi 0 := zset_00
  rcases zcaseD x (30 - W 0 0) (by omega) with ⟨dy, d1, d2, rfl⟩ | hy
  · have hb := rl_le (f := fun r => gW0 T W r dy) (c := 100000) (fun r => gW0_lt hT r dy (by omega))
    obtain ⟨sx, p1, p2, p3⟩ := zloopE (L := fun n i (s : Int32 × Int32 × zMem) => f8_rule_L12 (zi dy) (fun (x2_12 : Int32) (μ13 : zMem) => some (0, x2_12, μ13)) n s.1 s.2.1 (zi i) s.2.2) (N := 4) (o := fun s => some (0, s.1, s.2.2))
      (fun i s => (if i = 0 then s.1 = zi 0 ∧ s.2.1 = zN1 else s.1 = zi (rl (fun r => gW0 T W r dy) (i - 1)).1 ∧ s.2.1 = zi (rl (fun r => gW0 T W r dy) (i - 1)).2) ∧ zfr zsx μX s.2.2)
      (fun n s _ => by rw [f8_rule_L12, if_pos (show (4 : Int32) ≤ zi 4 by decide)])
      (fun n i s hi hs => by
        obtain ⟨μ', w1, w2⟩ := x_worthOfRun hT hW hL (XT_28 hs.2 hX) (XS_28 hs.2 hS) (r := i) (days := dy) hi (by omega)
        have w1' : f8_worthOfRun (zi i) (zi dy) (-1 : Int32) s.2.2 = some (0, zi (gW0 T W i dy), μ') := w1
        have hle : ¬ (4 : Int32) ≤ zi i := by rw [show (4 : Int32) = zi 4 from rfl, zi_le (by omega) (by omega)]; omega
        have z1 : zi i + (1 : Int32) = zi (i + 1) := zi_add i 1
        have hlt := gW0_lt (W := W) hT i dy (by omega)
        by_cases h0 : i = 0
        · subst h0
          have hs1 := hs.1
          rw [if_pos rfl] at hs1
          refine ⟨(zi 0, zi (gW0 T W 0 dy), μ'), ?_, ⟨rfl, rfl⟩, hs.2.trans w2⟩
          rw [f8_rule_L12, if_neg hle, w1', bnd0_ok, zlet_e, hs1.2, if_neg (by rw [zle_N1 (by omega)]; exact id), z1]
        · have hs1 := hs.1
          rw [if_neg h0] at hs1
          obtain ⟨k, rfl⟩ : ∃ k, i = k + 1 := ⟨i - 1, by omega⟩
          have hbk := hb k
          rw [Nat.add_sub_cancel] at hs1
          by_cases hc : (rl (fun r => gW0 T W r dy) k).2 < gW0 T W (k + 1) dy
          · refine ⟨(zi (k + 1), zi (gW0 T W (k + 1) dy), μ'), ?_, ⟨?_, hs.2.trans w2⟩⟩
            · rw [f8_rule_L12, if_neg hle, w1', bnd0_ok, zlet_e, hs1.2, if_neg (by rw [zi_le (by omega) (by omega)]; omega), z1]
            · rw [if_neg (by omega), Nat.add_sub_cancel]
              unfold rl; rw [if_pos hc]; exact ⟨rfl, rfl⟩
          · refine ⟨(s.1, s.2.1, μ'), ?_, ⟨?_, hs.2.trans w2⟩⟩
            · rw [f8_rule_L12, if_neg hle, w1', bnd0_ok, zlet_e, if_pos (by rw [hs1.2, zi_le (by omega) (by omega)]; omega), z1]
            · rw [if_neg (by omega), Nat.add_sub_cancel]
              unfold rl; rw [if_neg hc]; exact hs1)
      4 0 (zi 0, zN1, μX) zF (by omega) (by unfold zF; omega) ⟨⟨rfl, rfl⟩, zfr.refl⟩
    obtain ⟨sm, q1, q2, q3, q4⟩ := zloopE (L := fun n i (s : Int32 × Int32 × zMem) => f9_rule_L35 (zi dy) (fun (x2_24 : Int32) (μ25 : zMem) => some (0, x2_24, μ25)) n s.1 s.2.1 (zi i) s.2.2) (N := 4) (o := fun s => some (0, s.1, s.2.2))
      (fun i s => (if i = 0 then s.1 = zN1 ∧ s.2.1 = zi 0 else s.1 = zi (rl (fun r => gW0 T W r dy) (i - 1)).1 ∧ s.2.1 = zi (rl (fun r => gW0 T W r dy) (i - 1)).2) ∧ zmq (zset μM 0 0 (zi 0)) s.2.2 ∧ s.2.2 0 0 = zi 0)
      (fun n s _ => by rw [f9_rule_L35, if_pos (show (4 : Int32) ≤ zi 4 by decide)])
      (fun n i s hi hs => by
        obtain ⟨hs1, hs2, hs3⟩ := hs
        obtain ⟨m', b1, b2, b3, b4, b5, b6, b7, b8⟩ := m_runs (r := i) (lot := 0) (sd := zi 0) hT hW hL.2.2.1 hL.1 (MT_q hs2.2.2 hT hM0) (MS_q hs2 hT hW hS0) (by rw [hs2.1.2.2.2, zset_nj (by decide)]; exact h30) hi (by decide) (show W 0 0 + dy ≤ 30 by omega) (fun q => absurd q (by decide))
        have b1' : f9_runs (zi i) (zi dy) (0 : Int32) s.2.2 = some (0, zi 0, m') := b1
        have b2' : m' 1128 ((0 : Int32)).toNatClampNeg = zi (gW0 T W i dy) := b2
        have zz : ∀ A, zin (0 : Int32) 4 A = A := fun A => zin_i (i := 0) (by decide) (by decide)
        have hle : ¬ (4 : Int32) ≤ zi i := by rw [show (4 : Int32) = zi 4 from rfl, zi_le (by omega) (by omega)]; omega
        have z1 : zi i + (1 : Int32) = zi (i + 1) := zi_add i 1
        have hlt := gW0_lt (W := W) hT i dy (by omega)
        by_cases h0 : i = 0
        · subst h0
          rw [if_pos rfl] at hs1
          refine ⟨(zi 0, zi (gW0 T W 0 dy), m'), ?_, ⟨rfl, rfl⟩, hs2.trans b7, b8.trans hs3⟩
          rw [f9_rule_L35, if_neg hle, b1', bnd0_ok, zlet_e, zlet_e, if_pos (show s.1 = (-1 : Int32) from hs1.1), zz, zlet_e, b2', z1]
        · rw [if_neg h0] at hs1
          obtain ⟨k, rfl⟩ : ∃ k, i = k + 1 := ⟨i - 1, by omega⟩
          have hbk := hb k
          rw [Nat.add_sub_cancel] at hs1
          have hn1 : ¬ s.1 = (-1 : Int32) := by rw [hs1.1, zneg1, zi_nN1 (by omega)]; exact id
          by_cases hc : (rl (fun r => gW0 T W r dy) k).2 < gW0 T W (k + 1) dy
          · refine ⟨(zi (k + 1), zi (gW0 T W (k + 1) dy), m'), ?_, ⟨?_, hs2.trans b7, b8.trans hs3⟩⟩
            · rw [f9_rule_L35, if_neg hle, b1', bnd0_ok, zlet_e, zlet_e, if_neg hn1, zz, if_pos (by rw [hs1.2, b2', zi_lt (by omega) (by omega)]; exact hc), zz, zlet_e, b2', z1]
            · rw [if_neg (by omega), Nat.add_sub_cancel]
              unfold rl; rw [if_pos hc]; exact ⟨rfl, rfl⟩
          · refine ⟨(s.1, s.2.1, m'), ?_, ⟨?_, hs2.trans b7, b8.trans hs3⟩⟩
            · rw [f9_rule_L35, if_neg hle, b1', bnd0_ok, zlet_e, zlet_e, if_neg hn1, zz, if_neg (by rw [hs1.2, b2', zi_lt (by omega) (by omega)]; exact hc), z1]
            · rw [if_neg (by omega), Nat.add_sub_cancel]
              unfold rl; rw [if_neg hc]; exact hs1)
      4 0 (zN1, zi 0, zset μM 0 0 (zi 0)) zF (by omega) (by unfold zF; omega) ⟨⟨rfl, rfl⟩, zmq.refl, e00⟩
    refine zPm_q h' (μX' := sx.2.2) (μM' := sm.2.2) (e := 0) (v := zi (rl (fun r => gW0 T W r dy) 3).1) (w := zi (rl (fun r => gW0 T W r dy) 3).1) ?_ ?_ q4 (fun _ => rfl) (Or.inl rfl) p3 (zmq_0.trans q3)
    · have p2' : sx.1 = zi (rl (fun r => gW0 T W r dy) 3).1 := p2.1
      unfold f8_rule
      rw [x_needDays_ok hW hS d1 (show W 0 0 + dy ≤ 30 by omega), bnd_ok]
      refine Eq.trans p1 ?_
      rw [p2']
    · have q2' : sm.1 = zi (rl (fun r => gW0 T W r dy) 3).1 := q2.1
      have hd0 := m_days_ok hW hS0 d1 (show W 0 0 + dy ≤ 30 by omega)
      have hbad : f9_bad (0 : Int32) (1 : Int32) (zset μM 0 0 (zi 0)) = some (0, zi 0, zset μM 0 0 (zi 0)) := m_bad0 e00
      unfold f9_rule
      rw [zlet_e]
      show bnd0 (f9_areDays (zi dy) (zset μM 0 0 (zi 0))) _ = _
      rw [hd0, bnd0_ok, zlet_e, if_neg (show ¬ zi 1 = 0 by decide)]
      show bnd0 (f9_bad (0 : Int32) (1 : Int32) (zset μM 0 0 (zi 0))) _ = _
      rw [hbad, bnd0_ok, if_pos (show zi 0 = 0 from rfl)]
      refine Eq.trans q1 ?_
      rw [q2']
  · refine zPm_q h' (μX' := μX) (μM' := zset (zset μM 0 0 (zi 0)) 0 0 (zi 1)) (e := 1) (v := zi 0) (w := zi 0) ?_ ?_ zset_00 (fun h => absurd h (by decide)) (Or.inr (by decide)) zfr.refl zmq_00
    · unfold f8_rule
      rw [x_needDays_no hW hS hy]; rfl
    · have hd0 := m_days_no hW hS0 hy
      have hbad : f9_bad (1 : Int32) (1 : Int32) (zset μM 0 0 (zi 0)) = some (0, zi 1, zset (zset μM 0 0 (zi 0)) 0 0 (zi 1)) := m_bad1 (c := 1) e00 (by decide) (by decide)
      unfold f9_rule
      rw [zlet_e]
      show bnd0 (f9_areDays x (zset μM 0 0 (zi 0))) _ = _
      rw [hd0, bnd0_ok, zlet_e, if_pos (show zi 0 = 0 from rfl)]
      show bnd0 (f9_bad (1 : Int32) (1 : Int32) (zset μM 0 0 (zi 0))) _ = _
      rw [hbad, bnd0_ok, if_neg (show ¬ zi 1 = 0 by decide)]; rfl
theorem ms_led {T W : zN2} {μ : zMem} {p v : Nat} (hT : TB T) (hW : WB T W) (hp : p < T 2 1) (hS : MS T W μ) : MS T (nup W 2 p v) (zset μ (15 + p) 4 (zi v)) := by
  have hP := hT.2.1
  have hP' := hW.2.2.2.1
  refine ⟨⟨?_, ?_, ?_⟩, fun p' hp' => ⟨?_, fun q hq => ?_⟩, fun p' hp' => ?_, fun d hd => ?_⟩
  · rw [zset_nk (by omega), nup_nk (by decide)]; exact hS.1.1
  · rw [zset_nk (by omega), nup_nk (by decide), nup_nk (by decide)]; exact hS.1.2.1
  · rw [zset_nk (by omega), nup_nk (by decide)]; exact hS.1.2.2
  · rw [nup_nk (by decide)] at hp'
    rw [zset_nk (by omega), nup_nk (by decide)]; exact (hS.2.1 p' hp').1
  · rw [nup_nk (by decide)] at hp'
    rw [zset_nk (by omega), nup_nk (by omega)]; exact (hS.2.1 p' hp').2 q hq
  · rw [zset_at, nup_at]
    by_cases e : p' = p
    · rw [if_pos ⟨by omega, rfl⟩, if_pos ⟨rfl, e⟩]
    · rw [if_neg (by omega), if_neg (fun q => e q.2)]; exact hS.2.2.1 p' hp'
  · rw [zset_nk (by omega), nup_nk (by decide)]; exact hS.2.2.2 d hd
theorem P_firm {x y z : Int32} {μX μM : zMem} (h : zInv μX μM) : zPm cNI (f8_firm x y z μX) (f9_firm x y z μM) := by
  have h' := h
  obtain ⟨T, W, r, R, n, m, WI, rI, RI, ⟨hT, hW, hL, hX, hM, hS, hS', h30, hB, hR, hR'⟩, ht, hf, hi⟩ := h
  have hN := hW.1
  have hP := hT.2.1
  have hM0 := MT_0 (v := zi 0) hT hM
  have hS0 := MS_0 (v := zi 0) hT hW hS'
  have e00 : zset μM 0 0 (zi 0) 0 0 = zi 0 := zset_00
  have bad : ∀ (r' : zRes), r' = some (1, zi 0, μX) → ∀ (r'' : zRes), r'' = some (0, zi 0, zset (zset μM 0 0 (zi 0)) 0 0 (zi 2)) → zPm cNI r' r'' := by
    intro r' e1 r'' e2
    exact zPm_q h' (μX' := μX) (μM' := zset (zset μM 0 0 (zi 0)) 0 0 (zi 2)) (e := 1) (v := zi 0) (w := zi 0) e1 e2 zset_00 (fun h => absurd h (by decide)) (Or.inr (by decide)) zfr.refl zmq_00
  rcases zcase x (T 2 1) (by omega) with ⟨p, hp, rfl⟩ | hx
  · rcases zcase y 4 (by omega) with ⟨r, hr, rfl⟩ | hy
    · rcases zcaseD z (30 - W 0 0) (by omega) with ⟨dy, d1, d2, rfl⟩ | hz
      · obtain ⟨μ1, a1, a2⟩ := x_worthOfRunP hT hW hL hX hS hr (show W 0 0 + dy ≤ 30 by omega) hp
        obtain ⟨μ2, c1, c2⟩ := x_worthOfRun hT hW hL (XT_28 a2 hX) (XS_28 a2 hS) hr (show W 0 0 + dy ≤ 30 by omega)
        obtain ⟨m1, b1, b2, -, -, -, -, b7, b8⟩ := m_runs (lot := 0) (sd := zi 0) hT hW hL.2.2.1 hL.1 hM0 hS0 (by rw [zset_nj (by decide)]; exact h30) hr (by decide) (show W 0 0 + dy ≤ 30 by omega) (fun q => absurd q (by decide))
        have hM1 : MT T m1 := MT_q b7.2.2 hT hM0
        have hS1 : MS T W m1 := MS_q b7 hT hW hS0
        have hM2 : MT T (zset m1 (15 + p) 4 (zi 0)) := MT_at (fun j _ => by rw [zset_nk (by omega)]) (zset_nk (by omega)) (zset_nk (by omega)) (fun p' hp' => by rw [zset_at, if_neg (by omega)]) (fun d hd => zset_nk (by omega)) hT hM1
        have hS2 : MS T (nup W 2 p 0) (zset m1 (15 + p) 4 (zi 0)) := ms_led hT hW hp hS1
        have e0 : nup W 2 p 0 0 0 = W 0 0 := nup_nk (by decide)
        have e30 : m1 0 30 = zN1 := by rw [b7.1.2.2.2, zset_nj (by decide)]; exact h30
        obtain ⟨m2, g1, g2, -, -, -, -, g7, g8⟩ := m_runs (lot := 0) (sd := zi 0) (r := r) (days := dy) hT (wb_led (p := p) hW) (by rw [nup_nk (by decide)]; exact hL.2.2.1) (by rw [nup_nk (by decide), e0]; exact hL.1) hM2 hS2 (by rw [zset_nk (by omega)]; exact e30) hr (by decide) (by rw [e0]; omega) (fun q => absurd q (by decide))
        have eled : m1 (15 + p) 4 = zi (W 2 p) := hS1.2.2.1 p hp
        have hfin : zmq (zset μM 0 0 (zi 0)) (zset m2 (15 + p) 4 (zi (W 2 p))) := by
          refine ⟨⟨?_, ?_, ?_, ?_⟩, fun key j hk => ?_, fun key hk => ?_⟩
          · rw [zset_nk (by omega), g7.1.1, zset_nk (by omega)]; exact b7.1.1
          · rw [zset_nk (by omega), g7.1.2.1, zset_nk (by omega)]; exact b7.1.2.1
          · rw [zset_nk (by omega), g7.1.2.2.1, zset_nk (by omega)]; exact b7.1.2.2.1
          · rw [zset_nk (by omega), g7.1.2.2.2, zset_nk (by omega)]; exact b7.1.2.2.2
          · have hne : key ≠ 15 + p := fun e => by
              rw [e, kidx_big (by unfold zsk; omega)] at hk; omega
            rw [zset_nk hne, g7.2.1 key j hk, zset_nk hne]; exact b7.2.1 key j hk
          · by_cases e : key = 15 + p
            · subst e
              funext j
              rw [zset_at]
              by_cases e4 : j = 4
              · rw [if_pos ⟨rfl, e4⟩, e4, ← eled, b7.2.2 (15 + p) hk]
              · rw [if_neg (fun q => e4 q.2), g7.2.2 (15 + p) hk, zset_nj e4, b7.2.2 (15 + p) hk]
            · rw [zset_nk e, g7.2.2 key hk, zset_nk e]; exact b7.2.2 key hk
        refine zPm_q h' (μX' := μ2) (μM' := zset m2 (15 + p) 4 (zi (W 2 p))) (e := 0) (v := zi (gW0 T (nup W 2 p 0) r dy) - zi (gW0 T W r dy)) (w := zi (gW0 T (nup W 2 p 0) r dy) - zi (gW0 T W r dy)) ?_ ?_ ?_ (fun _ => rfl) (Or.inl rfl) (a2.trans c2) (zmq_0.trans hfin)
        · unfold f8_firm
          simp (disch := omega) only [x_needP_ok hT hX hp, x_needRule_ok hr, x_needDays_ok hW hS d1 (show W 0 0 + dy ≤ 30 by omega), bnd_ok, a1, bnd0_ok, ↓zneg1, c1]
        · have b2' : m1 1128 0 = zi (gW0 T W r dy) := b2
          have g2' : m2 1128 0 = zi (gW0 T (nup W 2 p 0) r dy) := g2
          unfold f9_firm
          simp (disch := omega) only [zlet_e, zlit, m_isP_ok hT hM0 hp, m_inn_o, m_days_ok hW hS0 d1 (show W 0 0 + dy ≤ 30 by omega), bnd0_ok, if_true, if_false, ite_true, ite_false, Bool.false_eq_true, Bool.true_eq_false, reduceIte, z10, z01, Nat.one_ne_zero, Nat.zero_ne_one, m_bad0 e00, b1, zin_i, zi_cl, b2', eled, g1, zset_nk, g2']
        · rw [zset_nk (by omega), g8, zset_nk (by omega), b8]; exact zset_00
      · refine bad _ ?_ _ ?_
        · unfold f8_firm
          simp (disch := omega) only [x_needP_ok hT hX hp, x_needRule_ok hr, x_needDays_no hW hS hz, bnd_ok, bnd_ex (e := 0)]
        · unfold f9_firm
          simp (disch := omega) only [zlet_e, zlit, m_isP_ok hT hM0 hp, m_inn_o, m_days_no hW hS0 hz, bnd0_ok, if_true, if_false, ite_true, ite_false, Bool.false_eq_true, Bool.true_eq_false, reduceIte, z10, z01, Nat.one_ne_zero, Nat.zero_ne_one, m_bad0 e00, m_bad1 e00]
    · refine bad _ ?_ _ ?_
      · unfold f8_firm
        simp (disch := omega) only [x_needP_ok hT hX hp, x_needRule_no hy, bnd_ok, bnd_ex (e := 0)]
      · unfold f9_firm
        simp (disch := omega) only [zlet_e, zlit, m_isP_ok hT hM0 hp, m_inn_c (show 3 < 1000 by decide) hy, bnd0_ok, if_true, if_false, ite_true, ite_false, Bool.false_eq_true, Bool.true_eq_false, reduceIte, z10, z01, Nat.one_ne_zero, Nat.zero_ne_one, m_bad0 e00, m_bad1 e00]
  · refine zPm_q h' (μX' := μX) (μM' := zset (zset μM 0 0 (zi 0)) 0 0 (zi 1)) (e := 2) (v := zi 0) (w := zi 0) ?_ ?_ zset_00 (fun h => absurd h (by decide)) (Or.inr (by decide)) zfr.refl zmq_00
    · unfold f8_firm
      simp only [x_needP_no hX hx, bnd_ex (e := 1)]
    · unfold f9_firm
      simp (disch := omega) only [zlet_e, zlit, m_isP_no hT hM0 hx, bnd0_ok, m_bad1 e00, if_true, if_false, ite_true, ite_false, Bool.false_eq_true, Bool.true_eq_false, reduceIte, z10, z01, Nat.one_ne_zero, Nat.zero_ne_one]
