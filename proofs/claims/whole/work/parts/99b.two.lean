/-! THE PURE SIDE, 41: twoDays -/
theorem bN_ok {T V : zN2} (hT : TB T) {e : Nat} (h : bN T V = some e) : cok T e ∧ e < 1000 := by
  have hD := hT.2.2.1
  have hPP := hT.2.1
  have := zcand_inv (D := T 2 2) (P := T 2 1) (G := bS T V) (fun b => ∀ c, b = some c → cok T c ∧ c < 1000) (s := none) (fun c hc => (nomatch hc)) (fun d a b t hd hab hb ht c hc => by
    have p1 : (100 * d + 10 * a + b) / 100 = d := by omega
    have p2 : (100 * d + 10 * a + b) / 10 % 10 = a := by omega
    have p3 : (100 * d + 10 * a + b) % 10 = b := by omega
    have hnew : cok T (100 * d + 10 * a + b) ∧ 100 * d + 10 * a + b < 1000 := ⟨⟨by rw [p1]; exact hd, by rw [p2]; omega, by rw [p3]; exact hb⟩, by omega⟩
    unfold bS at hc
    split at hc
    · cases t with
      | none =>
        have hc : some (100 * d + 10 * a + b) = some c := hc
        rw [← Option.some.inj hc]; exact hnew
      | some e =>
        simp only at hc
        split at hc
        · rw [← Option.some.inj hc]; exact hnew
        · exact ht c hc
    · exact ht c hc)
  exact this e h
/-- the best WORK of the DAY behind -/
def nxB (T V : zN2) : Option Nat := if V 0 0 < 29 then bN T (tD T V (V 0 0 + 1)) else none
theorem m_then0 {T V : zN2} {m : zMem} (hT : TB T) (hV : WB T V) (hP : V 0 3 = T 2 1) (hM : MT T m) (hS : MS T V m) (h30 : m 0 30 = zN1) :
    ∃ m2 m3, zlet (zset m 0 20 ((m 0 20) + (1 : Int32))) (fun (μ4 : zMem) => bnd0 (f9_dawns μ4) (fun (v5 : Int32) (μ6 : zMem) => zlet (fun (s7 : Int32) (μ8 : zMem) => bnd0 (f9_lays (1 : Int32) (1 : Int32) μ8) (fun (v9 : Int32) (μ10 : zMem) => some (0, s7, μ10))) (fun j11 => if (μ6 0 20) ≤ (29 : Int32) then bnd0 (f9_bestNow μ6) (fun (v14 : Int32) (μ15 : zMem) => j11 v14 μ15) else j11 (-1 : Int32) μ6))) = some (0, oI (nxB T V), m3) ∧ mfr (fun j => j = 20) zsk m m2 ∧
      (∀ key j, kidx key j < 177 → m3 key j = m2 (98 + 1) (kidx key j)) ∧ (∀ key j, 177 ≤ kidx key j → ¬ (key = 0 ∧ j = 29) → m3 key j = m2 key j) := by
  have hN := hV.1
  have e20 : m 0 20 + (1 : Int32) = zi (V 0 0 + 1) := by rw [hS.1.1]; exact zi_add _ 1
  have hM1 : MT T (zset m 0 20 (zi (V 0 0 + 1))) := MT_q (fun key hk => zset_nk (by unfold zmk at hk; omega)) hT hM
  have hdw := m_dawns hT hM1
  have hM2 : MT T (zfil (zset m 0 20 (zi (V 0 0 + 1))) 91 9 (zi (T 2 4))) := MT_q (fun key hk => zfil_nk (by unfold zmk at hk; omega)) hT hM1
  have h20 : zfil (zset m 0 20 (zi (V 0 0 + 1))) 91 9 (zi (T 2 4)) 0 20 = zi (V 0 0 + 1) := by rw [zfil_nk (by decide), zset_eq]
  have hS2 : MS T (tD T V (V 0 0 + 1)) (zfil (zset m 0 20 (zi (V 0 0 + 1))) 91 9 (zi (T 2 4))) := ms_dawn2 hT hV hS h20 (by rw [zfil_nk (by decide), zset_nj (by decide)]; exact h30) (by rw [zfil_nk (by decide), zset_nk (by decide)]) (fun p hp => by rw [zfil_at, if_pos ⟨rfl, hp⟩]) (by rw [zfil_nk (by decide), zset_nk (by decide)]) (fun p hp => by rw [zfil_nk (by omega), zset_nk (by omega)]) (fun p hp => by rw [zfil_nk (by omega), zset_nk (by omega)])
  obtain ⟨m3, f1, f2, f3⟩ := m_lays1 (i := 1) (μ := zfil (zset m 0 20 (zi (V 0 0 + 1))) 91 9 (zi (T 2 4))) (by decide)
  have f1' : f9_lays (1 : Int32) (1 : Int32) (zfil (zset m 0 20 (zi (V 0 0 + 1))) 91 9 (zi (T 2 4))) = some (0, zi 0, m3) := f1
  refine ⟨_, m3, ?_, mfr.fil (k := 91) (z := 9) (v := zi (T 2 4)) (mfr.set0 (J := fun j => j = 20) (S := zsk) (μ := m) (j := 20) (v := zi (V 0 0 + 1)) mfr.refl rfl) (by decide) (Or.inl rfl), f2, f3⟩
  rw [zlet_e, e20, hdw, bnd0_ok, zlet_e, h20]
  unfold nxB
  by_cases h29 : V 0 0 < 29
  · rw [if_pos (show zi (V 0 0 + 1) ≤ (29 : Int32) from by rw [show (29 : Int32) = zi 29 from rfl, zi_le (by omega) (by omega)]; omega), if_pos h29, (m_bestNow hT (wb_dawn hT hV (by omega)) hP hM2 hS2).1, bnd0_ok]
    show bnd0 (f9_lays (1 : Int32) (1 : Int32) (zfil (zset m 0 20 (zi (V 0 0 + 1))) 91 9 (zi (T 2 4)))) _ = _
    rw [f1', bnd0_ok]
  · rw [if_neg (show ¬ zi (V 0 0 + 1) ≤ (29 : Int32) from by rw [show (29 : Int32) = zi 29 from rfl, zi_le (by omega) (by omega)]; omega), if_neg h29]
    show bnd0 (f9_lays (1 : Int32) (1 : Int32) (zfil (zset m 0 20 (zi (V 0 0 + 1))) 91 9 (zi (T 2 4)))) _ = _
    rw [f1', bnd0_ok]; rfl
theorem m_thenN {T W : zN2} {μ : zMem} (hT : TB T) (hW : WB T W) (hP : W 0 3 = T 2 1) (hM : MT T μ) (hS : MS T W μ) (h30 : μ 0 30 = zN1) : ∃ μ', f9_thenBest (-1 : Int32) μ = some (0, oI (nxB T W), μ') ∧ zmb μ μ' := by
  obtain ⟨m1, a1, a2, a3⟩ := m_lays0 (i := 1) (μ := μ) (by decide)
  have g1 : MS T W m1 := MS_j a3 ⟨by decide, by decide⟩ (by decide) (fun k hk => by unfold zsk at hk; omega) (fun p hp => by omega) hT hW hS
  have g2 : MT T m1 := MT_j a3 (fun k hk => by unfold zmk at hk; omega) hT hM
  have g3 : m1 0 30 = zN1 := (a3.2 30 (by decide)).trans h30
  obtain ⟨m2, m3, b1, b2, b3, b4⟩ := m_then0 hT hW hP g2 g1 g3
  have a1' : f9_lays (1 : Int32) (0 : Int32) μ = some (0, zi 0, m1) := a1
  refine ⟨m3, ?_, zmb_aside (J := fun j => j = 20) (S := zsk) a2 a3 b2 b3 b4 (fun k hk => hk) (fun j hj => hj)⟩
  unfold f9_thenBest
  rw [a1', bnd0_ok, zlet_e, if_pos rfl]
  exact b1
theorem m_thenC {T W : zN2} {μ : zMem} (hT : TB T) (hW : WB T W) (hP : W 0 3 = T 2 1) (hM : MT T μ) (hS : MS T W μ) (h30 : μ 0 30 = zN1) {c : Nat} (h1000 : c < 1000) (hc : cok T c) (he : tE T W (c / 100) (c / 10 % 10) (c % 10) = 0) : ∃ μ', f9_thenBest (zi c) μ = some (0, oI (if W 0 0 < 29 then bN T (vB T W 1 c) else none), μ') ∧ zmb μ μ' := by
  obtain ⟨c1, c2, c3⟩ := hc
  obtain ⟨-, -, hab, -, l1, l2, -⟩ := tE_0 he
  obtain ⟨v1, v2⟩ := vB_b (nd := 0) hT hW (Or.inl rfl) ⟨c1, c2, c3⟩ he
  obtain ⟨m1, a1, a2, a3⟩ := m_lays0 (i := 1) (μ := μ) (by decide)
  have g1 : MS T W m1 := MS_j a3 ⟨by decide, by decide⟩ (by decide) (fun k hk => by unfold zsk at hk; omega) (fun p hp => by omega) hT hW hS
  have g2 : MT T m1 := MT_j a3 (fun k hk => by unfold zmk at hk; omega) hT hM
  have g3 : m1 0 30 = zN1 := (a3.2 30 (by decide)).trans h30
  obtain ⟨m2, w1, w2, w3⟩ := m_works hT hW g2 g1 c1 (show c / 10 % 10 < W 0 3 by omega) (show c % 10 < W 0 3 by omega) c2 c3 hab l1 l2
  have hM2 : MT T m2 := MT_fr w3 (by omega) (by omega) (by omega) (fun p hp => by omega) (fun d hd => by omega) hT g2
  have g4 : m2 0 30 = zN1 := by rw [w3 0 (by omega)]; exact g3
  obtain ⟨m4, m3, b1, b2, b3, b4⟩ := m_then0 hT (show WB T (tK T W (c / 100) (c / 10 % 10) (c % 10)) from v1) (v2.trans hP) hM2 w2 g4
  have a1' : f9_lays (1 : Int32) (0 : Int32) μ = some (0, zi 0, m1) := a1
  have e00 : tK T W (c / 100) (c / 10 % 10) (c % 10) 0 0 = W 0 0 := tK_0 hab (by decide)
  have enb : nxB T (tK T W (c / 100) (c / 10 % 10) (c % 10)) = if W 0 0 < 29 then bN T (vB T W 1 c) else none := by
    unfold nxB vB; rw [e00, if_neg (show ¬ 1 = 0 by decide)]
  refine ⟨m3, ?_, zmb_aside (J := fun j => j = 20) (S := zsk) a2 a3 ((mfr.ofz w3 (by omega) (fun k hk => hk)).trans b2) b3 b4 (fun k hk => hk) (fun j hj => hj)⟩
  unfold f9_thenBest
  rw [a1', bnd0_ok, zlet_e, if_neg (show ¬ zi c = -1 from by rw [zneg1, zi_nN1 (by omega)]; exact id)]
  have eh : zi c / (100 : Int32) = zi (c / 100) := zi_div (b := 100) (by omega) (by decide)
  have ed : zrem (zi c / (10 : Int32)) (10 : Int32) = zi (c / 10 % 10) := by rw [show (10 : Int32) = zi 10 from rfl, zi_div (by omega) (by decide), zrem_i (by omega) (by decide)]
  have em : zrem (zi c) (10 : Int32) = zi (c % 10) := zrem_i (b := 10) (by omega) (by decide)
  rw [eh, ed, em, w1, bnd0_ok, ← enb]
  exact b1
/-- a step of the reference's loop -/
def wQ (T W : zN2) (c : Nat) (s : qT) : qT := if W 0 0 < 29 then sS T W 1 c s else s
theorem m_two1 {T W : zN2} {μ0 m : zMem} (hT : TB T) (hW : WB T W) (hP : W 0 3 = T 2 1) (hM : MT T μ0) (hS : MS T W μ0) (h30 : μ0 0 30 = zN1) {v n : Nat} (hv : v < 64 * T 2 2) {s : qT} (h : mB s μ0 m) (K : Int32 → zMem → zRes) :
    ∃ m', f9_twoDays_L132 K (n + 1) (zi s.1) (zi v) m = f9_twoDays_L132 K n (zi (if v / 8 % 8 < v % 8 ∧ v % 8 < T 2 1 then wQ T W (100 * (v / 64) + 10 * (v / 8 % 8) + v % 8) s else s).1) (zi (v + 1)) m' ∧ mB (if v / 8 % 8 < v % 8 ∧ v % 8 < T 2 1 then wQ T W (100 * (v / 64) + 10 * (v / 8 % 8) + v % 8) s else s) μ0 m' := by
  have hD := hT.2.2.1
  have hPP := hT.2.1
  obtain ⟨h1, h2, h3, h4, h5⟩ := h
  have hM' : MT T m := MT_q h4.2.2 hT hM
  have hS' : MS T W m := MS_q h4 hT hW hS
  have h30' : m 0 30 = zN1 := h4.1.2.2.2.trans h30
  have z2 : ∀ A, zin (2 : Int32) 6 A = A := fun A => zin_i (i := 2) (by decide) (by decide)
  have z16 : ∀ A, zin (1 : Int32) 6 A = A := fun A => zin_i (i := 1) (by decide) (by decide)
  have z04 : ∀ A, zin (0 : Int32) 4 A = A := fun A => zin_i (i := 0) (by decide) (by decide)
  have z02 : ∀ A, zin (0 : Int32) 2 A = A := fun A => zin_i (i := 0) (by decide) (by decide)
  have z12 : ∀ A, zin (1 : Int32) 2 A = A := fun A => zin_i (i := 1) (by decide) (by decide)
  have n2 : (2 : Int32).toNatClampNeg = 2 := by decide
  have n1 : (1 : Int32).toNatClampNeg = 1 := by decide
  have n0 : (0 : Int32).toNatClampNeg = 0 := by decide
  have hle : ¬ (64 : Int32) * m 4 2 ≤ zi v := by rw [hM'.1.2.2.1, show (64 : Int32) = zi 64 from rfl, zi_mul, zi_le (by omega) (by omega)]; omega
  have e64 : zi v / (64 : Int32) = zi (v / 64) := zi_div (b := 64) (by omega) (by decide)
  have e8 : zrem (zi v / (8 : Int32)) (8 : Int32) = zi (v / 8 % 8) := by rw [show (8 : Int32) = zi 8 from rfl, zi_div (by omega) (by decide), zrem_i (by omega) (by decide)]
  have e88 : zrem (zi v) (8 : Int32) = zi (v % 8) := zrem_i (b := 8) (by omega) (by decide)
  have z1 : zi v + (1 : Int32) = zi (v + 1) := zi_add v 1
  have q1 : (100 * (v / 64) + 10 * (v / 8 % 8) + v % 8) / 100 = v / 64 := by omega
  have q2 : (100 * (v / 64) + 10 * (v / 8 % 8) + v % 8) / 10 % 10 = v / 8 % 8 := by omega
  have q3 : (100 * (v / 64) + 10 * (v / 8 % 8) + v % 8) % 10 = v % 8 := by omega
  have hvd : v / 64 < T 2 2 := by omega
  have hzd : ∀ A, zin (zi (v / 64)) 10 A = A := fun A => zin_i (by omega) (by omega)
  rw [f9_twoDays_L132, z2, n2, if_neg hle, zlet_e, e64, zlet_e, e8, zlet_e, e88, zlet_e]
  by_cases ha : v % 8 ≤ v / 8 % 8
  · refine ⟨m, ?_, by rw [if_neg (by omega)]; exact ⟨h1, h2, h3, h4, h5⟩⟩
    rw [if_pos (show zi (v % 8) ≤ zi (v / 8 % 8) from by rw [zi_le (by omega) (by omega)]; exact ha), if_neg (by omega), z1]
  · rw [if_neg (show ¬ zi (v % 8) ≤ zi (v / 8 % 8) from by rw [zi_le (by omega) (by omega)]; exact ha), z16, n1]
    by_cases hb : T 2 1 ≤ v % 8
    · refine ⟨m, ?_, by rw [if_neg (by omega)]; exact ⟨h1, h2, h3, h4, h5⟩⟩
      rw [if_pos (show m 4 1 ≤ zi (v % 8) from by rw [hM'.1.2.1, zi_le (by omega) (by omega)]; exact hb), if_neg (by omega), z1]
    · have hcond : v / 8 % 8 < v % 8 ∧ v % 8 < T 2 1 := by omega
      rw [if_neg (show ¬ m 4 1 ≤ zi (v % 8) from by rw [hM'.1.2.1, zi_le (by omega) (by omega)]; exact hb), m_canBe hT hW hM' hS' hvd (show v / 8 % 8 < W 0 3 by omega) (show v % 8 < W 0 3 by omega), bnd0_ok]
      simp only [if_pos hcond]
      have hck : cok T (100 * (v / 64) + 10 * (v / 8 % 8) + v % 8) := ⟨by rw [q1]; exact hvd, by rw [q2]; omega, by rw [q3]; omega⟩
      have hcode : ∀ mm, f9_coded (zi (v / 64)) (zi (v / 8 % 8)) (zi (v % 8)) mm = some (0, zi (100 * (v / 64) + 10 * (v / 8 % 8) + v % 8), mm) := by
        intro mm
        unfold f9_coded
        rw [show (100 : Int32) = zi 100 from rfl, show (10 : Int32) = zi 10 from rfl, zi_mul, zi_mul, zi_add, zi_add]
      by_cases h0 : tE T W (v / 64) (v / 8 % 8) (v % 8) = 0
      · have h0' : tE T W ((100 * (v / 64) + 10 * (v / 8 % 8) + v % 8) / 100) ((100 * (v / 64) + 10 * (v / 8 % 8) + v % 8) / 10 % 10) ((100 * (v / 64) + 10 * (v / 8 % 8) + v % 8) % 10) = 0 := by rw [q1, q2, q3]; exact h0
        have k8 := tb_8 hT (v / 64)
        obtain ⟨m2, g1, g2⟩ := m_thenC hT hW hP hM' hS' h30' (show 100 * (v / 64) + 10 * (v / 8 % 8) + v % 8 < 1000 by omega) hck h0'
        have hM2 : MT T m2 := MT_q g2.1.2.2 hT hM'
        have hmb := mB_zmb (μ0 := μ0) ⟨h1, h2, h3, h4, h5⟩ g2
        have e36 : m2 (36 + (zi (v / 64)).toNatClampNeg) 0 = zi (T 8 (v / 64)) := by rw [zi_cl (by omega)]; exact (hM2.2.2.2.2 _ hvd).1
        rw [if_neg (show ¬ zi (if tE T W (v / 64) (v / 8 % 8) (v % 8) = 0 then 1 else 0) = 0 from by rw [if_pos h0]; decide), hcode, bnd0_ok, g1, bnd0_ok]
        have eb : wQ T W (100 * (v / 64) + 10 * (v / 8 % 8) + v % 8) s = match (if W 0 0 < 29 then bN T (vB T W 1 (100 * (v / 64) + 10 * (v / 8 % 8) + v % 8)) else none) with
            | none => s
            | some e => if s.1 < T 8 (v / 64) + T 8 (e / 100) then (T 8 (v / 64) + T 8 (e / 100), zi (100 * (v / 64) + 10 * (v / 8 % 8) + v % 8), zi e) else s := by
          unfold wQ sS qB
          by_cases h29 : W 0 0 < 29
          · rw [if_pos h29, if_pos h29, if_pos h0', q1]
            cases bN T (vB T W 1 (100 * (v / 64) + 10 * (v / 8 % 8) + v % 8)) <;> rfl
          · rw [if_neg h29, if_neg h29]
        rw [eb]
        cases hbn : (if W 0 0 < 29 then bN T (vB T W 1 (100 * (v / 64) + 10 * (v / 8 % 8) + v % 8)) else none) with
        | none =>
          refine ⟨m2, ?_, hmb⟩
          rw [if_pos (show oI none = -1 from rfl), z1]
        | some e =>
          have hbe : cok T e ∧ e < 1000 := by
            by_cases h29 : W 0 0 < 29
            · rw [if_pos h29] at hbn; exact bN_ok hT hbn
            · rw [if_neg h29] at hbn; exact (nomatch hbn)
          have ke := tb_8 hT (e / 100)
          have hee := hbe.1.1
          have e36' : m2 (36 + (zi (e / 100)).toNatClampNeg) 0 = zi (T 8 (e / 100)) := by rw [zi_cl (by omega)]; exact (hM2.2.2.2.2 _ hee).1
          have ediv : oI (some e) / (100 : Int32) = zi (e / 100) := zi_div (a := e) (b := 100) (by omega) (by decide)
          have hze : ∀ A, zin (zi (e / 100)) 10 A = A := fun A => zin_i (by omega) (by omega)
          rw [if_neg (show ¬ oI (some e) = -1 from by show ¬ zi e = -1; rw [zneg1, zi_nN1 (by omega)]; exact id), ediv, hzd, z04, hze, z04, n0, e36, e36', zi_add]
          simp only
          by_cases hlt : s.1 < T 8 (v / 64) + T 8 (e / 100)
          · refine ⟨zset (zset m2 1127 0 (zi (100 * (v / 64) + 10 * (v / 8 % 8) + v % 8))) 1127 1 (zi e), ?_, ?_⟩
            · rw [if_pos (show zi s.1 < zi (T 8 (v / 64) + T 8 (e / 100)) from by rw [zi_lt (by omega) (by omega)]; exact hlt), if_pos hlt, hzd, z04, hze, z04, zlet_e, hcode, bnd0_ok, z02, zlet_e, z12, zlet_e, z1]; rfl
            · rw [if_pos hlt]
              exact ⟨by rw [zset_nj (by decide), zset_eq], zset_eq, by show T 8 (v / 64) + T 8 (e / 100) ≤ 200; omega, hmb.2.2.2.1.trans (zmq_1127.trans zmq_1127), by rw [zset_nk (by decide), zset_nk (by decide)]; exact hmb.2.2.2.2⟩
          · refine ⟨m2, ?_, by rw [if_neg hlt]; exact hmb⟩
            rw [if_neg (show ¬ zi s.1 < zi (T 8 (v / 64) + T 8 (e / 100)) from by rw [zi_lt (by omega) (by omega)]; exact hlt), if_neg hlt, z1]
      · have h0' : ¬ tE T W ((100 * (v / 64) + 10 * (v / 8 % 8) + v % 8) / 100) ((100 * (v / 64) + 10 * (v / 8 % 8) + v % 8) / 10 % 10) ((100 * (v / 64) + 10 * (v / 8 % 8) + v % 8) % 10) = 0 := by rw [q1, q2, q3]; exact h0
        have eb : wQ T W (100 * (v / 64) + 10 * (v / 8 % 8) + v % 8) s = s := by
          unfold wQ sS
          rw [if_neg h0', ite_self]
        rw [eb]
        refine ⟨m, ?_, ⟨h1, h2, h3, h4, h5⟩⟩
        rw [if_pos (show zi (if tE T W (v / 64) (v / 8 % 8) (v % 8) = 0 then 1 else 0) = 0 from by rw [if_neg h0]; rfl), z1]
theorem m_two132 {T W : zN2} {μ0 m : zMem} (hT : TB T) (hW : WB T W) (hP : W 0 3 = T 2 1) (hM : MT T μ0) (hS : MS T W μ0) (h30 : μ0 0 30 = zN1) {s : qT} (h : mB s μ0 m) (K : Int32 → zMem → zRes) :
    ∃ m', f9_twoDays_L132 K zF (zi s.1) (zi 0) m = K (zi (zcand (T 2 2) (T 2 1) (wQ T W) s).1) m' ∧ mB (zcand (T 2 2) (T 2 1) (wQ T W) s) μ0 m' := by
  have hD := hT.2.2.1
  have hPP := hT.2.1
  rw [← zit_cand hPP]
  obtain ⟨x, p1, p2, p3⟩ := zloopS (L := fun n i (x : Int32 × zMem) => f9_twoDays_L132 K n x.1 (zi i) x.2) (N := 64 * T 2 2) (o := fun x => K x.1 x.2) (F := fun v s => if v / 8 % 8 < v % 8 ∧ v % 8 < T 2 1 then wQ T W (100 * (v / 64) + 10 * (v / 8 % 8) + v % 8) s else s)
    (fun _ s x => x.1 = zi s.1 ∧ mB s μ0 x.2)
    (fun n x s hx => by
      have hM' : MT T x.2 := MT_q hx.2.2.2.2.1.2.2 hT hM
      have z2 : ∀ A, zin (2 : Int32) 6 A = A := fun A => zin_i (i := 2) (by decide) (by decide)
      have n2 : (2 : Int32).toNatClampNeg = 2 := by decide
      rw [f9_twoDays_L132, z2, n2, if_pos (show (64 : Int32) * x.2 4 2 ≤ zi (64 * T 2 2) from by rw [hM'.1.2.2.1, show (64 : Int32) = zi 64 from rfl, zi_mul]; exact Int32.le_refl _)])
    (fun n i x s hi hx => by
      obtain ⟨x1, x2⟩ := x
      have e1 : x1 = zi s.1 := hx.1
      subst e1
      obtain ⟨m', a1, a2⟩ := m_two1 (n := n) hT hW hP hM hS h30 hi hx.2 K
      exact ⟨(_, m'), a1, rfl, a2⟩)
    (64 * T 2 2) 0 (zi s.1, m) s zF (by omega) (by unfold zF; omega) ⟨rfl, h⟩
  refine ⟨x.2, ?_, p3⟩
  rw [← p2]
  exact p1
def nS (T W : zN2) (s : qT) : qT := match nxB T W with
  | none => s
  | some c => if s.1 < T 8 (c / 100) then (T 8 (c / 100), zN1, zi c) else s
theorem twoV_eq {T W : zN2} : twoV T W = zcand (T 2 2) (T 2 1) (wQ T W) (nS T W (pB T W)) := by
  unfold twoV nS nxB
  by_cases h29 : W 0 0 < 29
  · have e : wQ T W = sS T W 1 := by funext c s; unfold wQ; rw [if_pos h29]
    rw [if_pos h29, if_pos h29, e]
    unfold qB
    cases bN T (tD T W (W 0 0 + 1)) with
    | none => rfl
    | some c => simp only [Nat.zero_add]
  · rw [if_neg h29, if_neg h29]
    exact (zcand_inv (D := T 2 2) (P := T 2 1) (G := wQ T W) (fun b => b = pB T W) (s := pB T W) rfl (fun d a b t _ _ _ ht => by unfold wQ; rw [if_neg h29]; exact ht)).symm
theorem m_twoTail {T W : zN2} {μ0 m : zMem} (hT : TB T) (hW : WB T W) (hP : W 0 3 = T 2 1) (hM : MT T μ0) (hS : MS T W μ0) (h30 : μ0 0 30 = zN1) {s : qT} (h : mB s μ0 m) (K : Int32 → zMem → zRes) :
    ∃ m', bnd0 (f9_thenBest (-1 : Int32) m) (fun (v17 : Int32) (μ18 : zMem) => zlet (fun (x2_19 : Int32) (μ20 : zMem) => f9_twoDays_L132 K zF x2_19 (0 : Int32) μ20) (fun j69 => if v17 = (-1 : Int32) then j69 (zi s.1) μ18 else zin (v17 / (100 : Int32)) 10 (zin (0 : Int32) 4 (if (μ18 (36 + (v17 / (100 : Int32)).toNatClampNeg) (0 : Int32).toNatClampNeg) ≤ (zi s.1) then j69 (zi s.1) μ18 else zin (0 : Int32) 2 (zlet (zset μ18 1127 (0 : Int32).toNatClampNeg (-1 : Int32)) (fun (μ77 : zMem) => zin (1 : Int32) 2 (zlet (zset μ77 1127 (1 : Int32).toNatClampNeg v17) (fun (μ79 : zMem) => zin (v17 / (100 : Int32)) 10 (zin (0 : Int32) 4 (zlet (μ79 (36 + (v17 / (100 : Int32)).toNatClampNeg) (0 : Int32).toNatClampNeg) (fun (v82 : Int32) => j69 v82 μ79)))))))))))
      = K (zi (zcand (T 2 2) (T 2 1) (wQ T W) (nS T W s)).1) m' ∧ mB (zcand (T 2 2) (T 2 1) (wQ T W) (nS T W s)) μ0 m' := by
  have hD := hT.2.2.1
  have hq := h.2.2.2.1
  obtain ⟨m2, g1, g2⟩ := m_thenN hT hW hP (MT_q hq.2.2 hT hM) (MS_q hq hT hW hS) (hq.1.2.2.2.trans h30)
  have hmb := mB_zmb h g2
  have hM2 : MT T m2 := MT_q hmb.2.2.2.1.2.2 hT hM
  have h200 := h.2.2.1
  have z04 : ∀ A, zin (0 : Int32) 4 A = A := fun A => zin_i (i := 0) (by decide) (by decide)
  have z02 : ∀ A, zin (0 : Int32) 2 A = A := fun A => zin_i (i := 0) (by decide) (by decide)
  have z12 : ∀ A, zin (1 : Int32) 2 A = A := fun A => zin_i (i := 1) (by decide) (by decide)
  have n1 : (1 : Int32).toNatClampNeg = 1 := by decide
  have n0 : (0 : Int32).toNatClampNeg = 0 := by decide
  rw [g1, bnd0_ok, zlet_e]
  unfold nS
  cases hbn : nxB T W with
  | none =>
    rw [if_pos (show oI none = -1 from rfl)]
    exact m_two132 hT hW hP hM hS h30 hmb K
  | some e =>
    have hbe : cok T e ∧ e < 1000 := by
      unfold nxB at hbn
      by_cases h29 : W 0 0 < 29
      · rw [if_pos h29] at hbn; exact bN_ok hT hbn
      · rw [if_neg h29] at hbn; exact (nomatch hbn)
    have ke := tb_8 hT (e / 100)
    have hee := hbe.1.1
    have e36 : ∀ mm, MT T mm → mm (36 + (zi (e / 100)).toNatClampNeg) 0 = zi (T 8 (e / 100)) := fun mm hmm => by rw [zi_cl (by omega)]; exact (hmm.2.2.2.2 _ hee).1
    have ediv : oI (some e) / (100 : Int32) = zi (e / 100) := zi_div (a := e) (b := 100) (by omega) (by decide)
    have hze : ∀ A, zin (zi (e / 100)) 10 A = A := fun A => zin_i (by omega) (by omega)
    rw [if_neg (show ¬ oI (some e) = -1 from by show ¬ zi e = -1; rw [zneg1, zi_nN1 (by omega)]; exact id), ediv, hze, z04, n0, n1, e36 _ hM2]
    by_cases hlt : s.1 < T 8 (e / 100)
    · rw [if_neg (show ¬ zi (T 8 (e / 100)) ≤ zi s.1 from by rw [zi_le (by omega) (by omega)]; omega), z02, zlet_e, z12, zlet_e, hze, z04]
      have hM3 : MT T (zset (zset m2 1127 0 (-1 : Int32)) 1127 1 (oI (some e))) := MT_q (zmq_1127.trans zmq_1127).2.2 hT hM2
      rw [e36 _ hM3, zlet_e]
      have hmb3 : mB (T 8 (e / 100), zN1, zi e) μ0 (zset (zset m2 1127 0 (-1 : Int32)) 1127 1 (oI (some e))) := ⟨by rw [zset_nj (by decide), zset_eq]; exact zneg1, zset_eq, by show T 8 (e / 100) ≤ 200; omega, hmb.2.2.2.1.trans (zmq_1127.trans zmq_1127), by rw [zset_nk (by decide), zset_nk (by decide)]; exact hmb.2.2.2.2⟩
      simp only [if_pos hlt]
      exact m_two132 hT hW hP hM hS h30 hmb3 K
    · rw [if_pos (show zi (T 8 (e / 100)) ≤ zi s.1 from by rw [zi_le (by omega) (by omega)]; omega)]
      simp only [if_neg hlt]
      exact m_two132 hT hW hP hM hS h30 hmb K
theorem P_twoDays {x : Int32} {μX μM : zMem} (h : zInv μX μM) : zPm cI (f8_twoDays x μX) (f9_twoDays x μM) := by
  have h' := h
  obtain ⟨T, W, r, R, n, m, WI, rI, RI, ⟨hT, hW, hL, hX, hM, hS, hS', h30, hB, hR, hR'⟩, ht, hf, hi⟩ := h
  have hM0 := MT_0 (v := zi 0) hT hM
  have hS0 := MS_0 (v := zi 0) hT hW hS'
  have hD := hT.2.2.1
  have e00 : zset μM 0 0 (zi 0) 0 0 = zi 0 := zset_00
  have h30' : zset μM 0 0 (zi 0) 0 30 = zN1 := by rw [zset_nj (by decide)]; exact h30
  rcases zcase x 3 (by omega) with ⟨w, hw, rfl⟩ | hx
  · obtain ⟨mx, a1, a2, a3⟩ := x_twoDays hT hW hL.2.2.1 hX hS
    obtain ⟨bn1, bn2⟩ := m_bestNow hT hW hL.2.2.1 hM0 hS0
    have hm0 : mB (pB T W) (zset μM 0 0 (zi 0)) (zset (zset (zset μM 0 0 (zi 0)) 1127 0 (oI (bN T W))) 1127 1 (-1 : Int32)) := by
      refine ⟨?_, ?_, ?_, zmq_1127.trans zmq_1127, by rw [zset_nk (by decide), zset_nk (by decide)]; exact e00⟩
      · rw [zset_nj (by decide), zset_eq]; unfold pB; cases bN T W <;> rfl
      · rw [zset_eq]; unfold pB; cases bN T W <;> rfl
      · unfold pB
        cases bN T W with
        | none => exact Nat.zero_le _
        | some c => have := tb_8 hT (c / 100); show T 8 (c / 100) ≤ 200; omega
    have z02 : ∀ A, zin (0 : Int32) 2 A = A := fun A => zin_i (i := 0) (by decide) (by decide)
    have z12 : ∀ A, zin (1 : Int32) 2 A = A := fun A => zin_i (i := 1) (by decide) (by decide)
    have z04 : ∀ A, zin (0 : Int32) 4 A = A := fun A => zin_i (i := 0) (by decide) (by decide)
    have n1 : (1 : Int32).toNatClampNeg = 1 := by decide
    have n0 : (0 : Int32).toNatClampNeg = 0 := by decide
    let KK : Int32 → zMem → zRes := fun (x2_62 : Int32) (μ63 : zMem) => zlet (fun (s64 : Int32) => some (0, s64, μ63)) (fun j65 => if zi w = 0 then j65 x2_62 else zin (zi w - (1 : Int32)) 2 (j65 (μ63 1127 (zi w - (1 : Int32)).toNatClampNeg)))
    obtain ⟨m2, c1, c2⟩ := m_twoTail hT hW hL.2.2.1 hM0 hS0 h30' hm0 KK
    rw [← twoV_eq] at c1 c2
    have hK : KK (zi (twoV T W).1) m2 = some (0, (if w = 0 then zi (twoV T W).1 else if w = 1 then (twoV T W).2.1 else (twoV T W).2.2), m2) := by
      show zlet _ _ = _
      rw [zlet_e]
      have hw3 : w = 0 ∨ w = 1 ∨ w = 2 := by omega
      rcases hw3 with rfl | rfl | rfl
      · rw [if_pos (show zi 0 = 0 from rfl), if_pos rfl]
      · rw [if_neg (show ¬ zi 1 = 0 by decide), show zi 1 - (1 : Int32) = zi 0 by decide, zin_i (by decide) (by decide), zi_cl (by decide), c2.1]; rfl
      · rw [if_neg (show ¬ zi 2 = 0 by decide), show zi 2 - (1 : Int32) = zi 1 by decide, zin_i (by decide) (by decide), zi_cl (by decide), c2.2.1]; rfl
    refine zPm_q h' (μX' := mx) (μM' := m2) (e := 0) (v := if w = 0 then zi (twoV T W).1 else if w = 1 then (twoV T W).2.1 else (twoV T W).2.2) (w := if w = 0 then zi (twoV T W).1 else if w = 1 then (twoV T W).2.1 else (twoV T W).2.2) ?_ ?_ c2.2.2.2.2 (fun _ => rfl) (Or.inl rfl) a3 (zmq_0.trans c2.2.2.2.1)
    · unfold f8_twoDays
      simp (disch := omega) only [zlit, x_needW_ok, bnd_ok, a1, bnd0_ok, x_answer6 a2 hw]
    · have hin : f9_in (zi w) (0 : Int32) (2 : Int32) (zset μM 0 0 (zi 0)) = some (0, zi 1, zset μM 0 0 (zi 0)) := m_inn_o (n := 2) (by decide) (by omega)
      have hbad : f9_bad (0 : Int32) (1 : Int32) (zset μM 0 0 (zi 0)) = some (0, zi 0, zset μM 0 0 (zi 0)) := m_bad0 e00
      unfold f9_twoDays
      rw [zlet_e]
      show bnd0 (f9_in (zi w) (0 : Int32) (2 : Int32) (zset μM 0 0 (zi 0))) _ = _
      rw [hin, bnd0_ok, zlet_e, if_neg (show ¬ zi 1 = 0 by decide)]
      show bnd0 (f9_bad (0 : Int32) (1 : Int32) (zset μM 0 0 (zi 0))) _ = _
      rw [hbad, bnd0_ok, if_pos (show zi 0 = 0 from rfl), bn1, bnd0_ok, z02, zlet_e, z12, zlet_e, z02, zlet_e, n0, n1]
      have e1127 : zset (zset (zset μM 0 0 (zi 0)) 1127 0 (oI (bN T W))) 1127 1 (-1 : Int32) 1127 0 = oI (bN T W) := by rw [zset_nj (by decide), zset_eq]
      rw [e1127]
      refine Eq.trans ?_ (c1.trans hK)
      cases hbn : bN T W with
      | none =>
        have ep : pB T W = (0, zN1, zN1) := by unfold pB; rw [hbn]
        rw [if_pos (show oI none = -1 from rfl), ep]; rfl
      | some e =>
        have ep : pB T W = (T 8 (e / 100), zi e, zN1) := by unfold pB; rw [hbn]
        have hbe := bN_ok hT hbn
        have hee := hbe.1.1
        have ediv : oI (some e) / (100 : Int32) = zi (e / 100) := zi_div (a := e) (b := 100) (by omega) (by decide)
        have hze : ∀ A, zin (zi (e / 100)) 10 A = A := fun A => zin_i (by omega) (by omega)
        have e36 : zset (zset (zset μM 0 0 (zi 0)) 1127 0 (oI (some e))) 1127 1 (-1 : Int32) (36 + (zi (e / 100)).toNatClampNeg) 0 = zi (T 8 (e / 100)) := by
          rw [zi_cl (by omega), zset_nk (by omega), zset_nk (by omega)]; exact (hM0.2.2.2.2 _ hee).1
        rw [if_neg (show ¬ oI (some e) = -1 from by show ¬ zi e = -1; rw [zneg1, zi_nN1 (by omega)]; exact id), z02, ediv, hze, z04, e36, ep]; rfl
  · refine zPm_q h' (μX' := μX) (μM' := zset (zset μM 0 0 (zi 0)) 0 0 (zi 1)) (e := 1) (v := zi 0) (w := zi 0) ?_ ?_ zset_00 (fun h => absurd h (by decide)) (Or.inr (by decide)) zfr.refl zmq_00
    · unfold f8_twoDays; simp (disch := omega) only [zlit, x_needW_no (show 2 < 1000 by decide) hx, bnd_ex (e := 0)]
    · have hin : f9_in x (0 : Int32) (2 : Int32) (zset μM 0 0 (zi 0)) = some (0, zi 0, zset μM 0 0 (zi 0)) := m_inn_c (n := 2) (by decide) hx
      have hbad : f9_bad (1 : Int32) (1 : Int32) (zset μM 0 0 (zi 0)) = some (0, zi 1, zset (zset μM 0 0 (zi 0)) 0 0 (zi 1)) := m_bad1 (c := 1) e00 (by decide) (by decide)
      unfold f9_twoDays
      rw [zlet_e]
      show bnd0 (f9_in x (0 : Int32) (2 : Int32) (zset μM 0 0 (zi 0))) _ = _
      rw [hin, bnd0_ok, zlet_e, if_pos (show zi 0 = 0 from rfl)]
      show bnd0 (f9_bad (1 : Int32) (1 : Int32) (zset μM 0 0 (zi 0))) _ = _
      rw [hbad, bnd0_ok, if_neg (show ¬ zi 1 = 0 by decide)]; rfl
