/-! THE PURE SIDE, 69: FEW in the class, whole -/
/-- how many of the first n PERSONS are among bits -/
def cb (bits n : Nat) : Nat := nsum (fun p => b01 (bits.testBit p)) n
theorem cb_s {bits n : Nat} : cb bits (n + 1) = cb bits n + b01 (bits.testBit n) := rfl
theorem cb_mono {bits n : Nat} : ∀ k, cb bits n ≤ cb bits (n + k) := nsum_len
theorem cb_lt {bits p n : Nat} (h : p < n) (hb : bits.testBit p = true) : cb bits p < cb bits n := by
  have h1 := cb_mono (bits := bits) (n := p + 1) (n - (p + 1))
  rw [show p + 1 + (n - (p + 1)) = n by omega, cb_s, hb] at h1
  have : b01 true = 1 := rfl
  omega
theorem cb_inj {bits p p' : Nat} (hb : bits.testBit p = true) (hb' : bits.testBit p' = true) (h : cb bits p = cb bits p') : p = p' := by
  rcases Nat.lt_trichotomy p p' with c | c | c
  · have := cb_lt c hb; omega
  · exact c
  · have := cb_lt c hb'; omega
theorem cb_ex {bits : Nat} : ∀ n c, c < cb bits n → ∃ p, p < n ∧ bits.testBit p = true ∧ cb bits p = c
  | 0, c, h => absurd h (Nat.not_lt_zero _)
  | n + 1, c, h => by
    by_cases e : c < cb bits n
    · obtain ⟨p, h1, h2⟩ := cb_ex n c e
      exact ⟨p, by omega, h2⟩
    · rw [cb_s] at h
      cases hb : bits.testBit n
      · rw [hb] at h
        have : b01 false = 0 := rfl
        omega
      · rw [hb] at h
        have : b01 true = 1 := rfl
        exact ⟨n, by omega, hb, by omega⟩
/-- FEW's PERSONS, the greatest first -/
noncomputable def fM9 (bits P i : Nat) : Nat := Classical.epsilon (fun p => p < P ∧ bits.testBit p = true ∧ cb bits p + i + 1 = cb bits P)
theorem fM9_sp {bits P i : Nat} (h : i < cb bits P) : fM9 bits P i < P ∧ bits.testBit (fM9 bits P i) = true ∧ cb bits (fM9 bits P i) + i + 1 = cb bits P := by
  have hex : ∃ p, p < P ∧ bits.testBit p = true ∧ cb bits p + i + 1 = cb bits P := by
    obtain ⟨p, h1, h2, h3⟩ := cb_ex (bits := bits) P (cb bits P - 1 - i) (by omega)
    exact ⟨p, h1, h2, by omega⟩
  exact Classical.epsilon_spec hex
theorem fM9_eq {bits P i p : Nat} (h1 : p < P) (h2 : bits.testBit p = true) (h3 : cb bits p + i + 1 = cb bits P) : fM9 bits P i = p := by
  have := fM9_sp (bits := bits) (P := P) (i := i) (by omega)
  exact cb_inj this.2.1 h2 (by omega)
theorem fM9_inj {bits P i j : Nat} (hi : i < cb bits P) (hj : j < cb bits P) (h : fM9 bits P i = fM9 bits P j) : i = j := by
  have h1 := fM9_sp hi
  have h2 := fM9_sp hj
  rw [h] at h1
  omega
theorem x_gather27 {T W : zN2} {bits : Nat} {μ : zMem} (hT : TB T) (hW : WB T W) (hP : W 0 3 = T 2 1) (hS : XS T W 23 μ) (hbits : bits < 256) (hc : cb bits (T 2 1) ≤ 4) (h7 : μ 69 7 = zi 0) (K : zMem → zRes) :
    ∃ μ', f1_gather_L27 (zi bits) K zF (dn (T 2 1) 0) μ = K μ' ∧ μ' 69 7 = zi (cb bits (T 2 1)) ∧ (∀ k, k < cb bits (T 2 1) → μ' 70 k = zi (fM9 bits (T 2 1) k) ∧ μ' 71 k = zi (W 2 (fM9 bits (T 2 1) k))) ∧ (∀ j, j ≠ 7 → μ' 69 j = μ 69 j) ∧ zfr (fun k => 69 ≤ k ∧ k ≤ 71) μ μ' := by
  have hPP := hT.2.1
  obtain ⟨μ', e1, e2, e3, e4, e5⟩ := zloopE (L := fun n i (x : zMem) => f1_gather_L27 (zi bits) K n (dn (T 2 1) i) x) (N := T 2 1) (o := fun x => K x)
    (fun i x => x 69 7 = zi (cb bits (T 2 1) - cb bits (T 2 1 - i)) ∧ (∀ k, k < cb bits (T 2 1) - cb bits (T 2 1 - i) → x 70 k = zi (fM9 bits (T 2 1) k) ∧ x 71 k = zi (W 2 (fM9 bits (T 2 1) k))) ∧ (∀ j, j ≠ 7 → x 69 j = μ 69 j) ∧ zfr (fun k => 69 ≤ k ∧ k ≤ 71) μ x)
    (fun n x _ => by
      show f1_gather_L27 (zi bits) K (n + 1) (dn (T 2 1) (T 2 1)) x = _
      rw [show dn (T 2 1) (T 2 1) = zN1 from if_neg (Nat.lt_irrefl _), f1_gather_L27, if_pos (show zN1 < (0 : Int32) from by decide)])
    (fun n i x hi hx => by
      obtain ⟨x1, x2, x3, x4⟩ := hx
      have ed' : dn (T 2 1) i = zi (T 2 1 - 1 - i) := if_pos hi
      have hb : (zshr (zi bits) (zi (T 2 1 - 1 - i)) &&& (1 : Int32) = 0) = (bits.testBit (T 2 1 - 1 - i) = false) := zbit0 (by omega) (by omega)
      have hn0 : ¬ zi (T 2 1 - 1 - i) < (0 : Int32) := by rw [show (0 : Int32) = zi 0 from rfl, zi_lt (by omega) (by omega)]; omega
      have ecb : cb bits (T 2 1 - i) = cb bits (T 2 1 - (i + 1)) + b01 (bits.testBit (T 2 1 - 1 - i)) := by
        rw [show T 2 1 - i = (T 2 1 - (i + 1)) + 1 by omega, cb_s, show T 2 1 - (i + 1) = T 2 1 - 1 - i by omega]
      have hmo := cb_mono (bits := bits) (n := T 2 1 - i) i
      rw [show T 2 1 - i + i = T 2 1 by omega] at hmo
      by_cases c : bits.testBit (T 2 1 - 1 - i) = true
      · rw [c, show b01 true = 1 from rfl] at ecb
        have hc' : cb bits (T 2 1) - cb bits (T 2 1 - i) < 4 := by omega
        have ef : fM9 bits (T 2 1) (cb bits (T 2 1) - cb bits (T 2 1 - i)) = T 2 1 - 1 - i := fM9_eq (by omega) c (by rw [show T 2 1 - 1 - i = T 2 1 - (i + 1) by omega]; omega)
        refine ⟨zset (zset (zset x 70 (cb bits (T 2 1) - cb bits (T 2 1 - i)) (zi (T 2 1 - 1 - i))) 71 (cb bits (T 2 1) - cb bits (T 2 1 - i)) (zi (W 2 (T 2 1 - 1 - i)))) 69 7 (zi (cb bits (T 2 1) - cb bits (T 2 1 - (i + 1)))), ?_, zset_eq, fun k hk => ?_, fun j hj => ?_, ?_⟩
        · show f1_gather_L27 (zi bits) K (n + 1) (dn (T 2 1) i) x = _
          rw [← dn_step hi, ed', f1_gather_L27, if_neg hn0, zlet_e, if_neg (by rw [hb, c]; decide), x1, if_neg (show ¬ (4 : Int32) ≤ zi (cb bits (T 2 1) - cb bits (T 2 1 - i)) from by rw [show (4 : Int32) = zi 4 from rfl, zi_le (by omega) (by omega)]; omega), zin_i hc' (by omega), zlet_e, zi_cl (by omega), zin_i (show T 2 1 - 1 - i < 9 by omega) (by omega)]
          rw [show zset x 70 (cb bits (T 2 1) - cb bits (T 2 1 - i)) (zi (T 2 1 - 1 - i)) 69 7 = zi (cb bits (T 2 1) - cb bits (T 2 1 - i)) from by rw [zset_nk (by decide)]; exact x1, zin_i hc' (by omega), zlet_e, zlet_e, zi_cl (by omega), zi_cl (by omega)]
          rw [show zset x 70 (cb bits (T 2 1) - cb bits (T 2 1 - i)) (zi (T 2 1 - 1 - i)) 26 (T 2 1 - 1 - i) = zi (W 2 (T 2 1 - 1 - i)) from by rw [zset_nk (by decide), x4 26 (by decide)]; exact (hS.2 _ (by omega)).2.1]
          rw [zset_nk (by decide), zset_nk (by decide), x1, show zi (cb bits (T 2 1) - cb bits (T 2 1 - i)) + (1 : Int32) = zi (cb bits (T 2 1) - cb bits (T 2 1 - (i + 1))) from by rw [show (1 : Int32) = zi 1 from rfl, zi_add]; congr 1; omega]
        · constructor
          · rw [zset_nk (by decide), zset_nk (by decide)]
            by_cases ek : k = cb bits (T 2 1) - cb bits (T 2 1 - i)
            · rw [ek, zset_eq, ef]
            · rw [zset_nj ek]; exact (x2 k (by omega)).1
          · rw [zset_nk (by decide)]
            by_cases ek : k = cb bits (T 2 1) - cb bits (T 2 1 - i)
            · rw [ek, zset_eq, ef]
            · rw [zset_nj ek, zset_nk (by decide)]; exact (x2 k (by omega)).2
        · rw [zset_nj hj, zset_nk (by decide), zset_nk (by decide)]; exact x3 j hj
        · exact ((x4.set (show 69 ≤ 70 ∧ 70 ≤ 71 by decide)).set (show 69 ≤ 71 ∧ 71 ≤ 71 by decide)).set (show 69 ≤ 69 ∧ 69 ≤ 71 by decide)
      · rw [(Bool.not_eq_true _).mp c, show b01 false = 0 from rfl] at ecb
        have e : cb bits (T 2 1) - cb bits (T 2 1 - (i + 1)) = cb bits (T 2 1) - cb bits (T 2 1 - i) := by omega
        refine ⟨x, ?_, by rw [e]; exact x1, by rw [e]; exact x2, x3, x4⟩
        show f1_gather_L27 (zi bits) K (n + 1) (dn (T 2 1) i) x = _
        rw [← dn_step hi, ed', f1_gather_L27, if_neg hn0, zlet_e, if_pos (by rw [hb]; exact (Bool.not_eq_true _).mp c)])
    (T 2 1) 0 μ zF (by omega) (by unfold zF; omega) ⟨by rw [Nat.sub_zero, Nat.sub_self]; exact h7, fun k hk => absurd hk (by rw [Nat.sub_zero, Nat.sub_self]; omega), fun _ _ => rfl, fun _ _ => rfl⟩
  rw [Nat.sub_self] at e2 e3
  exact ⟨μ', e1, e2, e3, e4, e5⟩
theorem x_gather100 {T W : zN2} {pm : Nat → Nat} {m q : Nat} {μ : zMem} (hT : TB T) (hW : WB T W) (hS : XS T W 23 μ) (hm : m ≤ 4) (hpm : ∀ i, i < m → pm i < W 0 3) (hq : q < T 2 0) (h69 : ∀ i, i < m → μ 70 i = zi (pm i)) (K : Int32 → zMem → zRes) :
    f1_gather_L100 (zi q) K zF (zi 0) (dn m 0) μ = K (zi (val9 (fun i => W (4 + pm i) q) m)) μ := by
  obtain ⟨e1, -⟩ := zloopF (L := fun n i (v : Nat) => f1_gather_L100 (zi q) K n (zi v) (dn m i) μ) (N := m) (F := fun i v => 9 * v + W (4 + pm (m - 1 - i)) q) (o := fun v => K (zi v) μ) (fun _ _ => True)
    (fun n v _ => by
      show f1_gather_L100 (zi q) K (n + 1) (zi v) (dn m m) μ = _
      rw [show dn m m = zN1 from if_neg (Nat.lt_irrefl _), f1_gather_L100, if_pos (show zN1 < (0 : Int32) from by decide)])
    (fun n i v hi _ => by
      refine ⟨?_, trivial⟩
      have ed' : dn m i = zi (m - 1 - i) := if_pos hi
      show f1_gather_L100 (zi q) K (n + 1) (zi v) (dn m i) μ = _
      rw [← dn_step hi, ed', f1_gather_L100, if_neg (show ¬ zi (m - 1 - i) < (0 : Int32) from by rw [show (0 : Int32) = zi 0 from rfl, zi_lt (by omega) (by omega)]; omega), zin_i (by omega) (by omega), zi_cl (by omega), h69 _ (by omega), x_thought hT hW hS (hpm _ (by omega)) hq, bnd0_ok, zlet_e, show (9 : Int32) = zi 9 from rfl, zi_mul, zi_add, Nat.mul_comm v 9])
    m 0 0 zF (by omega) (by unfold zF; omega) trivial
  have hh := horner (t := fun i => W (4 + pm i) q) (m := m) m (Nat.le_refl _)
  rw [Nat.sub_self, Nat.pow_zero, Nat.mul_one] at hh
  rw [← hh]
  exact e1
/-- FEW's start -/
noncomputable def st9 (T W : zN2) (bits q : Nat) : Nat := val9 (fun i => W (4 + fM9 bits (T 2 1) i) q) (cb bits (T 2 1))
theorem x_fewT {T W : zN2} {bits q w : Nat} {μ : zMem} (hT : TB T) (hW : WB T W) (hP : W 0 3 = T 2 1) (hX : XT T μ) (hS : XS T W 23 μ) (hbits : bits < 256) (hc : cb bits (T 2 1) ≤ 4) (hq : q < T 2 0) (hw : w < 2) :
    ∃ x μ', fewT (zi bits) (zi q) (zi w) μ = some (0, x, μ') ∧ (w = 0 → moC (fE T W (fM9 bits (T 2 1)) (cb bits (T 2 1))) (st9 T W bits q) x) ∧ (w ≠ 0 → soC (fE T W (fM9 bits (T 2 1)) (cb bits (T 2 1))) (st9 T W bits q) x) ∧ zfr (fun k => 69 ≤ k) μ μ' := by
  have hPP := hT.2.1
  have hW' : WB T W := hW
  have hst : st9 T W bits q < 9 ^ cb bits (T 2 1) := val9_lt _ (fun i _ => wb_th hW _ _)
  have hpm : ∀ i, i < cb bits (T 2 1) → fM9 bits (T 2 1) i < W 0 3 := fun i hi => by rw [hP]; exact (fM9_sp hi).1
  have hpm8 : ∀ i, i < cb bits (T 2 1) → fM9 bits (T 2 1) i < 8 := fun i hi => by have := (fM9_sp hi).1; omega
  have f0 : zfr (fun k => 69 ≤ k) μ (zset (zset μ 69 7 (zi 0)) 69 8 (zi (W 0 2))) := (zfr.refl.set (show 69 ≤ 69 by decide)).set (show 69 ≤ 69 by decide)
  have hX0 : XT T (zset (zset μ 69 7 (zi 0)) 69 8 (zi (W 0 2))) := XT_of (fun key hk => f0 key (by omega)) hX
  have hS0 : XS T W 23 (zset (zset μ 69 7 (zi 0)) 69 8 (zi (W 0 2))) := XS_of (fun key h1 h2 => f0 key (by omega)) hS
  obtain ⟨μ1, a1, a2, a3, a4, a5⟩ := x_gather27 hT hW hP hS0 hbits hc (by rw [zset_nj (by decide), zset_eq]) (fun (μ18 : zMem) => zlet ((μ18 69 7) - (1 : Int32)) (fun (v19 : Int32) => f1_gather_L100 (zi q) (fun (x4_26 : Int32) (μ27 : zMem) => bnd0 (f1_findAll x4_26 μ27) (fun (v28 : Int32) (μ29 : zMem) => some (0, 0, μ29))) zF (0 : Int32) v19 μ18))
  have f1 : zfr (fun k => 69 ≤ k) μ μ1 := f0.trans (a5.mono (fun k hk => hk.1))
  have hX1 : XT T μ1 := XT_of (fun key hk => f1 key (by omega)) hX
  have hS1 : XS T W 23 μ1 := XS_of (fun key h1 h2 => f1 key (by omega)) hS
  have hF1 : xF W (fM9 bits (T 2 1)) (cb bits (T 2 1)) μ1 := ⟨a2, by rw [a4 8 (by decide), zset_eq], a3⟩
  have b1 := x_gather100 hT hW hS1 hc hpm hq (fun i hi => (a3 i hi).1) (fun (x4_26 : Int32) (μ27 : zMem) => bnd0 (f1_findAll x4_26 μ27) (fun (v28 : Int32) (μ29 : zMem) => some (0, 0, μ29)))
  obtain ⟨μ2, n, Q, rc, wi, c1, c2, c3, c4, c5, c6, c7⟩ := x_findAll hT hW hX1 hc hpm8 hF1 hst
  have f2 : zfr (fun k => 69 ≤ k) μ μ2 := fun k hk => by rw [c6.1 k (by omega) (by omega)]; exact f1 k hk
  have eg : f1_gather (zi bits) (zi q) μ = some (0, 0, μ2) := by
    unfold f1_gather
    rw [zlet_e, zlet_e]
    rw [show zset μ 69 7 (0 : Int32) 23 3 = zi (W 0 2) from by rw [zset_nk (by decide)]; exact hS.1.2.2.1, zlet_e, zset_nk (by decide), zset_nk (by decide), hX.1.2.1]
    rw [show zi (T 2 1) - (1 : Int32) = dn (T 2 1) 0 from by
      unfold dn
      by_cases c : 0 < T 2 1
      · rw [if_pos c]; exact zi_sub (b := 1) c
      · rw [if_neg c, show T 2 1 = 0 by omega]; rfl]
    refine a1.trans ?_
    show zlet _ _ = _
    rw [zlet_e, a2]
    rw [show zi (cb bits (T 2 1)) - (1 : Int32) = dn (cb bits (T 2 1)) 0 from by
      unfold dn
      by_cases c : 0 < cb bits (T 2 1)
      · rw [if_pos c]; exact zi_sub (b := 1) c
      · rw [if_neg c, show cb bits (T 2 1) = 0 by omega]; rfl]
    refine b1.trans ?_
    show bnd0 (f1_findAll (zi (st9 T W bits q)) μ1) _ = _
    rw [c1, bnd0_ok]
  have hF2 := gfr_xF c6 hF1
  unfold fewT
  rw [eg, bnd0_ok, zlet_e]
  by_cases h0 : w = 0
  · rw [if_pos (show zi w = (0 : Int32) from by rw [h0]; rfl)]
    obtain ⟨x, μ3, d1, d2, d3⟩ := x_mostWorks hT hW (gfr_XT c6 hX1) hc hpm8 hF2 hst c2 c3 c4 c5
    refine ⟨x, μ3, ?_, fun _ => d2, fun q => absurd h0 q, fun k hk => by rw [d3.1 k (by omega) (by omega)]; exact f2 k hk⟩
    rw [d1]; rfl
  · rw [if_neg (show ¬ zi w = (0 : Int32) from by rw [show (0 : Int32) = zi 0 from rfl, zi_eq (by omega) (by omega)]; exact h0)]
    exact ⟨μ2 69 10, μ2, rfl, fun q => absurd q h0, fun _ => c7, f2⟩
