/-! THE PURE SIDE, 92: a TOWN is taken over -/
/-- a row is copied -/
theorem cpyL {L : Nat → Int32 → zMem → zRes} {K : zMem → zRes} {N d s : Nat} (μ : zMem) (hN : N < 1000) (hds : s ≠ d) (hend : ∀ n x, L (n + 1) (zi N) x = K x) (hstep : ∀ n i x, i < N → L (n + 1) (zi i) x = L n (zi (i + 1)) (zset x d i (x s i))) :
    ∃ μ', L zF (zi 0) μ = K μ' ∧ (∀ j, j < N → μ' d j = μ s j) ∧ (∀ j, N ≤ j → μ' d j = μ d j) ∧ zfr (fun k => k = d) μ μ' := by
  obtain ⟨μ', e1, e2, e3, e4⟩ := zloopE (L := fun n i (x : zMem) => L n (zi i) x) (N := N) (o := fun x => K x)
    (fun i x => (∀ q, q < i → x d q = μ s q) ∧ (∀ q, N ≤ q → x d q = μ d q) ∧ zfr (fun k => k = d) μ x)
    (fun n x hx => hend n x)
    (fun n i x hi hx => by
      obtain ⟨x1, x2, x3⟩ := hx
      refine ⟨zset x d i (μ s i), ?_, fun q hq => ?_, fun q hq => ?_, x3.set rfl⟩
      · show L (n + 1) (zi i) x = _
        rw [hstep n i x hi, x3 s hds]
      · by_cases e : q = i
        · rw [e, zset_eq]
        · rw [zset_nj e]; exact x1 q (by omega)
      · rw [zset_nj (by omega)]; exact x2 q hq)
    N 0 μ zF (by omega) (by unfold zF; omega) ⟨fun q hq => absurd hq (by omega), fun _ _ => rfl, fun _ _ => rfl⟩
  exact ⟨μ', e1, e2, e3, e4⟩
/-- rows are copied -/
theorem cpyM {L : Nat → Int32 → zMem → zRes} {K : zMem → zRes} {P N d s : Nat} (μ : zMem) (hP : P < 1000) (hds : ∀ i k, i < P → k < P → s + i ≠ d + k) (hend : ∀ n x, L (n + 1) (zi P) x = K x)
    (hstep : ∀ n i x, i < P → ∃ x', L (n + 1) (zi i) x = L n (zi (i + 1)) x' ∧ (∀ j, j < N → x' (d + i) j = x (s + i) j) ∧ zfr (fun k => k = d + i) x x') :
    ∃ μ', L zF (zi 0) μ = K μ' ∧ (∀ i, i < P → ∀ j, j < N → μ' (d + i) j = μ (s + i) j) ∧ zfr (fun k => d ≤ k ∧ k < d + P) μ μ' := by
  obtain ⟨μ', e1, e2, e4⟩ := zloopE (L := fun n i (x : zMem) => L n (zi i) x) (N := P) (o := fun x => K x)
    (fun i x => (∀ q, q < i → ∀ j, j < N → x (d + q) j = μ (s + q) j) ∧ zfr (fun k => d ≤ k ∧ k < d + P) μ x)
    (fun n x hx => hend n x)
    (fun n i x hi hx => by
      obtain ⟨x1, x3⟩ := hx
      obtain ⟨x', y1, y2, y3⟩ := hstep n i x hi
      refine ⟨x', y1, fun q hq j hj => ?_, fun k hk => ?_⟩
      · by_cases e : q = i
        · rw [e, y2 j hj, x3 (s + i) (fun h => hds i (s + i - d) hi (by omega) (by omega))]
        · rw [y3 (d + q) (by omega)]; exact x1 q (by omega) j hj
      · rw [y3 k (by omega)]; exact x3 k hk)
    P 0 μ zF (by omega) (by unfold zF; omega) ⟨fun q hq => absurd hq (by omega), fun _ _ => rfl⟩
  exact ⟨μ', e1, e2, e4⟩
theorem zle_c {a b : Nat} {x : Int32} (hx : x = zi a) (ha : a < 1000) (hb : b < a) : ¬ x ≤ zi b := by rw [hx, zi_le (by omega) (by omega)]; omega
theorem c_119 (μ : zMem) (K : zMem → zRes) : ∃ μ', f9_town_L119 K zF (0 : Int32) μ = K μ' ∧ (∀ j, j < 6 → μ' 4 j = μ 3 j) ∧ zfr (fun k => k = 4) μ μ' := by
  obtain ⟨μ', e1, e2, -, e3⟩ := cpyL (L := f9_town_L119 K) (K := K) (N := 6) (d := 4) (s := 3) μ (by decide) (by decide)
    (fun n x => by rw [f9_town_L119, if_pos (show (6 : Int32) ≤ zi 6 from Int32.le_refl _)])
    (fun n i x hi => by rw [f9_town_L119, if_neg (zle_c (a := 6) (x := (6 : Int32)) rfl (by decide) hi), zin_i (by omega) (by omega), zin_i (by omega) (by omega), zlet_e, zi_cl (by omega), show zi i + (1 : Int32) = zi (i + 1) from zi_add i 1])
  exact ⟨μ', e1, e2, e3⟩
theorem c_189 (μ : zMem) (K : zMem → zRes) : ∃ μ', f9_town_L189 K zF (0 : Int32) μ = K μ' ∧ (∀ j, j < 8 → μ' 49 j = μ 48 j) ∧ (∀ j, 8 ≤ j → μ' 49 j = μ 49 j) ∧ zfr (fun k => k = 49) μ μ' := by
  obtain ⟨μ', e1, e2, e4, e3⟩ := cpyL (L := f9_town_L189 K) (K := K) (N := 8) (d := 49) (s := 48) μ (by decide) (by decide)
    (fun n x => by rw [f9_town_L189, if_pos (show (8 : Int32) ≤ zi 8 from Int32.le_refl _)])
    (fun n i x hi => by rw [f9_town_L189, if_neg (zle_c (a := 8) (x := (8 : Int32)) rfl (by decide) hi), zin_i (by omega) (by omega), zin_i (by omega) (by omega), zlet_e, zi_cl (by omega), show zi i + (1 : Int32) = zi (i + 1) from zi_add i 1])
  exact ⟨μ', e1, e2, e4, e3⟩
theorem c_258 (μ : zMem) (K : zMem → zRes) : ∃ μ', f9_town_L258 K zF (0 : Int32) μ = K μ' ∧ (∀ j, j < 7 → μ' 47 j = μ 46 j) ∧ zfr (fun k => k = 47) μ μ' := by
  obtain ⟨μ', e1, e2, -, e3⟩ := cpyL (L := f9_town_L258 K) (K := K) (N := 7) (d := 47) (s := 46) μ (by decide) (by decide)
    (fun n x => by rw [f9_town_L258, if_pos (show (7 : Int32) ≤ zi 7 from Int32.le_refl _)])
    (fun n i x hi => by rw [f9_town_L258, if_neg (zle_c (a := 7) (x := (7 : Int32)) rfl (by decide) hi), zin_i (by omega) (by omega), zin_i (by omega) (by omega), zlet_e, zi_cl (by omega), show zi i + (1 : Int32) = zi (i + 1) from zi_add i 1])
  exact ⟨μ', e1, e2, e3⟩
theorem c_145 (μ : zMem) (K : zMem → zRes) : ∃ μ', f9_town_L145 K zF (0 : Int32) μ = K μ' ∧ (∀ i, i < 8 → ∀ j, j < 6 → μ' (15 + i) j = μ (6 + i) j) ∧ zfr (fun k => 15 ≤ k ∧ k < 15 + 8) μ μ' := by
  refine cpyM (L := f9_town_L145 K) (K := K) (P := 8) (N := 6) (d := 15) (s := 6) μ (by decide) (by omega)
    (fun n x => by rw [f9_town_L145, if_pos (show (8 : Int32) ≤ zi 8 from Int32.le_refl _)]) (fun n i x hi => ?_)
  obtain ⟨x', e1, e2, -, e3⟩ := cpyL (L := f9_town_L153 (zi i) (fun (μ37 : zMem) => f9_town_L145 K n (zi i + (1 : Int32)) μ37)) (K := fun (μ37 : zMem) => f9_town_L145 K n (zi i + (1 : Int32)) μ37) (N := 6) (d := 15 + i) (s := 6 + i) x (by decide) (by omega)
    (fun n x => by rw [f9_town_L153, if_pos (show (6 : Int32) ≤ zi 6 from Int32.le_refl _)])
    (fun n j x hj => by rw [f9_town_L153, if_neg (zle_c (a := 6) (x := (6 : Int32)) rfl (by decide) hj), zin_i (by omega) (by omega), zin_i (by omega) (by omega), zin_i (by omega) (by omega), zin_i (by omega) (by omega), zlet_e, zi_cl (n := i) (by omega), zi_cl (n := j) (by omega), show zi j + (1 : Int32) = zi (j + 1) from zi_add j 1])
  refine ⟨x', ?_, e2, e3⟩
  rw [f9_town_L145, if_neg (zle_c (a := 8) (x := (8 : Int32)) rfl (by decide) hi)]
  refine e1.trans ?_
  show f9_town_L145 K n (zi i + (1 : Int32)) x' = _
  rw [show zi i + (1 : Int32) = zi (i + 1) from zi_add i 1]
theorem c_215 (μ : zMem) (K : zMem → zRes) : ∃ μ', f9_town_L215 K zF (0 : Int32) μ = K μ' ∧ (∀ i, i < 10 → ∀ j, j < 4 → μ' (36 + i) j = μ (25 + i) j) ∧ zfr (fun k => 36 ≤ k ∧ k < 36 + 10) μ μ' := by
  refine cpyM (L := f9_town_L215 K) (K := K) (P := 10) (N := 4) (d := 36) (s := 25) μ (by decide) (by omega)
    (fun n x => by rw [f9_town_L215, if_pos (show (10 : Int32) ≤ zi 10 from Int32.le_refl _)]) (fun n i x hi => ?_)
  obtain ⟨x', e1, e2, -, e3⟩ := cpyL (L := f9_town_L223 (zi i) (fun (μ37 : zMem) => f9_town_L215 K n (zi i + (1 : Int32)) μ37)) (K := fun (μ37 : zMem) => f9_town_L215 K n (zi i + (1 : Int32)) μ37) (N := 4) (d := 36 + i) (s := 25 + i) x (by decide) (by omega)
    (fun n x => by rw [f9_town_L223, if_pos (show (4 : Int32) ≤ zi 4 from Int32.le_refl _)])
    (fun n j x hj => by rw [f9_town_L223, if_neg (zle_c (a := 4) (x := (4 : Int32)) rfl (by decide) hj), zin_i (by omega) (by omega), zin_i (by omega) (by omega), zin_i (by omega) (by omega), zin_i (by omega) (by omega), zlet_e, zi_cl (n := i) (by omega), zi_cl (n := j) (by omega), show zi j + (1 : Int32) = zi (j + 1) from zi_add j 1])
  refine ⟨x', ?_, e2, e3⟩
  rw [f9_town_L215, if_neg (zle_c (a := 10) (x := (10 : Int32)) rfl (by decide) hi)]
  refine e1.trans ?_
  show f9_town_L215 K n (zi i + (1 : Int32)) x' = _
  rw [show zi i + (1 : Int32) = zi (i + 1) from zi_add i 1]
theorem c_299 (μ : zMem) (K : zMem → zRes) : ∃ μ', f9_town_L299 K zF (0 : Int32) μ = K μ' ∧ (∀ i, i < 8 → ∀ j, j < 4 → μ' (51 + i) j = μ (15 + i) j) ∧ zfr (fun k => 51 ≤ k ∧ k < 51 + 8) μ μ' := by
  refine cpyM (L := f9_town_L299 K) (K := K) (P := 8) (N := 4) (d := 51) (s := 15) μ (by decide) (by omega)
    (fun n x => by rw [f9_town_L299, if_pos (show (8 : Int32) ≤ zi 8 from Int32.le_refl _)]) (fun n i x hi => ?_)
  obtain ⟨x', e1, e2, -, e3⟩ := cpyL (L := f9_town_L307 (zi i) (fun (μ37 : zMem) => f9_town_L299 K n (zi i + (1 : Int32)) μ37)) (K := fun (μ37 : zMem) => f9_town_L299 K n (zi i + (1 : Int32)) μ37) (N := 4) (d := 51 + i) (s := 15 + i) x (by decide) (by omega)
    (fun n x => by rw [f9_town_L307, if_pos (show (4 : Int32) ≤ zi 4 from Int32.le_refl _)])
    (fun n j x hj => by rw [f9_town_L307, if_neg (zle_c (a := 4) (x := (4 : Int32)) rfl (by decide) hj), zin_i (by omega) (by omega), zin_i (by omega) (by omega), zin_i (by omega) (by omega), zin_i (by omega) (by omega), zlet_e, zi_cl (n := i) (by omega), zi_cl (n := j) (by omega), show zi j + (1 : Int32) = zi (j + 1) from zi_add j 1])
  refine ⟨x', ?_, e2, e3⟩
  rw [f9_town_L299, if_neg (zle_c (a := 8) (x := (8 : Int32)) rfl (by decide) hi)]
  refine e1.trans ?_
  show f9_town_L299 K n (zi i + (1 : Int32)) x' = _
  rw [show zi i + (1 : Int32) = zi (i + 1) from zi_add i 1]
theorem c_342 (μ : zMem) (K : zMem → zRes) : ∃ μ', f9_town_L342 K zF (0 : Int32) μ = K μ' ∧ (∀ j, j < 10 → μ' 92 j = zi 0) ∧ zfr (fun k => k = 92) μ μ' := by
  obtain ⟨μ', e1, e2, e3⟩ := zloopE (L := fun F i (x : zMem) => f9_town_L342 K F (zi i) x) (N := 10) (o := fun x => K x)
    (fun i x => (∀ q, q < i → x 92 q = zi 0) ∧ zfr (fun k => k = 92) μ x)
    (fun F x hx => by
      show f9_town_L342 K (F + 1) (zi 10) x = _
      rw [f9_town_L342, if_pos (show (10 : Int32) ≤ zi 10 from Int32.le_refl _)])
    (fun F i x hi hx => by
      obtain ⟨x1, x2⟩ := hx
      refine ⟨zset x 92 i (zi 0), ?_, fun q hq => ?_, x2.set rfl⟩
      · show f9_town_L342 K (F + 1) (zi i) x = _
        rw [f9_town_L342, if_neg (zle_c (a := 10) (x := (10 : Int32)) rfl (by decide) hi), zin_i (by omega) (by omega), zlet_e, zi_cl (by omega), show zi i + (1 : Int32) = zi (i + 1) from zi_add i 1]
        rfl
      · by_cases e : q = i
        · rw [e, zset_eq]
        · rw [zset_nj e]; exact x1 q (by omega))
    10 0 μ zF (by omega) (by unfold zF; omega) ⟨fun q hq => absurd hq (by omega), fun _ _ => rfl⟩
  exact ⟨μ', e1, e2, e3⟩
theorem c_dawns (μ : zMem) : ∃ μ', f9_dawns μ = some (0, zi 0, μ') ∧ (∀ j, j < 9 → μ' 91 j = μ 4 4) ∧ zfr (fun k => k = 91) μ μ' := by
  unfold f9_dawns
  obtain ⟨μ', e1, e2, e3⟩ := zloopE (L := fun F i (x : zMem) => f9_dawns_L2 (fun (μ6 : zMem) => some (0, 0, μ6)) F (zi i) x) (N := 9) (o := fun x => some (0, 0, x))
    (fun i x => (∀ q, q < i → x 91 q = μ 4 4) ∧ zfr (fun k => k = 91) μ x)
    (fun F x hx => by
      show f9_dawns_L2 _ (F + 1) (zi 9) x = _
      rw [f9_dawns_L2, if_pos (show (9 : Int32) ≤ zi 9 from Int32.le_refl _)])
    (fun F i x hi hx => by
      obtain ⟨x1, x2⟩ := hx
      refine ⟨zset x 91 i (μ 4 4), ?_, fun q hq => ?_, x2.set rfl⟩
      · show f9_dawns_L2 _ (F + 1) (zi i) x = _
        rw [f9_dawns_L2, if_neg (zle_c (a := 9) (x := (9 : Int32)) rfl (by decide) hi), z64, zin_i (by omega) (by omega), zlet_e, zi_cl (by omega), tkn4, x2 4 (by decide), show zi i + (1 : Int32) = zi (i + 1) from zi_add i 1]
      · by_cases e : q = i
        · rw [e, zset_eq]
        · rw [zset_nj e]; exact x1 q (by omega))
    9 0 μ zF (by omega) (by unfold zF; omega) ⟨fun q hq => absurd hq (by omega), fun _ _ => rfl⟩
  exact ⟨μ', e1, e2, e3⟩
/-- the scene of a new TOWN -/
def tW (D : zN2) : zN2 := fun k j => if k = 0 then (if j = 1 then tS D 0 else if j = 2 then D 2 3 else if j = 3 then D 2 1 else 0) else if k = 1 then D 2 4 else if k = 2 then D 5 j else if 4 ≤ k then D (16 + k) j else 0
theorem tW_1 {D : zN2} {p : Nat} : tW D 1 p = D 2 4 := rfl
theorem tW_2 {D : zN2} {p : Nat} : tW D 2 p = D 5 p := rfl
theorem tW_4 {D : zN2} {p q : Nat} : tW D (4 + p) q = D (20 + p) q := by
  unfold tW
  rw [if_neg (by omega), if_neg (by omega), if_neg (by omega), if_pos (by omega), show 16 + (4 + p) = 20 + p from by omega]
theorem tW_WB {D : zN2} (h : DB D) : WB D (tW D) ∧ WL D (tW D) := by
  obtain ⟨⟨a1, a2, a3, a4, a5, a6, a7, a8, a9, b1, b2, b3, b4, b5, b6, b7, b8, b9, c1⟩, hq, hv, hz⟩ := h
  refine ⟨⟨show 0 ≤ 29 by decide, ?_, a4, show D 2 1 ≤ 9 by omega, show 0 < 1024 by decide, fun p => a5, fun p => a9 p, fun p q => by rw [tW_4]; exact hv p q, show 0 < 2 ^ D 2 2 from Nat.two_pow_pos _⟩, rfl, rfl, rfl, fun p _ => rfl⟩
  show tS D 0 < D 2 0 ∨ tS D 0 = 0
  unfold tS
  by_cases e : D 2 5 = 0
  · rw [if_pos e]; exact Or.inr rfl
  · rw [if_neg e]; exact c1 _
