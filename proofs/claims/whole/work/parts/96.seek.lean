/-! THE PURE SIDE, 36: the class's first two; the reference's best WORK now -/
theorem fS_some {T W : zN2} {g : Nat → Nat} {e : Nat} : ∀ m i, zit (fun b => fS T W (g b)) m i (some e) = some e
  | 0, _ => rfl
  | m + 1, i => fS_some m (i + 1)
theorem fS_some2 {T W : zN2} {d e P : Nat} : ∀ m i, zit (fun a => zit (fun b => fS T W (100 * d + 10 * a + b)) (P - (a + 1)) (a + 1)) m i (some e) = some e
  | 0, _ => rfl
  | m + 1, i => by
    show zit _ m (i + 1) (zit (fun b => fS T W (100 * d + 10 * i + b)) (P - (i + 1)) (i + 1) (some e)) = some e
    rw [fS_some (g := fun b => 100 * d + 10 * i + b)]
    exact fS_some2 m (i + 1)
theorem x_ft32 {T W : zN2} {k : Nat} {μ : zMem} (hT : TB T) (hW : WB T W) (hP : W 0 3 = T 2 1) (hX : XT T μ) (hS : XS T W k μ) {d a : Nat} (hd : d < T 2 2) (ha : a < T 2 1) (K63 : zMem → zRes) (K50 : Int32 → zMem → zRes) : ∀ m b n, b + m = T 2 1 → m < n →
    f5_firstTwo_L32 k (zi d) (zi a) K63 K50 n (zi b) μ = match zit (fun b => fS T W (100 * d + 10 * a + b)) m b none with
      | none => K63 μ
      | some c => K50 (zi (c % 10)) μ := by
  have hPP := hT.2.1
  intro m
  induction m with
  | zero =>
    intro b n h1 h2
    obtain ⟨n, rfl⟩ : ∃ k, n = k + 1 := ⟨n - 1, by omega⟩
    have hle : μ k 4 ≤ zi b := by rw [hS.1.2.2.2.1, hP, zi_le (by omega) (by omega)]; omega
    rw [f5_firstTwo_L32, if_pos hle]
    rfl
  | succ m ih =>
    intro b n h1 h2
    obtain ⟨n, rfl⟩ : ∃ k, n = k + 1 := ⟨n - 1, by omega⟩
    have hle : ¬ μ k 4 ≤ zi b := by rw [hS.1.2.2.2.1, hP, zi_le (by omega) (by omega)]; omega
    have z1 : zi b + (1 : Int32) = zi (b + 1) := zi_add b 1
    have hlt := tE_lt (T := T) (W := W) (d := d) (a := a) (b := b)
    have q1 : (100 * d + 10 * a + b) / 100 = d := by omega
    have q2 : (100 * d + 10 * a + b) / 10 % 10 = a := by omega
    have q3 : (100 * d + 10 * a + b) % 10 = b := by omega
    have hf : fS T W (100 * d + 10 * a + b) none = if tE T W d a b = 0 then some (100 * d + 10 * a + b) else none := by
      show (if _ then _ else _) = _
      rw [q1, q2, q3]
    rw [f5_firstTwo_L32, if_neg hle, x_errs hT hW hX hS hd (by omega) (by omega), bnd0_ok]
    show _ = match zit (fun b => fS T W (100 * d + 10 * a + b)) m (b + 1) (fS T W (100 * d + 10 * a + b) none) with
      | none => K63 μ
      | some c => K50 (zi (c % 10)) μ
    rw [hf]
    by_cases h0 : tE T W d a b = 0
    · rw [if_pos (show zi (tE T W d a b) = 0 from by rw [h0]; rfl), if_pos h0, fS_some (g := fun b => 100 * d + 10 * a + b)]
      show _ = K50 (zi ((100 * d + 10 * a + b) % 10)) μ
      rw [q3]
    · rw [if_neg (show ¬ zi (tE T W d a b) = 0 from by rw [show (0 : Int32) = zi 0 from rfl, zi_eq (by omega) (by omega)]; exact h0), if_neg h0, z1]
      exact ih (b + 1) n (by omega) (by omega)
theorem x_ft20 {T W : zN2} {k : Nat} {μ : zMem} (hT : TB T) (hW : WB T W) (hP : W 0 3 = T 2 1) (hX : XT T μ) (hS : XS T W k μ) {d : Nat} (hd : d < T 2 2) (K69 : zMem → zRes) (K50 : Int32 → Int32 → zMem → zRes) : ∀ m a n, a + m = T 2 1 → m < n →
    f5_firstTwo_L20 k (zi d) K69 K50 n (zi a) μ = match zit (fun a => zit (fun b => fS T W (100 * d + 10 * a + b)) (T 2 1 - (a + 1)) (a + 1)) m a none with
      | none => K69 μ
      | some c => K50 (zi (c / 10 % 10)) (zi (c % 10)) μ := by
  have hPP := hT.2.1
  intro m
  induction m with
  | zero =>
    intro a n h1 h2
    obtain ⟨n, rfl⟩ : ∃ k, n = k + 1 := ⟨n - 1, by omega⟩
    have hle : μ k 4 ≤ zi a := by rw [hS.1.2.2.2.1, hP, zi_le (by omega) (by omega)]; omega
    rw [f5_firstTwo_L20, if_pos hle]
    rfl
  | succ m ih =>
    intro a n h1 h2
    obtain ⟨n, rfl⟩ : ∃ k, n = k + 1 := ⟨n - 1, by omega⟩
    have hle : ¬ μ k 4 ≤ zi a := by rw [hS.1.2.2.2.1, hP, zi_le (by omega) (by omega)]; omega
    have z1 : zi a + (1 : Int32) = zi (a + 1) := zi_add a 1
    have hin := x_ft32 hT hW hP hX hS hd (show a < T 2 1 by omega) (fun (μ20 : zMem) => f5_firstTwo_L20 k (zi d) K69 K50 n (zi (a + 1)) μ20) (fun (x3_21 : Int32) (μ22 : zMem) => K50 (zi a) x3_21 μ22) (T 2 1 - (a + 1)) (a + 1) zF (by omega) (by unfold zF; omega)
    rw [f5_firstTwo_L20, if_neg hle, zlet_e, z1, hin]
    show _ = match zit (fun a => zit (fun b => fS T W (100 * d + 10 * a + b)) (T 2 1 - (a + 1)) (a + 1)) m (a + 1) (zit (fun b => fS T W (100 * d + 10 * a + b)) (T 2 1 - (a + 1)) (a + 1) none) with
      | none => K69 μ
      | some c => K50 (zi (c / 10 % 10)) (zi (c % 10)) μ
    have hinv := zit_inv (F := fun b => fS T W (100 * d + 10 * a + b)) (fun t => ∀ c, t = some c → c / 10 % 10 = a) (T 2 1 - (a + 1)) (a + 1) none (fun c hc => (nomatch hc)) (fun j t j1 j2 ht c hc => by
      cases t with
      | some e => exact ht c hc
      | none =>
        unfold fS at hc
        split at hc
        · rename_i e he; exact (nomatch he)
        · split at hc
          · rw [← Option.some.inj hc]; omega
          · exact (nomatch hc))
    cases hz : zit (fun b => fS T W (100 * d + 10 * a + b)) (T 2 1 - (a + 1)) (a + 1) none with
    | none => exact ih (a + 1) n (by omega) (by omega)
    | some c =>
      rw [fS_some2]
      show K50 (zi a) (zi (c % 10)) μ = K50 (zi (c / 10 % 10)) (zi (c % 10)) μ
      rw [hinv c hz]
theorem x_firstTwo {T W : zN2} {k : Nat} {μ : zMem} (hT : TB T) (hW : WB T W) (hP : W 0 3 = T 2 1) (hX : XT T μ) (hS : XS T W k μ) {d : Nat} (hd : d < T 2 2) : f5_firstTwo k (zi d) μ = some (0, (match fT T W d with
    | none => zN1
    | some c => zi (c % 100)), μ) := by
  have hPP := hT.2.1
  have hD := hT.2.2.1
  have hshut : (W 0 4).testBit d = true ∨ T 10 d < W 0 0 → fT T W d = none := by
    intro h
    unfold fT
    refine zit_inv (fun t => t = none) (T 2 1) 0 none rfl (fun a t _ ha ht => zit_inv (fun t => t = none) (T 2 1 - (a + 1)) (a + 1) t ht (fun b t h1 h2 ht => ?_))
    rw [ht]
    have q1 : (100 * d + 10 * a + b) / 100 = d := by omega
    show (if tE T W ((100 * d + 10 * a + b) / 100) _ _ = 0 then _ else _) = none
    rw [q1, if_neg]
    intro h0
    have := tE_0 h0
    rcases h with h | h
    · rw [this.1] at h; exact absurd h (by decide)
    · omega
  unfold f5_firstTwo
  rw [x_isOpen hW hS (by omega), bnd0_ok, zlet_e]
  cases hb : (W 0 4).testBit d
  · rw [if_pos (show zi (if false = true then 1 else 0) = 0 from rfl), x_isTooLate hT hW hX hS hd, bnd0_ok]
    by_cases hl : T 10 d < W 0 0
    · rw [if_pos hl, if_neg (show ¬ zi 1 = 0 by decide), hshut (Or.inr hl)]; rfl
    · rw [if_neg hl, if_pos (show zi 0 = 0 from rfl)]
      have h20 := x_ft20 hT hW hP hX hS hd (fun (μ23 : zMem) => some (0, (-1 : Int32), μ23)) (fun (x2_24 : Int32) (x3_25 : Int32) (μ26 : zMem) => some (0, ((10 : Int32) * x2_24) + x3_25, μ26)) (T 2 1) 0 zF (by omega) (by unfold zF; omega)
      refine Eq.trans h20 ?_
      show (match fT T W d with
        | none => _
        | some c => _) = _
      cases hf : fT T W d with
      | none => rfl
      | some c =>
        obtain ⟨f1, f2, f3⟩ := fT_ok hT hd hf
        show some (0, (10 : Int32) * zi (c / 10 % 10) + zi (c % 10), μ) = some (0, zi (c % 100), μ)
        have e : (10 : Int32) * zi (c / 10 % 10) + zi (c % 10) = zi (10 * (c / 10 % 10) + c % 10) := by rw [show (10 : Int32) = zi 10 from rfl, zi_mul, zi_add]
        rw [e, show 10 * (c / 10 % 10) + c % 10 = c % 100 by omega]
  · rw [if_neg (show ¬ zi (if true = true then 1 else 0) = 0 by decide), hshut (Or.inl hb)]; rfl
theorem m_bestNow {T W : zN2} {μ : zMem} (hT : TB T) (hW : WB T W) (hP : W 0 3 = T 2 1) (hM : MT T μ) (hS : MS T W μ) : f9_bestNow μ = some (0, oI (bN T W), μ) ∧ ∀ c, bN T W = some c → cok T c ∧ c < 1000 := by
  have hD := hT.2.2.1
  have hPP := hT.2.1
  obtain ⟨e1, e2⟩ := zloopF (L := fun n i (b : Option Nat) => f9_bestNow_L4 (fun (x1_30 : Int32) (μ31 : zMem) => some (0, x1_30, μ31)) n (oI b) (zi i) μ) (N := 64 * T 2 2)
    (F := fun v s => if v / 8 % 8 < v % 8 ∧ v % 8 < T 2 1 then bS T W (100 * (v / 64) + 10 * (v / 8 % 8) + v % 8) s else s) (o := fun b => some (0, oI b, μ)) (fun _ b => ∀ c, b = some c → cok T c ∧ c < 1000)
    (fun n b _ => by simp (disch := omega) only [f9_bestNow_L4, zlit', zin_i, zi_cl, hM.1.2.2.1, zi_mul, zi_le, Nat.le_refl, if_true])
    (fun n v b hv hb => by
      have q1 : (100 * (v / 64) + 10 * (v / 8 % 8) + v % 8) / 100 = v / 64 := by omega
      have q2 : (100 * (v / 64) + 10 * (v / 8 % 8) + v % 8) / 10 % 10 = v / 8 % 8 := by omega
      have q3 : (100 * (v / 64) + 10 * (v / 8 % 8) + v % 8) % 10 = v % 8 := by omega
      have hvd : v / 64 < T 2 2 := by omega
      by_cases h1 : v / 8 % 8 < v % 8 ∧ v % 8 < T 2 1
      · simp only [if_pos h1]
        have hck : cok T (100 * (v / 64) + 10 * (v / 8 % 8) + v % 8) := ⟨by rw [q1]; exact hvd, by rw [q2]; omega, by rw [q3]; omega⟩
        have hcan := m_canBe hT hW hM hS hvd (show v / 8 % 8 < W 0 3 by omega) (show v % 8 < W 0 3 by omega)
        have k8 := tb_8 hT (v / 64)
        refine ⟨?_, ?_⟩
        · unfold bS
          rw [q1, q2, q3]
          by_cases h2 : tE T W (v / 64) (v / 8 % 8) (v % 8) = 0
          · cases b with
            | none => simp (disch := omega) only [f9_bestNow_L4, f9_coded, ↓zneg1', zlit', zin_i, zi_cl, hM.1.2.2.1, hM.1.2.1, zi_mul, zi_le, show ¬ 64 * T 2 2 ≤ v by omega, if_false, zlet_e', zi_div, zrem_i, show ¬ v % 8 ≤ v / 8 % 8 by omega, show ¬ T 2 1 ≤ v % 8 by omega, hcan, bnd0_ok', zi_add, h2, if_true, if_false, ite_true, ite_false, Bool.false_eq_true, Bool.true_eq_false, reduceIte, z10, z01, Nat.one_ne_zero, Nat.zero_ne_one, oI]
            | some e =>
              obtain ⟨k1, k2⟩ := hb e rfl
              have k9 := tb_8 hT (e / 100)
              have hke := k1.1
              by_cases hw : T 8 (e / 100) < T 8 (v / 64)
              · simp (disch := omega) only [f9_bestNow_L4, f9_coded, ↓zneg1', zlit', zin_i, zi_cl, hM.1.2.2.1, hM.1.2.1, zi_mul, zi_le, show ¬ 64 * T 2 2 ≤ v by omega, if_false, zlet_e', zi_div, zrem_i, show ¬ v % 8 ≤ v / 8 % 8 by omega, show ¬ T 2 1 ≤ v % 8 by omega, hcan, bnd0_ok', zi_add, h2, if_true, if_false, ite_true, ite_false, Bool.false_eq_true, Bool.true_eq_false, reduceIte, z10, z01, Nat.one_ne_zero, Nat.zero_ne_one, oI, zi_nN1, (hM.2.2.2.2 _ hvd).1, (hM.2.2.2.2 _ hke).1, show ¬ T 8 (v / 64) ≤ T 8 (e / 100) by omega, hw]
              · simp (disch := omega) only [f9_bestNow_L4, f9_coded, ↓zneg1', zlit', zin_i, zi_cl, hM.1.2.2.1, hM.1.2.1, zi_mul, zi_le, show ¬ 64 * T 2 2 ≤ v by omega, if_false, zlet_e', zi_div, zrem_i, show ¬ v % 8 ≤ v / 8 % 8 by omega, show ¬ T 2 1 ≤ v % 8 by omega, hcan, bnd0_ok', zi_add, h2, if_true, if_false, ite_true, ite_false, Bool.false_eq_true, Bool.true_eq_false, reduceIte, z10, z01, Nat.one_ne_zero, Nat.zero_ne_one, oI, zi_nN1, (hM.2.2.2.2 _ hvd).1, (hM.2.2.2.2 _ hke).1, show T 8 (v / 64) ≤ T 8 (e / 100) by omega, hw]
          · simp (disch := omega) only [f9_bestNow_L4, f9_coded, ↓zneg1', zlit', zin_i, zi_cl, hM.1.2.2.1, hM.1.2.1, zi_mul, zi_le, show ¬ 64 * T 2 2 ≤ v by omega, if_false, zlet_e', zi_div, zrem_i, show ¬ v % 8 ≤ v / 8 % 8 by omega, show ¬ T 2 1 ≤ v % 8 by omega, hcan, bnd0_ok', zi_add, h2, if_true, if_false, ite_true, ite_false, Bool.false_eq_true, Bool.true_eq_false, reduceIte, z10, z01, Nat.one_ne_zero, Nat.zero_ne_one]
        · intro c hc
          unfold bS at hc
          rw [q1, q2, q3] at hc
          by_cases h2 : tE T W (v / 64) (v / 8 % 8) (v % 8) = 0
          · rw [if_pos h2] at hc
            have hnew : cok T (100 * (v / 64) + 10 * (v / 8 % 8) + v % 8) ∧ 100 * (v / 64) + 10 * (v / 8 % 8) + v % 8 < 1000 := ⟨hck, by omega⟩
            cases b with
            | none =>
              have hc : some (100 * (v / 64) + 10 * (v / 8 % 8) + v % 8) = some c := hc
              rw [← Option.some.inj hc]; exact hnew
            | some e =>
              have hc : (if T 8 (e / 100) < T 8 (v / 64) then some (100 * (v / 64) + 10 * (v / 8 % 8) + v % 8) else some e) = some c := hc
              split at hc
              · rw [← Option.some.inj hc]; exact hnew
              · exact hb c hc
          · rw [if_neg h2] at hc; exact hb c hc
      · simp only [if_neg h1]
        refine ⟨?_, hb⟩
        by_cases h2 : v % 8 ≤ v / 8 % 8
        · simp (disch := omega) only [f9_bestNow_L4, zlit', zin_i, zi_cl, hM.1.2.2.1, zi_mul, zi_le, show ¬ 64 * T 2 2 ≤ v by omega, if_false, zlet_e', zi_div, zrem_i, h2, if_true, zi_add]
        · simp (disch := omega) only [f9_bestNow_L4, zlit', zin_i, zi_cl, hM.1.2.2.1, hM.1.2.1, zi_mul, zi_le, show ¬ 64 * T 2 2 ≤ v by omega, if_false, zlet_e', zi_div, zrem_i, h2, show T 2 1 ≤ v % 8 by omega, if_true, zi_add])
    (64 * T 2 2) 0 none zF (by omega) (by unfold zF; omega) (fun c hc => (nomatch hc))
  rw [zit_cand hPP] at e1 e2
  refine ⟨?_, e2⟩
  unfold f9_bestNow
  simp only [↓zneg1', zlit']
  exact e1
