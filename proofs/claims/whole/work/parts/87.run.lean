/-! THE PURE SIDE, 27: the class picks a WORK, on -/
theorem zloopS {σ τ : Type} {L : Nat → Nat → σ → zRes} {N : Nat} {o : σ → zRes} {F : Nat → τ → τ} (R : Nat → τ → σ → Prop)
    (hend : ∀ n s t, R N t s → L (n + 1) N s = o s)
    (hstep : ∀ n i s t, i < N → R i t s → ∃ s', L (n + 1) i s = L n (i + 1) s' ∧ R (i + 1) (F i t) s') :
    ∀ m i s t n, i + m = N → m < n → R i t s → ∃ s', L n i s = o s' ∧ R N (zit F m i t) s' := by
  intro m
  induction m with
  | zero =>
    intro i s t n hi hn hs
    obtain ⟨n, rfl⟩ : ∃ k, n = k + 1 := ⟨n - 1, by omega⟩
    have e : i = N := by omega
    subst e
    exact ⟨s, hend n s t hs, hs⟩
  | succ m ih =>
    intro i s t n hi hn hs
    obtain ⟨n, rfl⟩ : ∃ k, n = k + 1 := ⟨n - 1, by omega⟩
    obtain ⟨s', h1, h2⟩ := hstep n i s t (by omega) hs
    rw [h1]
    exact ih (i + 1) s' (F i t) n (by omega) (by omega) h2
/-- only what the runner picks has changed -/
def pfr (μ μ' : zMem) : Prop := (∀ key, key ≠ 57 → μ' key = μ key) ∧ ∀ j, j < 7 → μ' 57 j = μ 57 j
theorem pfr.refl {μ : zMem} : pfr μ μ := ⟨fun _ _ => rfl, fun _ _ => rfl⟩
def pR (T W : zN2) (r : Nat) (μ0 : zMem) (t : Option Nat) (μ : zMem) : Prop := xB T W r t μ ∧ (∀ e, t = some e → cok T e) ∧ pfr μ0 μ
/-- one WORK is looked at -/
theorem x_pick1 {T W : zN2} {μ0 μ : zMem} (hT : TB T) (hW : WB T W) (hP : W 0 3 = T 2 1) (hX : XT T μ0) (hS : XS T W 28 μ0) {r c : Nat} {t : Option Nat} (hr : r < 4) (hc : cok T c) (h : pR T W r μ0 t μ) (J : zMem → zRes) :
    ∃ μ', bnd0 (f5_errs 28 (zi (c / 100)) (zi (c / 10 % 10)) (zi (c % 10)) μ) (fun (v17 : Int32) (μ18 : zMem) => if v17 = zi 0 then bnd0 (f4_scoreOf (zi r) (zi (c / 100)) (zi (c / 10 % 10)) (zi (c % 10)) μ18) (fun (v34 : Int32) (μ35 : zMem) => if v34 = (-100 : Int32) then J μ35 else bnd0 (f4_isBetter (zi r) (zi (c / 100)) v34 μ35) (fun (v25 : Int32) (μ26 : zMem) => if v25 = zi 0 then J μ26 else bnd0 (f4_keep (zi (c / 100)) (zi (c / 10 % 10)) (zi (c % 10)) v34 μ26) (fun (v29 : Int32) (μ30 : zMem) => J μ30))) else J μ18) = J μ' ∧ pR T W r μ0 (rS T W r c t) μ' := by
  obtain ⟨h1, h2, h3⟩ := h
  have hX' : XT T μ := XT_of (fun key hk => h3.1 key (by omega)) hX
  have hS' : XS T W 28 μ := XS_of (fun key k1 k2 => h3.1 key (by omega)) hS
  have hlt := tE_lt (T := T) (W := W) (d := c / 100) (a := c / 10 % 10) (b := c % 10)
  have hc' := hc
  obtain ⟨c1, c2, c3⟩ := hc'
  rw [x_errs hT hW hX' hS' c1 (by omega) (by omega), bnd0_ok]
  unfold rS
  by_cases h0 : tE T W (c / 100) (c / 10 % 10) (c % 10) = 0
  · simp (disch := omega) only [h0, if_true, x_score hT hW hP hX' hS' hr hc, bnd0_ok, xSc_100 hT hW, if_false, x_isBetter hT hW hX' hr hc h2 h1]
    have keepR : pR T W r μ0 (some c) (zset (zset (zset (zset μ 57 7 (zi (c / 100))) 57 8 (zi (c / 10 % 10))) 57 9 (zi (c % 10))) 57 10 (xSc T W r c)) := by
      refine ⟨⟨?_, ?_, ?_, ?_⟩, fun e he => by rw [← Option.some.inj he]; exact hc, fun key hk => ?_, fun j hj => ?_⟩
      · simp (disch := omega) only [zset_nj, zset_eq]
      · simp (disch := omega) only [zset_nj, zset_eq]
      · simp (disch := omega) only [zset_nj, zset_eq]
      · simp (disch := omega) only [zset_eq]
      · simp (disch := omega) only [zset_nk]; exact h3.1 key hk
      · simp (disch := omega) only [zset_nj]; exact h3.2 j hj
    cases t with
    | none =>
      refine ⟨_, ?_, keepR⟩
      simp only [f4_keep, zlet_e, if_true, if_false, ite_true, ite_false, Bool.false_eq_true, Bool.true_eq_false, reduceIte, z10, z01, Nat.one_ne_zero, Nat.zero_ne_one, bnd0_ok]
    | some e =>
      unfold b01
      cases ha : ahd T W r c e
      · refine ⟨μ, ?_, ?_⟩
        · simp only [ha, if_true, if_false, ite_true, ite_false, Bool.false_eq_true, Bool.true_eq_false, reduceIte, z10, z01, Nat.one_ne_zero, Nat.zero_ne_one]
        · simp only [ha, if_true, if_false, ite_true, ite_false, Bool.false_eq_true, Bool.true_eq_false, reduceIte, z10, z01, Nat.one_ne_zero, Nat.zero_ne_one]; exact ⟨h1, h2, h3⟩
      · refine ⟨zset (zset (zset (zset μ 57 7 (zi (c / 100))) 57 8 (zi (c / 10 % 10))) 57 9 (zi (c % 10))) 57 10 (xSc T W r c), ?_, ?_⟩
        · simp only [ha, f4_keep, zlet_e, if_true, if_false, ite_true, ite_false, Bool.false_eq_true, Bool.true_eq_false, reduceIte, z10, z01, Nat.one_ne_zero, Nat.zero_ne_one, bnd0_ok]
        · simp only [ha, if_true, if_false, ite_true, ite_false, Bool.false_eq_true, Bool.true_eq_false, reduceIte, z10, z01, Nat.one_ne_zero, Nat.zero_ne_one]; exact keepR
  · refine ⟨μ, ?_, ?_⟩
    · simp (disch := omega) only [zi_eq, h0, if_false]
    · simp only [h0, if_false]; exact ⟨h1, h2, h3⟩
theorem x_pick71 {T W : zN2} {μ0 μ : zMem} (hT : TB T) (hW : WB T W) (hP : W 0 3 = T 2 1) (hX : XT T μ0) (hS : XS T W 28 μ0) {r d a : Nat} {t : Option Nat} (hr : r < 4) (hd : d < T 2 2) (ha : a < T 2 1) (h : pR T W r μ0 t μ) (K : zMem → zRes) :
    ∃ μ', f4_pick_L71 (zi r) (zi d) (zi a) K zF (zi (a + 1)) μ = K μ' ∧ pR T W r μ0 (zit (fun b => rS T W r (100 * d + 10 * a + b)) (T 2 1 - (a + 1)) (a + 1) t) μ' := by
  have hD := hT.2.2.1
  have hPP := hT.2.1
  exact zloopS (L := fun n i μ => f4_pick_L71 (zi r) (zi d) (zi a) K n (zi i) μ) (N := T 2 1) (o := K) (F := fun b => rS T W r (100 * d + 10 * a + b)) (fun _ t μ => pR T W r μ0 t μ)
    (fun n μ t h => by
      have e4 : μ 28 4 = zi (T 2 1) := by rw [h.2.2.1 28 (by decide), hS.1.2.2.2.1, hP]
      simp (disch := omega) only [f4_pick_L71, e4, zi_le, Nat.le_refl, if_true])
    (fun n i μ t hi h => by
      have e4 : μ 28 4 = zi (T 2 1) := by rw [h.2.2.1 28 (by decide), hS.1.2.2.2.1, hP]
      have q1 : (100 * d + 10 * a + i) / 100 = d := by omega
      have q2 : (100 * d + 10 * a + i) / 10 % 10 = a := by omega
      have q3 : (100 * d + 10 * a + i) % 10 = i := by omega
      obtain ⟨μ', p1, p2⟩ := x_pick1 hT hW hP hX hS hr (c := 100 * d + 10 * a + i) ⟨by rw [q1]; exact hd, by rw [q2]; exact ha, by rw [q3]; exact hi⟩ h (fun m => f4_pick_L71 (zi r) (zi d) (zi a) K n (zi (i + 1)) m)
      rw [q1, q2, q3] at p1
      refine ⟨μ', ?_, p2⟩
      have z0 : (0 : Int32) = zi 0 := rfl
      have z1 : (1 : Int32) = zi 1 := rfl
      simp (disch := omega) only [f4_pick_L71, e4, zi_le, show ¬ T 2 1 ≤ i by omega, if_false, zlet_e', z0, z1, zi_add]
      exact p1)
    (T 2 1 - (a + 1)) (a + 1) μ t zF (by omega) (by unfold zF; omega) h
theorem x_pick49 {T W : zN2} {μ0 μ : zMem} (hT : TB T) (hW : WB T W) (hP : W 0 3 = T 2 1) (hX : XT T μ0) (hS : XS T W 28 μ0) {r d : Nat} {t : Option Nat} (hr : r < 4) (hd : d < T 2 2) (h : pR T W r μ0 t μ) (K : zMem → zRes) :
    ∃ μ', f4_pick_L49 (zi r) (zi d) (zi 1) K zF (zi 0) μ = K μ' ∧ pR T W r μ0 (zit (fun a => zit (fun b => rS T W r (100 * d + 10 * a + b)) (T 2 1 - (a + 1)) (a + 1)) (T 2 1) 0 t) μ' := by
  have hPP := hT.2.1
  exact zloopS (L := fun n i μ => f4_pick_L49 (zi r) (zi d) (zi 1) K n (zi i) μ) (N := T 2 1) (o := K) (F := fun a => zit (fun b => rS T W r (100 * d + 10 * a + b)) (T 2 1 - (a + 1)) (a + 1)) (fun _ t μ => pR T W r μ0 t μ)
    (fun n μ t h => by
      have e4 : μ 28 4 = zi (T 2 1) := by rw [h.2.2.1 28 (by decide), hS.1.2.2.2.1, hP]
      simp (disch := omega) only [f4_pick_L49, zlit', z10, if_false, e4, zi_le, Nat.le_refl, if_true])
    (fun n i μ t hi h => by
      have e4 : μ 28 4 = zi (T 2 1) := by rw [h.2.2.1 28 (by decide), hS.1.2.2.2.1, hP]
      obtain ⟨μ', p1, p2⟩ := x_pick71 hT hW hP hX hS hr hd hi h (fun m => f4_pick_L49 (zi r) (zi d) (zi 1) K n (zi (i + 1)) m)
      refine ⟨μ', ?_, p2⟩
      simp (disch := omega) only [f4_pick_L49, zlit', z10, if_false, e4, zi_le, show ¬ T 2 1 ≤ i by omega, zlet_e', zi_add]
      exact p1)
    (T 2 1) 0 μ t zF (by omega) (by unfold zF; omega) h
theorem x_stop49 {r i : Nat} (K : zMem → zRes) (m : zMem) : f4_pick_L49 (zi r) (zi i) (zi 0) K zF (zi 0) m = K m := by
  have h : ∀ n, f4_pick_L49 (zi r) (zi i) (zi 0) K (n + 1) (zi 0) m = K m := by
    intro n
    rw [f4_pick_L49]
    exact if_pos rfl
  exact h 999999
theorem x_pick {T W : zN2} {μ : zMem} (hT : TB T) (hW : WB T W) (hP : W 0 3 = T 2 1) (hX : XT T μ) (hS : XS T W 28 μ) {r : Nat} (hr : r < 4) :
    ∃ μ', f4_pick (zi r) μ = some (0, zi 0, μ') ∧ xB T W r (rC T W r) μ' ∧ pfr μ μ' := by
  have hD := hT.2.2.1
  have hPP := hT.2.1
  obtain ⟨μ', p1, p2⟩ := zloopS (L := fun n i m => f4_pick_L7 (zi r) (fun (μ47 : zMem) => some (0, zi 0, μ47)) n (zi i) m) (N := T 2 2) (o := fun m => some (0, zi 0, m)) (F := fun d => zit (fun a => zit (fun b => rS T W r (100 * d + 10 * a + b)) (T 2 1 - (a + 1)) (a + 1)) (T 2 1) 0) (fun _ t m => pR T W r μ t m)
    (fun n m t h => by
      have e2 : m 2 2 = zi (T 2 2) := by rw [h.2.2.1 2 (by decide)]; exact hX.1.2.2.1
      simp (disch := omega) only [f4_pick_L7, e2, zi_le, Nat.le_refl, if_true])
    (fun n i m t hi h => by
      have hX' : XT T m := XT_of (fun key hk => h.2.2.1 key (by omega)) hX
      have hS' : XS T W 28 m := XS_of (fun key k1 k2 => h.2.2.1 key (by omega)) hS
      obtain ⟨μ', p1, p2⟩ := x_pick49 hT hW hP hX hS hr hi h (fun m => f4_pick_L7 (zi r) (fun (μ47 : zMem) => some (0, zi 0, μ47)) n (zi (i + 1)) m)
      by_cases hsh : (W 0 4).testBit i = false ∧ ¬ T 10 i < W 0 0
      · refine ⟨μ', ?_, p2⟩
        have ho : f5_isOpen 28 (zi i) m = some (0, zi 0, m) := by rw [x_isOpen hW hS' (by omega), hsh.1]; rfl
        have hl : f5_isTooLate 28 (zi i) m = some (0, zi 0, m) := by rw [x_isTooLate hT hW hX' hS' hi, if_neg hsh.2]
        have hle : ¬ m 2 2 ≤ zi i := by rw [hX'.1.2.2.1, zi_le (by omega) (by omega)]; omega
        rw [f4_pick_L7, if_neg hle, ho, bnd0_ok, zlet_e, zlet_e, if_pos (show zi 0 = 0 from rfl), hl, bnd0_ok, if_pos (show zi 0 = 0 from rfl)]
        show zlet _ _ = _
        rw [zlet_e]
        simp only [zlit', zi_add]
        exact p1
      · refine ⟨m, ?_, ?_⟩
        · have stop := fun K => x_stop49 (r := r) (i := i) K m
          cases hb : (W 0 4).testBit i
          · have hl : T 10 i < W 0 0 := by
              by_cases hl : T 10 i < W 0 0
              · exact hl
              · exact absurd ⟨hb, hl⟩ hsh
            have ho : f5_isOpen 28 (zi i) m = some (0, zi 0, m) := by rw [x_isOpen hW hS' (by omega), hb]; rfl
            have hl : f5_isTooLate 28 (zi i) m = some (0, zi 1, m) := by rw [x_isTooLate hT hW hX' hS' hi, if_pos hl]
            have hle : ¬ m 2 2 ≤ zi i := by rw [hX'.1.2.2.1, zi_le (by omega) (by omega)]; omega
            rw [f4_pick_L7, if_neg hle, ho, bnd0_ok, zlet_e, zlet_e, if_pos (show zi 0 = 0 from rfl), hl, bnd0_ok, if_neg (show ¬ zi 1 = 0 by decide)]
            show zlet _ _ = _
            rw [zlet_e]
            simp only [zlit', zi_add, stop]
          · have ho : f5_isOpen 28 (zi i) m = some (0, zi 1, m) := by rw [x_isOpen hW hS' (by omega), hb]; rfl
            have hle : ¬ m 2 2 ≤ zi i := by rw [hX'.1.2.2.1, zi_le (by omega) (by omega)]; omega
            rw [f4_pick_L7, if_neg hle, ho, bnd0_ok, zlet_e, zlet_e, if_neg (show ¬ zi 1 = 0 by decide)]
            show zlet _ _ = _
            rw [zlet_e]
            simp only [zlit', zi_add, stop]
        · have : zit (fun a => zit (fun b => rS T W r (100 * i + 10 * a + b)) (T 2 1 - (a + 1)) (a + 1)) (T 2 1) 0 t = t := by
            apply zit_id
            intro a u _ ha
            apply zit_id
            intro b v _ hb
            have q1 : (100 * i + 10 * a + b) / 100 = i := by omega
            unfold rS
            rw [if_neg]
            rw [q1]
            intro h0
            have := tE_0 h0
            exact hsh ⟨this.1, by omega⟩
          rw [this]; exact h)
    (T 2 2) 0 (zset μ 57 7 zN1) none zF (by omega) (by unfold zF; omega) ⟨zset_eq, ⟨fun e he => (nomatch he), ⟨fun key hk => zset_nk hk, fun j hj => zset_nj (by omega)⟩⟩⟩
  refine ⟨μ', ?_, p2.1, p2.2.2⟩
  unfold f4_pick
  simp only [zlet_e', ↓zneg1', zlit']
  exact p1
