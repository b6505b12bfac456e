/-! THE PURE SIDE, 17: judge -/
/-- key 0 but for some slots, and all but some keys, are as they were -/
def mfr (J S : Nat → Prop) (μ μ' : zMem) : Prop := (∀ key, key ≠ 0 → ¬ S key → μ' key = μ key) ∧ ∀ j, ¬ J j → μ' 0 j = μ 0 j
theorem mfr.refl {J S : Nat → Prop} {μ : zMem} : mfr J S μ μ := ⟨fun _ _ _ => rfl, fun _ _ => rfl⟩
theorem mfr.trans {J S : Nat → Prop} {μ μ' μ'' : zMem} (h : mfr J S μ μ') (h' : mfr J S μ' μ'') : mfr J S μ μ'' := ⟨fun k h1 h2 => (h'.1 k h1 h2).trans (h.1 k h1 h2), fun j hj => (h'.2 j hj).trans (h.2 j hj)⟩
theorem mfr.mono {J S J' S' : Nat → Prop} {μ μ' : zMem} (h : mfr J S μ μ') (hJ : ∀ j, J j → J' j) (hS : ∀ k, S k → S' k) : mfr J' S' μ μ' := ⟨fun k h1 h2 => h.1 k h1 (fun q => h2 (hS k q)), fun j hj => h.2 j (fun q => hj (hJ j q))⟩
theorem mfr.ofz {J S : Nat → Prop} {S1 : Nat → Prop} {μ μ' : zMem} (h : zfr S1 μ μ') (h0 : ¬ S1 0) (hS : ∀ k, S1 k → S k) : mfr J S μ μ' := ⟨fun k _ h2 => h k (fun q => h2 (hS k q)), fun j _ => by rw [h 0 h0]⟩
theorem mfr.set0 {J S : Nat → Prop} {μ μ' : zMem} {j : Nat} {v : Int32} (h : mfr J S μ μ') (hj : J j) : mfr J S μ (zset μ' 0 j v) := ⟨fun k h1 h2 => by rw [zset_nk h1]; exact h.1 k h1 h2, fun j' hj' => by
  have e : j' ≠ j := fun e => hj' (by rw [e]; exact hj)
  rw [zset_nj e]; exact h.2 j' hj'⟩
theorem mfr.set {J S : Nat → Prop} {μ μ' : zMem} {k j : Nat} {v : Int32} (h : mfr J S μ μ') (hk : k ≠ 0) (hS : S k) : mfr J S μ (zset μ' k j v) := ⟨fun k' h1 h2 => by
  have e : k' ≠ k := fun e => h2 (by rw [e]; exact hS)
  rw [zset_nk e]; exact h.1 k' h1 h2, fun j' hj' => by rw [zset_nk (fun e => hk e.symm)]; exact h.2 j' hj'⟩
theorem mfr.fil {J S : Nat → Prop} {μ μ' : zMem} {k z : Nat} {v : Int32} (h : mfr J S μ μ') (hk : k ≠ 0) (hS : S k) : mfr J S μ (zfil μ' k z v) := ⟨fun k' h1 h2 => by
  have e : k' ≠ k := fun e => h2 (by rw [e]; exact hS)
  rw [zfil_nk e]; exact h.1 k' h1 h2, fun j' hj' => by rw [zfil_nk (fun e => hk e.symm)]; exact h.2 j' hj'⟩
/-- the reference's scene keys -/
def zsk (k : Nat) : Prop := k = 91 ∨ k = 92 ∨ (51 ≤ k ∧ k < 60)
theorem m_lays0 {i : Nat} {μ : zMem} (hi : i < 2) : ∃ m, f9_lays (zi i) (zi 0) μ = some (0, zi 0, m) ∧ (∀ key j, kidx key j < 177 → m (98 + i) (kidx key j) = μ key j) ∧ mfr (fun j => j = 29) (fun k => k = 98 + i) μ m := by
  obtain ⟨m, a, b, c, d⟩ := m_save (kt := 98 + i) (μ := μ) (by omega)
  refine ⟨m, ?_, b, c, fun j hj => d j hj⟩
  unfold f9_lays
  simp (disch := omega) only [zin_i, zi_cl, a, bnd0_ok, zlit]
theorem m_lays1 {i : Nat} {μ : zMem} (hi : i < 2) : ∃ m, f9_lays (zi i) (zi 1) μ = some (0, zi 0, m) ∧ (∀ key j, kidx key j < 177 → m key j = μ (98 + i) (kidx key j)) ∧ (∀ key j, 177 ≤ kidx key j → ¬ (key = 0 ∧ j = 29) → m key j = μ key j) := by
  obtain ⟨m, a, b, c⟩ := m_back (kt := 98 + i) (μ := μ) (by omega)
  refine ⟨m, ?_, b, c⟩
  unfold f9_lays
  simp (disch := omega) only [zin_i, zi_cl, a, bnd0_ok, zlit]
theorem kidx_big {k j : Nat} (h : k ≠ 0 ∧ ¬ zsk k ∧ ¬ (61 ≤ k ∧ k < 91)) : kidx k j = 1000 := by
  unfold zsk at h
  unfold kidx; rw [if_neg (by omega), if_neg (by omega), if_neg (by omega), if_neg (by omega), if_neg (by omega), if_neg (by omega)]
/-- laid aside, something else, taken back: all as before -/
theorem zmq_aside {i : Nat} {μ μ1 μ2 μ3 : zMem} {J S : Nat → Prop} (hi : i < 2) (a1 : ∀ key j, kidx key j < 177 → μ1 (98 + i) (kidx key j) = μ key j) (a2 : mfr (fun j => j = 29) (fun k => k = 98 + i) μ μ1) (h : mfr J S μ1 μ2)
    (b1 : ∀ key j, kidx key j < 177 → μ3 key j = μ2 (98 + i) (kidx key j)) (b2 : ∀ key j, 177 ≤ kidx key j → ¬ (key = 0 ∧ j = 29) → μ3 key j = μ2 key j)
    (hS : ¬ S (98 + i)) (hS' : ∀ k, zmk k → ¬ S k) (hJ : ¬ J 1 ∧ ¬ J 3 ∧ ¬ J 22 ∧ ¬ J 30) : zmq μ μ3 ∧ ∀ j, ¬ J j → j ≠ 20 → j ≠ 21 → j ≠ 29 → μ3 0 j = μ 0 j := by
  have h0 : ∀ j, ¬ J j → j ≠ 20 → j ≠ 21 → j ≠ 29 → μ3 0 j = μ 0 j := by
    intro j h1 h2 h3 h4
    rw [b2 0 j (by rw [kidx_0 h2 h3]; decide) (by omega), h.2 j h1, a2.2 j h4]
  refine ⟨⟨⟨h0 1 hJ.1 (by decide) (by decide) (by decide), h0 3 hJ.2.1 (by decide) (by decide) (by decide), h0 22 hJ.2.2.1 (by decide) (by decide) (by decide), h0 30 hJ.2.2.2 (by decide) (by decide) (by decide)⟩, fun key j hk => ?_, fun key hk => ?_⟩, h0⟩
  · rw [b1 key j hk, h.1 (98 + i) (by omega) hS, a1 key j hk]
  · funext j
    have hk' := hk
    unfold zmk at hk'
    rw [b2 key j (by rw [kidx_big (by unfold zsk; omega)]; decide) (by omega), h.1 key (by omega) (hS' key hk), a2.1 key (by omega) (by omega)]
/-- the scene on a ROW's DAY -/
def jW (T : zN2) (c : Nat) (W : zN2) : zN2 := if W 0 0 < c / 1000 then tD T W (c / 1000) else W
/-- a ROW is played: the scene then, and by what it ERRS -/
def jP (T : zN2) (c : Nat) (W : zN2) : zN2 × Nat :=
  if c / 1000 < W 0 0 then (W, 6)
  else if tE T (jW T c W) (c / 100 % 10) (c / 10 % 10) (c % 10) = 0 then (tK T (jW T c W) (c / 100 % 10) (c / 10 % 10) (c % 10), 0)
  else (jW T c W, tE T (jW T c W) (c / 100 % 10) (c / 10 % 10) (c % 10))
theorem jP_b {T W : zN2} {c : Nat} (hT : TB T) (hW : WB T W) (hy : c / 1000 ≤ 29) (hd : c / 100 % 10 < T 2 2) : WB T (jP T c W).1 ∧ (jP T c W).1 0 3 = W 0 3 ∧ (jP T c W).2 < 7 := by
  have hW1 : WB T (jW T c W) ∧ jW T c W 0 3 = W 0 3 := by
    unfold jW
    split
    · exact ⟨wb_dawn hT hW hy, rfl⟩
    · exact ⟨hW, rfl⟩
  unfold jP
  by_cases h1 : c / 1000 < W 0 0
  · rw [if_pos h1]; exact ⟨hW, rfl, by show 6 < 7; decide⟩
  · rw [if_neg h1]
    by_cases h0 : tE T (jW T c W) (c / 100 % 10) (c / 10 % 10) (c % 10) = 0
    · rw [if_pos h0]
      have hab := (tE_0 h0).2.2.1
      exact ⟨wb_work hT hW1.1 hd hab, (tK_0 hab (by decide)).trans hW1.2, by show 0 < 7; decide⟩
    · rw [if_neg h0]
      exact ⟨hW1.1, hW1.2, Nat.lt_trans tE_lt (by decide)⟩
theorem x_playRow {T W : zN2} {μ : zMem} (hT : TB T) (hW : WB T W) (hP : W 0 3 = T 2 1) (hX : XT T μ) (hS : XS T W 28 μ) {c : Nat} (hy : c / 1000 ≤ 29) (hd : c / 100 % 10 < T 2 2) (ha : c / 10 % 10 < T 2 1) (hb : c % 10 < T 2 1) :
    ∃ μ', f8_playRow (zi c) μ = some (0, zi (jP T c W).2, μ') ∧ XS T (jP T c W).1 28 μ' ∧ zfr (fun q => 28 ≤ q ∧ q < 32) μ μ' := by
  have hN := hW.1
  have hc : c < 2147483648 := by omega
  have hmid : ∀ (W1 : zN2) (μ1 : zMem), WB T W1 → W1 0 3 = W 0 3 → XS T W1 28 μ1 → XT T μ1 → zfr (fun q => 28 ≤ q ∧ q < 32) μ μ1 →
      ∃ μ', bnd0 (f5_errs 28 (zi (c / 100 % 10)) (zi (c / 10 % 10)) (zi (c % 10)) μ1) (fun (v9 : Int32) (μ10 : zMem) => zlet (fun (μ11 : zMem) => some (0, v9, μ11)) (fun j12 => if v9 = zi 0 then bnd0 (f5_doWork 28 (zi (c / 100 % 10)) (zi (c / 10 % 10)) (zi (c % 10)) μ10) (fun (v15 : Int32) (μ16 : zMem) => j12 μ16) else j12 μ10)) = some (0, zi (if tE T W1 (c / 100 % 10) (c / 10 % 10) (c % 10) = 0 then (tK T W1 (c / 100 % 10) (c / 10 % 10) (c % 10), 0) else (W1, tE T W1 (c / 100 % 10) (c / 10 % 10) (c % 10))).2, μ') ∧ XS T (if tE T W1 (c / 100 % 10) (c / 10 % 10) (c % 10) = 0 then (tK T W1 (c / 100 % 10) (c / 10 % 10) (c % 10), 0) else (W1, tE T W1 (c / 100 % 10) (c / 10 % 10) (c % 10))).1 28 μ' ∧ zfr (fun q => 28 ≤ q ∧ q < 32) μ μ' := by
    intro W1 μ1 hW1 hP1 hS1 hX1 hf1
    have hlt := tE_lt (T := T) (W := W1) (d := c / 100 % 10) (a := c / 10 % 10) (b := c % 10)
    rw [x_errs hT hW1 hX1 hS1 hd (by omega) (by omega), bnd0_ok]
    by_cases h0 : tE T W1 (c / 100 % 10) (c / 10 % 10) (c % 10) = 0
    · obtain ⟨-, -, hab, -, l1, l2, -⟩ := tE_0 h0
      obtain ⟨μ', a1, a2, a3, -⟩ := x_doWork (k := 28) (by decide) hT hW1 hX1 hS1 hd (show c / 10 % 10 < W1 0 3 by omega) (show c % 10 < W1 0 3 by omega) hab l1 l2
      refine ⟨μ', ?_, ?_, hf1.trans (a3.mono (fun q hq => by omega))⟩
      · simp only [h0, if_true, zlet_e, a1, bnd0_ok]
      · simp only [h0, if_true]; exact a2
    · refine ⟨μ1, ?_, ?_, hf1⟩
      · simp (disch := omega) only [zlet_e, zi_eq, h0, if_false]
      · simp only [h0, if_false]; exact hS1
  unfold f8_playRow f8_doorOfRow jP
  by_cases h1 : c / 1000 < W 0 0
  · refine ⟨μ, ?_, ?_, zfr.refl⟩
    · simp (disch := omega) only [zlet_e', zlit', zi_div, zrem_i, bnd0_ok', hS.1.1, zi_le, show ¬ W 0 0 ≤ c / 1000 by omega, if_false, if_pos h1]
    · simp only [if_pos h1]; exact hS
  · by_cases h2 : W 0 0 < c / 1000
    · obtain ⟨μ1, a1, a2, a3, -⟩ := x_beginDay (k := 28) (day := c / 1000) (by decide) hT hW hX hS (by omega)
      have ej : jW T c W = tD T W (c / 1000) := if_pos h2
      obtain ⟨μ', b1, b2, b3⟩ := hmid (tD T W (c / 1000)) μ1 (wb_dawn hT hW hy) rfl a2 (XT_of (fun key hk => a3 key (by omega)) hX) (a3.mono (fun q hq => by omega))
      refine ⟨μ', ?_, ?_, b3⟩
      · simp (disch := omega) only [zlet_e', zlit', zi_div, zrem_i, bnd0_ok', hS.1.1, zi_le, show W 0 0 ≤ c / 1000 by omega, show ¬ c / 1000 ≤ W 0 0 by omega, if_true, if_false, if_neg h1, ej, a1]
        simp (disch := omega) only [zlet_e'] at b1
        exact b1
      · simp only [if_neg h1, ej]; exact b2
    · have ej : jW T c W = W := if_neg h2
      obtain ⟨μ', b1, b2, b3⟩ := hmid W μ hW rfl hS hX zfr.refl
      refine ⟨μ', ?_, ?_, b3⟩
      · simp (disch := omega) only [zlet_e', zlit', zi_div, zrem_i, bnd0_ok', hS.1.1, zi_le, show W 0 0 ≤ c / 1000 by omega, show c / 1000 ≤ W 0 0 by omega, if_true, if_neg h1, ej]
        simp (disch := omega) only [zlet_e'] at b1
        exact b1
      · simp only [if_neg h1, ej]; exact b2
