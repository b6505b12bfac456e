/-! THE LAW'S WALK, 9: from its first instruction -/
def zMX : zMem := fun k => zM5 k
def zMM : zMem := fun j => zM5 (69 + j)
theorem st_all : ∀ k, k < 1204 → SL false (zPi k) = rsh zPi (zS5 k) ∧ ML zMM (zM5 1203) zMX (zPi k) = zM5 k := by
  intro k hk
  rcases Nat.lt_or_ge k 69 with h1 | h1
  · have e5 : zS5 k = SX false k := by
      show zupS zS4 1203 (3, 5, 1, zn) k = _
      rw [zupS_ne (by omega)]
      show cS9 69 70 zS3 k = _
      rw [cS9_old (by omega) (by omega)]
      show zupS zS2 69 (0, 9, 0, zn) k = _
      rw [zupS_ne (by omega)]
      exact st_X k h1
    rw [zPi_X h1, SL_X h1, ML_X, e5]
    refine ⟨?_, rfl⟩
    have hw : ∀ j r, (SX false k).2.2.2 j = some r → r < 69 := fun j r h => zwfG false k j r h1 h
    generalize SX false k = sh at hw
    obtain ⟨a, b, c, r⟩ := sh
    refine zsh_map (fun j x hx => ?_)
    have := hw j x hx
    rw [zPi_X this]
    unfold zrh
    rw [if_pos (by omega)]
  · rcases Nat.lt_or_ge k 1203 with h2 | h2
    · obtain ⟨j, rfl⟩ := Nat.exists_eq_add_of_le h1
      have e5 : zS5 (69 + j) = zS4 (69 + j) := zupS_ne (by omega)
      rw [zPi_M (by omega), e5, st_M j (by omega)]
      unfold SL ML
      rw [if_pos (by omega), if_pos (by omega)]
      exact ⟨rfl, rfl⟩
    · obtain rfl : k = 1203 := by omega
      exact ⟨rfl, rfl⟩
/-- no town, nothing fed -/
def zT0 : zN2 := fun k _ => match k with
  | 8 => 1
  | 9 => 1
  | _ => 0
def zW0 : zN2 := fun _ _ => 0
theorem st_TB : TB zT0 := by
  refine ⟨by decide, by decide, by decide, by decide, by decide, by decide, fun _ => ⟨rfl, rfl, rfl⟩, fun h => absurd h (by decide), fun _ => Nat.zero_le _, fun _ => Nat.zero_le _, fun _ => Nat.zero_lt_one, fun _ _ => rfl, fun a b => ?_, fun a => ?_, fun _ => ⟨Nat.le_refl 1, (by decide : (1 : Nat) ≤ 99)⟩, fun _ => ⟨Nat.le_refl 1, (by decide : (1 : Nat) ≤ 240)⟩, fun _ => Nat.zero_le _, fun _ => Nat.zero_le _, fun _ => Or.inr rfl⟩
  · show Nat.testBit 0 b = Nat.testBit 0 a
    rw [Nat.zero_testBit, Nat.zero_testBit]
  · show Nat.testBit 0 a = false
    exact Nat.zero_testBit a
theorem st_WB : WB zT0 zW0 := ⟨Nat.zero_le _, Or.inr rfl, Nat.zero_le _, Nat.zero_le _, by decide, fun _ => Nat.zero_le _, fun _ => Nat.zero_le _, fun _ _ => Nat.zero_le _, by decide⟩
theorem st_inv : zInv zMX zMM := by
  refine ⟨zT0, zW0, 0, fun _ => 0, 0, 0, fun _ => zW0, fun _ => 0, fun _ _ => 0, ⟨st_TB, st_WB, ⟨by decide, rfl, rfl, fun p hp => absurd hp (Nat.not_lt_zero p)⟩, ⟨?_, fun p hp => absurd hp (Nat.not_lt_zero p), ?_, fun p hp => absurd hp (Nat.not_lt_zero p), fun p hp => absurd hp (Nat.not_lt_zero p)⟩, ⟨?_, fun p hp => absurd hp (Nat.not_lt_zero p), ?_, fun p hp => absurd hp (Nat.not_lt_zero p), fun p hp => absurd hp (Nat.not_lt_zero p)⟩, ⟨?_, fun p hp => absurd hp (Nat.not_lt_zero p)⟩, ⟨⟨?_, Or.inl ⟨?_, by decide⟩, ?_⟩, fun p hp => absurd hp (Nat.not_lt_zero p), fun p hp => absurd hp (Nat.not_lt_zero p), ?_⟩, ?_, ⟨Nat.zero_le _, fun p hp => absurd hp (Nat.not_lt_zero p)⟩, ⟨?_, fun p hp => absurd hp (Nat.not_lt_zero p)⟩, ⟨?_, fun p hp => absurd hp (Nat.not_lt_zero p)⟩⟩, ⟨Nat.zero_le _, ?_, ?_, fun p hp => absurd hp (Nat.not_lt_zero p)⟩, ?_, ⟨Nat.zero_le _, ?_, ?_, fun p hp => absurd hp (Nat.not_lt_zero p)⟩⟩
  all_goals decide +kernel
theorem zdf_8 : ∀ j, j < 15 → defaultValue (zTy 8 j) = if zInt 8 j = true then .int 0 else .null := by decide +kernel
theorem zdf_9 : ∀ j, j < 46 → defaultValue (zTy 9 j) = if zInt 9 j = true then .int 0 else .null := by decide +kernel
theorem st_8 (hwf : zWf 1 zS1) : zM yX8_init cX8_init 1 none 4 [.ref 0] 1 zS1 zM1 (.inl none, 69, zS2, zM2, 68, 2607) := tc8 (k := 0) (n := 1) (S := zS1) (μ := zM1) hwf (by decide) rfl (by decide)
theorem st_9 (hwf : zWf 70 zS3) : zM yX9_init cX9_init 1 none 2 [.ref 69] 70 zS3 zM3 (.inl none, 1203, zS4, zM4, 1133, 554117) := tc9 (k := 69) (n := 70) (S := zS3) (μ := zM3) hwf (by decide) zupS_self (by decide)
theorem st_w8 (hwf : zWf 1 zS1) : zWf 69 zS2 := cS8_wf (k := 0) (n := 1) (S := zS1) hwf (by decide) rfl
theorem st_w9 (hwf : zWf 70 zS3) : zWf 1203 zS4 := cS9_wf (k := 69) (n := 70) (S := zS3) hwf (by decide) zupS_self
set_option maxHeartbeats 1000000 in
theorem L_start0 {len : Nat} {sc : Nat → Int32} (hl : len ≤ 3584) {c0 c1 c2 c3 c4 c5 d0 d1 d2 d3 d4 d5 : Nat} (h0 : 519 ≤ c0) (h1 : c0 + 1 ≤ c1) (h2 : c1 + 1133 ≤ c2) (h3 : c2 + 1 ≤ c3) (h4 : c3 + 68 ≤ c4) (h5 : c4 + 1 ≤ c5) (g0 : 22778 ≤ d0) (g1 : d0 + 1 ≤ d1) (g2 : d1 + 554117 ≤ d2) (g3 : d2 + 46 ≤ d3) (g4 : d3 + 2607 ≤ d4) (g5 : d4 + 15 ≤ d5) : zLW len sc yL_law cL_law 7 (some .boolean) 2048 0 [.ref 6000000, .null, .null, .null, .null, .null, .null] [] 0 zS0 zM0 c5 d5 := by
  refine yA_more h5 g5 ?_
  refine yA_new (pc := 0) (idx := 8) (ci := 8) (CC := RX8) (T := TX8) (N := 15) (ca := c4) (cb := d4) (fun k j r hk => absurd hk (Nat.not_lt_zero k)) (by decide) (by simp only [List.mem_cons, List.not_mem_nil, or_false, forall_eq_or_imp, forall_eq, ne_eq, zrefEq, reduceCtorEq, not_false_eq_true, and_true, true_and, false_implies, implies_true] <;> omega) (fun v hv => absurd hv List.not_mem_nil) rfl rfl zu_8 tyX8_ok knL_8 znL_15 ziL_15 zdf_8 dL_law_0 (fun hwf => ?_)
  have hwf : zWf 1 zS1 := hwf
  have hM := st_8 hwf
  refine yA_dup (pc := 3) dL_law_3 rfl ?_
  refine yA_more h4 g4 ?_
  refine yA_callI (pc := 4) (b := 0) (As := []) (st := [.ref 0]) (n := 1) (S := zS1) (μ := zM1) (n1 := 69) (S1 := zS2) (μ1 := zM2) (a1 := 68) (b1 := 2607) (ca := c3) (cb := d3) kiL_125 zx_X8_init rfl hM (by decide) rfl rfl (Nat.le_of_ble_eq_true rfl) (by decide) (by decide) (by simp only [List.mem_cons, List.not_mem_nil, or_false, forall_eq_or_imp, forall_eq, zltEq, reduceCtorEq, false_implies, implies_true, and_true, true_and] <;> omega) (by simp only [List.mem_cons, List.not_mem_nil, or_false, forall_eq_or_imp, forall_eq, zltEq, reduceCtorEq, false_implies, implies_true, and_true, true_and] <;> omega) dL_law_4 ?_
  have hwf : zWf 69 zS2 := st_w8 hwf
  refine yA_astore_n (pc := 7) (L' := [.ref 6000000, .ref 0, .null, .null, .null, .null, .null]) dL_law_7 (by decide) rfl ?_
  refine yA_more h3 g3 ?_
  refine yA_new (pc := 8) (idx := 126) (ci := 9) (CC := RX9) (T := TX9) (N := 46) (n := 69) (S := zS2) (μ := zM2) (ca := c2) (cb := d2) hwf (by decide) (by simp only [List.mem_cons, List.not_mem_nil, or_false, forall_eq_or_imp, forall_eq, ne_eq, zrefEq, reduceCtorEq, not_false_eq_true, and_true, true_and, false_implies, implies_true] <;> omega) (fun v hv => absurd hv List.not_mem_nil) rfl rfl zu_9 tyX9_ok knL_126 znL_46 ziL_46 zdf_9 dL_law_8 (fun hwf => ?_)
  have hwf : zWf 70 zS3 := hwf
  have hM := st_9 hwf
  refine yA_dup (pc := 11) dL_law_11 rfl ?_
  refine yA_more h2 g2 ?_
  refine yA_callI (pc := 12) (b := 69) (As := []) (st := [.ref 69]) (n := 70) (S := zS3) (μ := zM3) (n1 := 1203) (S1 := zS4) (μ1 := zM4) (a1 := 1133) (b1 := 554117) (ca := c1) (cb := d1) kiL_128 zx_X9_init rfl hM (by decide) rfl rfl (Nat.le_of_ble_eq_true rfl) (by decide) (by decide) (by simp only [List.mem_cons, List.not_mem_nil, or_false, forall_eq_or_imp, forall_eq, zltEq, reduceCtorEq, false_implies, implies_true, and_true, true_and] <;> omega) (by simp only [List.mem_cons, List.not_mem_nil, or_false, forall_eq_or_imp, forall_eq, zltEq, reduceCtorEq, false_implies, implies_true, and_true, true_and] <;> omega) dL_law_12 ?_
  have hwf : zWf 1203 zS4 := st_w9 hwf
  refine yA_astore_n (pc := 15) (L' := [.ref 6000000, .ref 0, .ref 69, .null, .null, .null, .null]) dL_law_15 (by decide) rfl ?_
  refine yA_iconst (pc := 16) (1 : Int32) dL_law_16 (by decide) ?_
  refine yA_more h1 g1 ?_
  refine yA_newl (pc := 17) (N := 1) (n := 1203) (S := zS4) (μ := zM4) (ca := c0) (cb := d0) hwf (by decide) (by simp only [List.mem_cons, List.not_mem_nil, or_false, forall_eq_or_imp, forall_eq, ne_eq, zrefEq, reduceCtorEq, not_false_eq_true, and_true, true_and, false_implies, implies_true] <;> omega) (fun v hv => absurd hv List.not_mem_nil) zal (by decide) (by decide) (by decide) dL_law_17 (fun hwf => ?_)
  refine yA_astore_n (pc := 19) (L' := [.ref 6000000, .ref 0, .ref 69, .ref 1203, .null, .null, .null]) dL_law_19 (by decide) rfl ?_
  refine yA_iconst (pc := 20) (0 : Int32) dL_law_20 (by decide) ?_
  refine yA_istore (pc := 21) (L' := [.ref 6000000, .ref 0, .ref 69, .ref 1203, .int 0, .null, .null]) dL_law_21 (by decide) rfl ?_
  refine yA_perm (π := zPi) (ρ := zRo) (n := 1204) (S := zS5) (S' := SL false) (μ := zM5) (μ' := ML zMM (zM5 1203) zMX) zRoPi zPiRo (fun k hk => zPi_far hk) (by decide) st_all ?_
  have k := L_loop (sc := sc) hl 512 false (zM5 1203) zMX zMM 0 st_inv (Nat.zero_le _) (by omega)
  exact yA_more h0 g0 k
theorem L_start {len : Nat} {sc : Nat → Int32} (hl : len ≤ 3584) : zLW len sc yL_law cL_law 7 (some .boolean) 2048 0 [.ref 6000000, .null, .null, .null, .null, .null, .null] [] 0 zS0 zM0 2000 600000 := L_start0 hl (c0 := 519) (c1 := 520) (c2 := 1653) (c3 := 1654) (c4 := 1722) (d0 := 22778) (d1 := 22779) (d2 := 576896) (d3 := 576942) (d4 := 579549) (by decide) (by decide) (by decide) (by decide) (by decide) (by decide) (by decide) (by decide) (by decide) (by decide) (by decide) (by decide)
