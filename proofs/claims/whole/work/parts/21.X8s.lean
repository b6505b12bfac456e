theorem dX8_lesserBehind_0 : decode cX8_lesserBehind 0 = .ok (.iload_n 1, 1) := by decide +kernel
theorem dX8_lesserBehind_1 : decode cX8_lesserBehind 1 = .ok (.iload_n 0, 1) := by decide +kernel
theorem dX8_lesserBehind_2 : decode cX8_lesserBehind 2 = .ok (.isub, 1) := by decide +kernel
theorem dX8_lesserBehind_3 : decode cX8_lesserBehind 3 = .ok (.istore 4, 2) := by decide +kernel
theorem dX8_lesserBehind_5 : decode cX8_lesserBehind 5 = .ok (.iload_n 2, 1) := by decide +kernel
theorem dX8_lesserBehind_6 : decode cX8_lesserBehind 6 = .ok (.iload_n 3, 1) := by decide +kernel
theorem dX8_lesserBehind_7 : decode cX8_lesserBehind 7 = .ok (.iadd, 1) := by decide +kernel
theorem dX8_lesserBehind_8 : decode cX8_lesserBehind 8 = .ok (.istore 5, 2) := by decide +kernel
theorem dX8_lesserBehind_10 : decode cX8_lesserBehind 10 = .ok (.iload 5, 2) := by decide +kernel
theorem dX8_lesserBehind_12 : decode cX8_lesserBehind 12 = .ok (.iload 4, 2) := by decide +kernel
theorem dX8_lesserBehind_14 : decode cX8_lesserBehind 14 = .ok (.if_icmp .le 8, 3) := by decide +kernel
theorem dX8_lesserBehind_17 : decode cX8_lesserBehind 17 = .ok (.iload 5, 2) := by decide +kernel
theorem dX8_lesserBehind_19 : decode cX8_lesserBehind 19 = .ok (.ifCond .gt 7, 3) := by decide +kernel
theorem dX8_lesserBehind_22 : decode cX8_lesserBehind 22 = .ok (.iload_n 0, 1) := by decide +kernel
theorem dX8_lesserBehind_23 : decode cX8_lesserBehind 23 = .ok (.iload_n 2, 1) := by decide +kernel
theorem dX8_lesserBehind_24 : decode cX8_lesserBehind 24 = .ok (.iadd, 1) := by decide +kernel
theorem dX8_lesserBehind_25 : decode cX8_lesserBehind 25 = .ok (.ireturn, 1) := by decide +kernel
theorem dX8_lesserBehind_26 : decode cX8_lesserBehind 26 = .ok (.iload_n 0, 1) := by decide +kernel
theorem dX8_lesserBehind_27 : decode cX8_lesserBehind 27 = .ok (.iload 4, 2) := by decide +kernel
theorem dX8_lesserBehind_29 : decode cX8_lesserBehind 29 = .ok (.iload_n 2, 1) := by decide +kernel
theorem dX8_lesserBehind_30 : decode cX8_lesserBehind 30 = .ok (.imul, 1) := by decide +kernel
theorem dX8_lesserBehind_31 : decode cX8_lesserBehind 31 = .ok (.iload 5, 2) := by decide +kernel
theorem dX8_lesserBehind_33 : decode cX8_lesserBehind 33 = .ok (.idiv, 1) := by decide +kernel
theorem dX8_lesserBehind_34 : decode cX8_lesserBehind 34 = .ok (.iadd, 1) := by decide +kernel
theorem dX8_lesserBehind_35 : decode cX8_lesserBehind 35 = .ok (.ireturn, 1) := by decide +kernel
theorem dX8_greaterBehind_0 : decode cX8_greaterBehind 0 = .ok (.iload_n 2, 1) := by decide +kernel
theorem dX8_greaterBehind_1 : decode cX8_greaterBehind 1 = .ok (.iload_n 3, 1) := by decide +kernel
theorem dX8_greaterBehind_2 : decode cX8_greaterBehind 2 = .ok (.iadd, 1) := by decide +kernel
theorem dX8_greaterBehind_3 : decode cX8_greaterBehind 3 = .ok (.iload_n 1, 1) := by decide +kernel
theorem dX8_greaterBehind_4 : decode cX8_greaterBehind 4 = .ok (.iload_n 0, 1) := by decide +kernel
theorem dX8_greaterBehind_5 : decode cX8_greaterBehind 5 = .ok (.isub, 1) := by decide +kernel
theorem dX8_greaterBehind_6 : decode cX8_greaterBehind 6 = .ok (.if_icmp .gt 7, 3) := by decide +kernel
theorem dX8_greaterBehind_9 : decode cX8_greaterBehind 9 = .ok (.iload_n 1, 1) := by decide +kernel
theorem dX8_greaterBehind_10 : decode cX8_greaterBehind 10 = .ok (.iload_n 3, 1) := by decide +kernel
theorem dX8_greaterBehind_11 : decode cX8_greaterBehind 11 = .ok (.isub, 1) := by decide +kernel
theorem dX8_greaterBehind_12 : decode cX8_greaterBehind 12 = .ok (.ireturn, 1) := by decide +kernel
theorem dX8_greaterBehind_13 : decode cX8_greaterBehind 13 = .ok (.iload_n 0, 1) := by decide +kernel
theorem dX8_greaterBehind_14 : decode cX8_greaterBehind 14 = .ok (.iload_n 1, 1) := by decide +kernel
theorem dX8_greaterBehind_15 : decode cX8_greaterBehind 15 = .ok (.iload_n 2, 1) := by decide +kernel
theorem dX8_greaterBehind_16 : decode cX8_greaterBehind 16 = .ok (.iload_n 3, 1) := by decide +kernel
theorem dX8_greaterBehind_17 : decode cX8_greaterBehind 17 = .ok (.invokestatic 392, 3) := by decide +kernel
theorem dX8_greaterBehind_20 : decode cX8_greaterBehind 20 = .ok (.ireturn, 1) := by decide +kernel
theorem dX8_workCode_0 : decode cX8_workCode 0 = .ok (.bipush 100, 2) := by decide +kernel
theorem dX8_workCode_2 : decode cX8_workCode 2 = .ok (.iload_n 0, 1) := by decide +kernel
theorem dX8_workCode_3 : decode cX8_workCode 3 = .ok (.imul, 1) := by decide +kernel
theorem dX8_workCode_4 : decode cX8_workCode 4 = .ok (.bipush 10, 2) := by decide +kernel
theorem dX8_workCode_6 : decode cX8_workCode 6 = .ok (.iload_n 1, 1) := by decide +kernel
theorem dX8_workCode_7 : decode cX8_workCode 7 = .ok (.imul, 1) := by decide +kernel
theorem dX8_workCode_8 : decode cX8_workCode 8 = .ok (.iadd, 1) := by decide +kernel
theorem dX8_workCode_9 : decode cX8_workCode 9 = .ok (.iload_n 2, 1) := by decide +kernel
theorem dX8_workCode_10 : decode cX8_workCode 10 = .ok (.iadd, 1) := by decide +kernel
theorem dX8_workCode_11 : decode cX8_workCode 11 = .ok (.ireturn, 1) := by decide +kernel
theorem dX8_doorOfRow_0 : decode cX8_doorOfRow 0 = .ok (.iload_n 0, 1) := by decide +kernel
theorem dX8_doorOfRow_1 : decode cX8_doorOfRow 1 = .ok (.bipush 100, 2) := by decide +kernel
theorem dX8_doorOfRow_3 : decode cX8_doorOfRow 3 = .ok (.idiv, 1) := by decide +kernel
theorem dX8_doorOfRow_4 : decode cX8_doorOfRow 4 = .ok (.bipush 10, 2) := by decide +kernel
theorem dX8_doorOfRow_6 : decode cX8_doorOfRow 6 = .ok (.irem, 1) := by decide +kernel
theorem dX8_doorOfRow_7 : decode cX8_doorOfRow 7 = .ok (.ireturn, 1) := by decide +kernel
def f8_lesserBehind (x0 : Int32) (x1 : Int32) (x2 : Int32) (x3 : Int32) (μ : zMem) : zRes := zlet (x1 - x0) (fun (v1 : Int32) => zlet (x2 + x3) (fun (v2 : Int32) => zlet (some (0, x0 + x2, μ)) (fun j3 => if v2 ≤ v1 then j3 else if 0 < v2 then znz v2 (some (0, x0 + ((v1 * x2) / v2), μ)) else j3)))
set_option maxHeartbeats 1000000 in
theorem t8_lesserBehind {g : Bool} (x0 : Int32) (x1 : Int32) (x2 : Int32) (x3 : Int32) (μ : zMem) : zMR yX8_lesserBehind cX8_lesserBehind 6 (some .int) 1 [.int x0, .int x1, .int x2, .int x3] (nX g) (SX g) μ (f8_lesserBehind x0 x1 x2 x3 μ) := by
  refine zMR_of (by decide +kernel) rfl (Nat.le_of_ble_eq_true rfl) (L := [.int x0, .int x1, .int x2, .int x3, .null, .null]) rfl ?_
  unfold f8_lesserBehind
  refine z_iload_n (pc := 0) dX8_lesserBehind_0 rfl ?_
  refine z_iload_n (pc := 1) dX8_lesserBehind_1 rfl ?_
  refine z_isub (pc := 2) dX8_lesserBehind_2 ?_
  refine z_val (fun v1 => ?_)
  refine z_istore (pc := 3) (L' := [.int x0, .int x1, .int x2, .int x3, .int v1, .null]) dX8_lesserBehind_3 (by decide) rfl ?_
  refine z_iload_n (pc := 5) dX8_lesserBehind_5 rfl ?_
  refine z_iload_n (pc := 6) dX8_lesserBehind_6 rfl ?_
  refine z_iadd (pc := 7) dX8_lesserBehind_7 ?_
  refine z_val (fun v2 => ?_)
  refine z_istore (pc := 8) (L' := [.int x0, .int x1, .int x2, .int x3, .int v1, .int v2]) dX8_lesserBehind_8 (by decide) rfl ?_
  refine z_iload (pc := 10) dX8_lesserBehind_10 rfl ?_
  refine z_iload (pc := 12) dX8_lesserBehind_12 rfl ?_
  refine z_let (fun (j : zRes) => zR yX8_lesserBehind cX8_lesserBehind 6 (some .int) 1 22 [.int x0, .null, .int x2, .null, .null, .null] [] (nX g) (SX g) μ (j)) ?_ (fun j3 hj3 => ?_)
  · refine z_iload_n (pc := 22) dX8_lesserBehind_22 rfl ?_
    refine z_iload_n (pc := 23) dX8_lesserBehind_23 rfl ?_
    refine z_iadd (pc := 24) dX8_lesserBehind_24 ?_
    exact z_iret (pc := 25) rfl dX8_lesserBehind_25
  · refine z_icmp_le (pc := 14) (tgt := 22) dX8_lesserBehind_14 (by decide) (fun c4 => ?_) (fun c5 => ?_)
    · refine z_loc (L' := [.int x0, .null, .int x2, .null, .null, .null]) ⟨Or.inr rfl, ⟨Or.inl rfl, ⟨Or.inr rfl, ⟨Or.inl rfl, ⟨Or.inl rfl, ⟨Or.inl rfl, trivial⟩⟩⟩⟩⟩⟩ ?_
      exact hj3
    · refine z_iload (pc := 17) dX8_lesserBehind_17 rfl ?_
      refine z_if_gt (pc := 19) (tgt := 26) dX8_lesserBehind_19 (by decide) (fun c6 => ?_) (fun c7 => ?_)
      · refine z_iload_n (pc := 26) dX8_lesserBehind_26 rfl ?_
        refine z_iload (pc := 27) dX8_lesserBehind_27 rfl ?_
        refine z_iload_n (pc := 29) dX8_lesserBehind_29 rfl ?_
        refine z_imul (pc := 30) dX8_lesserBehind_30 ?_
        refine z_iload (pc := 31) dX8_lesserBehind_31 rfl ?_
        refine z_idiv (pc := 33) dX8_lesserBehind_33 (fun h8 => ?_)
        refine z_iadd (pc := 34) dX8_lesserBehind_34 ?_
        exact z_iret (pc := 35) rfl dX8_lesserBehind_35
      · refine z_loc (L' := [.int x0, .null, .int x2, .null, .null, .null]) ⟨Or.inr rfl, ⟨Or.inl rfl, ⟨Or.inr rfl, ⟨Or.inl rfl, ⟨Or.inl rfl, ⟨Or.inl rfl, trivial⟩⟩⟩⟩⟩⟩ ?_
        exact hj3
def f8_greaterBehind (x0 : Int32) (x1 : Int32) (x2 : Int32) (x3 : Int32) (μ : zMem) : zRes := if (x1 - x0) < (x2 + x3) then bnd0 (f8_lesserBehind x0 x1 x2 x3 μ) (fun (v3 : Int32) (μ4 : zMem) => some (0, v3, μ4)) else some (0, x1 - x3, μ)
set_option maxHeartbeats 1000000 in
theorem t8_greaterBehind {g : Bool} (x0 : Int32) (x1 : Int32) (x2 : Int32) (x3 : Int32) (μ : zMem) : zMR yX8_greaterBehind cX8_greaterBehind 4 (some .int) 2 [.int x0, .int x1, .int x2, .int x3] (nX g) (SX g) μ (f8_greaterBehind x0 x1 x2 x3 μ) := by
  refine zMR_of (by decide +kernel) rfl (Nat.le_of_ble_eq_true rfl) (L := [.int x0, .int x1, .int x2, .int x3]) rfl ?_
  unfold f8_greaterBehind
  refine z_iload_n (pc := 0) dX8_greaterBehind_0 rfl ?_
  refine z_iload_n (pc := 1) dX8_greaterBehind_1 rfl ?_
  refine z_iadd (pc := 2) dX8_greaterBehind_2 ?_
  refine z_iload_n (pc := 3) dX8_greaterBehind_3 rfl ?_
  refine z_iload_n (pc := 4) dX8_greaterBehind_4 rfl ?_
  refine z_isub (pc := 5) dX8_greaterBehind_5 ?_
  refine z_icmp_gt (pc := 6) (tgt := 13) dX8_greaterBehind_6 (by decide) (fun c1 => ?_) (fun c2 => ?_)
  · refine z_iload_n (pc := 13) dX8_greaterBehind_13 rfl ?_
    refine z_iload_n (pc := 14) dX8_greaterBehind_14 rfl ?_
    refine z_iload_n (pc := 15) dX8_greaterBehind_15 rfl ?_
    refine z_iload_n (pc := 16) dX8_greaterBehind_16 rfl ?_
    refine z_callS (As := [.int x0, .int x1, .int x2, .int x3]) (pc := 17) (ret' := some .int) ksX8_392 (t8_lesserBehind _ _ _ _ _) (by decide)  rfl rfl (Nat.le_of_ble_eq_true rfl) dX8_greaterBehind_17 (fun v3 μ4 => ?_)
    exact z_iret (pc := 20) rfl dX8_greaterBehind_20
  · refine z_iload_n (pc := 9) dX8_greaterBehind_9 rfl ?_
    refine z_iload_n (pc := 10) dX8_greaterBehind_10 rfl ?_
    refine z_isub (pc := 11) dX8_greaterBehind_11 ?_
    exact z_iret (pc := 12) rfl dX8_greaterBehind_12
def f8_workCode (x0 : Int32) (x1 : Int32) (x2 : Int32) (μ : zMem) : zRes := some (0, (((100 : Int32) * x0) + ((10 : Int32) * x1)) + x2, μ)
set_option maxHeartbeats 1000000 in
theorem t8_workCode {g : Bool} (x0 : Int32) (x1 : Int32) (x2 : Int32) (μ : zMem) : zMR yX8_workCode cX8_workCode 3 (some .int) 1 [.int x0, .int x1, .int x2] (nX g) (SX g) μ (f8_workCode x0 x1 x2 μ) := by
  refine zMR_of (by decide +kernel) rfl (Nat.le_of_ble_eq_true rfl) (L := [.int x0, .int x1, .int x2]) rfl ?_
  unfold f8_workCode
  refine z_bipush (pc := 0) (100 : Int32) dX8_workCode_0 (by decide) ?_
  refine z_iload_n (pc := 2) dX8_workCode_2 rfl ?_
  refine z_imul (pc := 3) dX8_workCode_3 ?_
  refine z_bipush (pc := 4) (10 : Int32) dX8_workCode_4 (by decide) ?_
  refine z_iload_n (pc := 6) dX8_workCode_6 rfl ?_
  refine z_imul (pc := 7) dX8_workCode_7 ?_
  refine z_iadd (pc := 8) dX8_workCode_8 ?_
  refine z_iload_n (pc := 9) dX8_workCode_9 rfl ?_
  refine z_iadd (pc := 10) dX8_workCode_10 ?_
  exact z_iret (pc := 11) rfl dX8_workCode_11
def f8_doorOfRow (x0 : Int32) (μ : zMem) : zRes := some (0, zrem (x0 / (100 : Int32)) (10 : Int32), μ)
set_option maxHeartbeats 1000000 in
theorem t8_doorOfRow {g : Bool} (x0 : Int32) (μ : zMem) : zMR yX8_doorOfRow cX8_doorOfRow 1 (some .int) 1 [.int x0] (nX g) (SX g) μ (f8_doorOfRow x0 μ) := by
  refine zMR_of (by decide +kernel) rfl (Nat.le_of_ble_eq_true rfl) (L := [.int x0]) rfl ?_
  unfold f8_doorOfRow
  refine z_iload_n (pc := 0) dX8_doorOfRow_0 rfl ?_
  refine z_bipush (pc := 1) (100 : Int32) dX8_doorOfRow_1 (by decide) ?_
  refine z_idivc (pc := 3) dX8_doorOfRow_3 (by decide) ?_
  refine z_bipush (pc := 4) (10 : Int32) dX8_doorOfRow_4 (by decide) ?_
  refine z_iremc (pc := 6) dX8_doorOfRow_6 (by decide) ?_
  exact z_iret (pc := 7) rfl dX8_doorOfRow_7
