def fJ6_bitCount_0f7a4 (x0 : Int32) (μ : zMem) : zRes := zlet (x0 - ((zushr x0 (1 : Int32)) &&& (1431655765 : Int32))) (fun (v1 : Int32) => zlet ((v1 &&& (858993459 : Int32)) + ((zushr v1 (2 : Int32)) &&& (858993459 : Int32))) (fun (v2 : Int32) => zlet ((v2 + (zushr v2 (4 : Int32))) &&& (252645135 : Int32)) (fun (v3 : Int32) => zlet (v3 + (zushr v3 (8 : Int32))) (fun (v4 : Int32) => zlet (v4 + (zushr v4 (16 : Int32))) (fun (v5 : Int32) => some (0, v5 &&& (63 : Int32), μ))))))
set_option maxHeartbeats 1000000 in
theorem tJ6_bitCount_0f7a4 {nn : Nat} {SS : Nat → zSh} (x0 : Int32) (μ : zMem) : zMR yJ6_bitCount_0f7a4 cJ6_bitCount_0f7a4 1 (some .int) 1 [.int x0] nn SS μ (fJ6_bitCount_0f7a4 x0 μ) := by
  refine zMR_of (by decide +kernel) rfl (Nat.le_of_ble_eq_true rfl) (L := [.int x0]) rfl ?_
  unfold fJ6_bitCount_0f7a4
  refine z_iload_n (pc := 0) dJ6_bitCount_0f7a4_0 rfl ?_
  refine z_iload_n (pc := 1) dJ6_bitCount_0f7a4_1 rfl ?_
  refine z_iconst (pc := 2) (1 : Int32) dJ6_bitCount_0f7a4_2 (by decide) ?_
  refine z_iushr (pc := 3) dJ6_bitCount_0f7a4_3 ?_
  refine z_ldcw (pc := 4) (1431655765 : Int32) kcJ6_265 dJ6_bitCount_0f7a4_4 ?_
  refine z_iand (pc := 7) dJ6_bitCount_0f7a4_7 ?_
  refine z_isub (pc := 8) dJ6_bitCount_0f7a4_8 ?_
  refine z_val (fun v1 => ?_)
  refine z_istore_n (pc := 9) (L' := [.int v1]) dJ6_bitCount_0f7a4_9 (by decide) rfl ?_
  refine z_iload_n (pc := 10) dJ6_bitCount_0f7a4_10 rfl ?_
  refine z_ldcw (pc := 11) (858993459 : Int32) kcJ6_266 dJ6_bitCount_0f7a4_11 ?_
  refine z_iand (pc := 14) dJ6_bitCount_0f7a4_14 ?_
  refine z_iload_n (pc := 15) dJ6_bitCount_0f7a4_15 rfl ?_
  refine z_iconst (pc := 16) (2 : Int32) dJ6_bitCount_0f7a4_16 (by decide) ?_
  refine z_iushr (pc := 17) dJ6_bitCount_0f7a4_17 ?_
  refine z_ldcw (pc := 18) (858993459 : Int32) kcJ6_266 dJ6_bitCount_0f7a4_18 ?_
  refine z_iand (pc := 21) dJ6_bitCount_0f7a4_21 ?_
  refine z_iadd (pc := 22) dJ6_bitCount_0f7a4_22 ?_
  refine z_val (fun v2 => ?_)
  refine z_istore_n (pc := 23) (L' := [.int v2]) dJ6_bitCount_0f7a4_23 (by decide) rfl ?_
  refine z_iload_n (pc := 24) dJ6_bitCount_0f7a4_24 rfl ?_
  refine z_iload_n (pc := 25) dJ6_bitCount_0f7a4_25 rfl ?_
  refine z_iconst (pc := 26) (4 : Int32) dJ6_bitCount_0f7a4_26 (by decide) ?_
  refine z_iushr (pc := 27) dJ6_bitCount_0f7a4_27 ?_
  refine z_iadd (pc := 28) dJ6_bitCount_0f7a4_28 ?_
  refine z_ldcw (pc := 29) (252645135 : Int32) kcJ6_267 dJ6_bitCount_0f7a4_29 ?_
  refine z_iand (pc := 32) dJ6_bitCount_0f7a4_32 ?_
  refine z_val (fun v3 => ?_)
  refine z_istore_n (pc := 33) (L' := [.int v3]) dJ6_bitCount_0f7a4_33 (by decide) rfl ?_
  refine z_iload_n (pc := 34) dJ6_bitCount_0f7a4_34 rfl ?_
  refine z_iload_n (pc := 35) dJ6_bitCount_0f7a4_35 rfl ?_
  refine z_bipush (pc := 36) (8 : Int32) dJ6_bitCount_0f7a4_36 (by decide) ?_
  refine z_iushr (pc := 38) dJ6_bitCount_0f7a4_38 ?_
  refine z_iadd (pc := 39) dJ6_bitCount_0f7a4_39 ?_
  refine z_val (fun v4 => ?_)
  refine z_istore_n (pc := 40) (L' := [.int v4]) dJ6_bitCount_0f7a4_40 (by decide) rfl ?_
  refine z_iload_n (pc := 41) dJ6_bitCount_0f7a4_41 rfl ?_
  refine z_iload_n (pc := 42) dJ6_bitCount_0f7a4_42 rfl ?_
  refine z_bipush (pc := 43) (16 : Int32) dJ6_bitCount_0f7a4_43 (by decide) ?_
  refine z_iushr (pc := 45) dJ6_bitCount_0f7a4_45 ?_
  refine z_iadd (pc := 46) dJ6_bitCount_0f7a4_46 ?_
  refine z_val (fun v5 => ?_)
  refine z_istore_n (pc := 47) (L' := [.int v5]) dJ6_bitCount_0f7a4_47 (by decide) rfl ?_
  refine z_iload_n (pc := 48) dJ6_bitCount_0f7a4_48 rfl ?_
  refine z_bipush (pc := 49) (63 : Int32) dJ6_bitCount_0f7a4_49 (by decide) ?_
  refine z_iand (pc := 51) dJ6_bitCount_0f7a4_51 ?_
  exact z_iret (pc := 52) rfl dJ6_bitCount_0f7a4_52
def fJ6_compare_7cf53 (x0 : Int32) (x1 : Int32) (μ : zMem) : zRes := zlet (fun (s1 : Int32) => some (0, s1, μ)) (fun j2 => if x1 ≤ x0 then if x0 = x1 then j2 (0 : Int32) else j2 (1 : Int32) else j2 (-1 : Int32))
set_option maxHeartbeats 1000000 in
theorem tJ6_compare_7cf53 {nn : Nat} {SS : Nat → zSh} (x0 : Int32) (x1 : Int32) (μ : zMem) : zMR yJ6_compare_7cf53 cJ6_compare_7cf53 2 (some .int) 1 [.int x0, .int x1] nn SS μ (fJ6_compare_7cf53 x0 x1 μ) := by
  refine zMR_of (by decide +kernel) rfl (Nat.le_of_ble_eq_true rfl) (L := [.int x0, .int x1]) rfl ?_
  unfold fJ6_compare_7cf53
  refine z_iload_n (pc := 0) dJ6_compare_7cf53_0 rfl ?_
  refine z_iload_n (pc := 1) dJ6_compare_7cf53_1 rfl ?_
  refine z_let (fun (j : Int32 → zRes) => ∀ (s1 : Int32), zR yJ6_compare_7cf53 cJ6_compare_7cf53 2 (some .int) 1 19 [.null, .null] [.int s1] nn SS μ (j s1)) ?_ (fun j2 hj2 => ?_)
  · intro s1
    exact z_iret (pc := 19) rfl dJ6_compare_7cf53_19
  · refine z_icmp_ge (pc := 2) (tgt := 9) dJ6_compare_7cf53_2 (by decide) (fun c3 => ?_) (fun c4 => ?_)
    · refine z_iload_n (pc := 9) dJ6_compare_7cf53_9 rfl ?_
      refine z_iload_n (pc := 10) dJ6_compare_7cf53_10 rfl ?_
      refine z_icmp_ne (pc := 11) (tgt := 18) dJ6_compare_7cf53_11 (by decide) (fun c5 => ?_) (fun c6 => ?_)
      · refine z_iconst (pc := 18) (1 : Int32) dJ6_compare_7cf53_18 (by decide) ?_
        refine z_loc (L' := [.null, .null]) ⟨Or.inl rfl, ⟨Or.inl rfl, trivial⟩⟩ ?_
        exact hj2 (1 : Int32)
      · refine z_iconst (pc := 14) (0 : Int32) dJ6_compare_7cf53_14 (by decide) ?_
        refine z_goto (pc := 15) (tgt := 19) dJ6_compare_7cf53_15 (by decide) ?_
        refine z_loc (L' := [.null, .null]) ⟨Or.inl rfl, ⟨Or.inl rfl, trivial⟩⟩ ?_
        exact hj2 (0 : Int32)
    · refine z_iconst (pc := 5) (-1 : Int32) dJ6_compare_7cf53_5 (by decide) ?_
      refine z_goto (pc := 6) (tgt := 19) dJ6_compare_7cf53_6 (by decide) ?_
      refine z_loc (L' := [.null, .null]) ⟨Or.inl rfl, ⟨Or.inl rfl, trivial⟩⟩ ?_
      exact hj2 (-1 : Int32)
def f5_thought (k : Nat) (x1 : Int32) (x2 : Int32) (μ : zMem) : zRes := zin ((x1 * (4 : Int32)) + x2) 36 (some (0, μ (k + 1) ((x1 * (4 : Int32)) + x2).toNatClampNeg, μ))
set_option maxHeartbeats 1000000 in
theorem t5_thought {g : Bool} {k : Nat} (hk : zSc k) (x1 : Int32) (x2 : Int32) (μ : zMem) : zMR yX5_thought cX5_thought 3 (some .int) 1 [.ref k, .int x1, .int x2] (nX g) (SX g) μ (f5_thought k x1 x2 μ) := by
  refine zMR_of (by decide +kernel) rfl (Nat.le_of_ble_eq_true rfl) (L := [.ref k, .int x1, .int x2]) rfl ?_
  unfold f5_thought
  refine z_aload_n (pc := 0) dX5_thought_0 rfl ?_
  refine z_getr (pc := 1) fdX5_27 (sxs_lt0 hk) (sxs_0 g hk) rfl rfl dX5_thought_1 ?_
  refine z_iload_n (pc := 4) dX5_thought_4 rfl ?_
  refine z_iconst (pc := 5) (4 : Int32) dX5_thought_5 (by decide) ?_
  refine z_imul (pc := 6) dX5_thought_6 ?_
  refine z_iload_n (pc := 7) dX5_thought_7 rfl ?_
  refine z_iadd (pc := 8) dX5_thought_8 ?_
  refine z_iald (pc := 9) (sxs_lt (j := 1) hk (by decide)) (sxs_1 g hk) rfl dX5_thought_9 (fun h1 => ?_)
  exact z_iret (pc := 10) rfl dX5_thought_10
def f7_areKin (x1 : Int32) (x2 : Int32) (μ : zMem) : zRes := zin x1 9 (zlet (fun (s2 : Int32) => zbl s2 (some (0, s2, μ))) (fun j3 => if ((zshr (μ 7 x1.toNatClampNeg) x2) &&& (1 : Int32)) = 0 then j3 (0 : Int32) else j3 (1 : Int32)))
set_option maxHeartbeats 1000000 in
theorem t7_areKin {g : Bool} (x1 : Int32) (x2 : Int32) (μ : zMem) : zMR yX7_areKin cX7_areKin 3 (some .boolean) 1 [.ref 2, .int x1, .int x2] (nX g) (SX g) μ (f7_areKin x1 x2 μ) := by
  refine zMR_of (by decide +kernel) rfl (Nat.le_of_ble_eq_true rfl) (L := [.ref 2, .int x1, .int x2]) rfl ?_
  unfold f7_areKin
  refine z_aload_n (pc := 0) dX7_areKin_0 rfl ?_
  refine z_getr (pc := 1) fdX7_43 (nx_lt (by decide)) (sx_2 g) rfl rfl dX7_areKin_1 ?_
  refine z_iload_n (pc := 4) dX7_areKin_4 rfl ?_
  refine z_iald (pc := 5) (nx_lt (by decide)) (sx_7 g) rfl dX7_areKin_5 (fun h1 => ?_)
  refine z_iload_n (pc := 6) dX7_areKin_6 rfl ?_
  refine z_ishr (pc := 7) dX7_areKin_7 ?_
  refine z_iconst (pc := 8) (1 : Int32) dX7_areKin_8 (by decide) ?_
  refine z_iand (pc := 9) dX7_areKin_9 ?_
  refine z_let (fun (j : Int32 → zRes) => ∀ (s2 : Int32), zR yX7_areKin cX7_areKin 3 (some .boolean) 1 18 [.null, .null, .null] [.int s2] (nX g) (SX g) μ (j s2)) ?_ (fun j3 hj3 => ?_)
  · intro s2
    exact z_zret (pc := 18) rfl dX7_areKin_18
  · refine z_if_eq (pc := 10) (tgt := 17) dX7_areKin_10 (by decide) (fun c4 => ?_) (fun c5 => ?_)
    · refine z_iconst (pc := 17) (0 : Int32) dX7_areKin_17 (by decide) ?_
      refine z_loc (L' := [.null, .null, .null]) ⟨Or.inl rfl, ⟨Or.inl rfl, ⟨Or.inl rfl, trivial⟩⟩⟩ ?_
      exact hj3 (0 : Int32)
    · refine z_iconst (pc := 13) (1 : Int32) dX7_areKin_13 (by decide) ?_
      refine z_goto (pc := 14) (tgt := 18) dX7_areKin_14 (by decide) ?_
      refine z_loc (L' := [.null, .null, .null]) ⟨Or.inl rfl, ⟨Or.inl rfl, ⟨Or.inl rfl, trivial⟩⟩⟩ ?_
      exact hj3 (1 : Int32)
def f5_isOpen (k : Nat) (x1 : Int32) (μ : zMem) : zRes := zlet (fun (s1 : Int32) => zbl s1 (some (0, s1, μ))) (fun j2 => if ((zshr (μ k 5) x1) &&& (1 : Int32)) = 0 then j2 (0 : Int32) else j2 (1 : Int32))
set_option maxHeartbeats 1000000 in
theorem t5_isOpen {g : Bool} {k : Nat} (hk : zSc k) (x1 : Int32) (μ : zMem) : zMR yX5_isOpen cX5_isOpen 2 (some .boolean) 1 [.ref k, .int x1] (nX g) (SX g) μ (f5_isOpen k x1 μ) := by
  refine zMR_of (by decide +kernel) rfl (Nat.le_of_ble_eq_true rfl) (L := [.ref k, .int x1]) rfl ?_
  unfold f5_isOpen
  refine z_aload_n (pc := 0) dX5_isOpen_0 rfl ?_
  refine z_geti (pc := 1) fdX5_24 (sxs_lt0 hk) (sxs_0 g hk) rfl dX5_isOpen_1 ?_
  refine z_iload_n (pc := 4) dX5_isOpen_4 rfl ?_
  refine z_ishr (pc := 5) dX5_isOpen_5 ?_
  refine z_iconst (pc := 6) (1 : Int32) dX5_isOpen_6 (by decide) ?_
  refine z_iand (pc := 7) dX5_isOpen_7 ?_
  refine z_let (fun (j : Int32 → zRes) => ∀ (s1 : Int32), zR yX5_isOpen cX5_isOpen 2 (some .boolean) 1 16 [.null, .null] [.int s1] (nX g) (SX g) μ (j s1)) ?_ (fun j2 hj2 => ?_)
  · intro s1
    exact z_zret (pc := 16) rfl dX5_isOpen_16
  · refine z_if_eq (pc := 8) (tgt := 15) dX5_isOpen_8 (by decide) (fun c3 => ?_) (fun c4 => ?_)
    · refine z_iconst (pc := 15) (0 : Int32) dX5_isOpen_15 (by decide) ?_
      refine z_loc (L' := [.null, .null]) ⟨Or.inl rfl, ⟨Or.inl rfl, trivial⟩⟩ ?_
      exact hj2 (0 : Int32)
    · refine z_iconst (pc := 11) (1 : Int32) dX5_isOpen_11 (by decide) ?_
      refine z_goto (pc := 12) (tgt := 16) dX5_isOpen_12 (by decide) ?_
      refine z_loc (L' := [.null, .null]) ⟨Or.inl rfl, ⟨Or.inl rfl, trivial⟩⟩ ?_
      exact hj2 (1 : Int32)
def f5_isTooLate (k : Nat) (x1 : Int32) (μ : zMem) : zRes := zin x1 10 (zlet (fun (s2 : Int32) => zbl s2 (some (0, s2, μ))) (fun j3 => if (μ k 1) ≤ (μ 10 x1.toNatClampNeg) then j3 (0 : Int32) else j3 (1 : Int32)))
set_option maxHeartbeats 1000000 in
theorem t5_isTooLate {g : Bool} {k : Nat} (hk : zSc k) (x1 : Int32) (μ : zMem) : zMR yX5_isTooLate cX5_isTooLate 2 (some .boolean) 1 [.ref k, .int x1] (nX g) (SX g) μ (f5_isTooLate k x1 μ) := by
  refine zMR_of (by decide +kernel) rfl (Nat.le_of_ble_eq_true rfl) (L := [.ref k, .int x1]) rfl ?_
  unfold f5_isTooLate
  refine z_aload_n (pc := 0) dX5_isTooLate_0 rfl ?_
  refine z_geti (pc := 1) fdX5_9 (sxs_lt0 hk) (sxs_0 g hk) rfl dX5_isTooLate_1 ?_
  refine z_aload_n (pc := 4) dX5_isTooLate_4 rfl ?_
  refine z_getr (pc := 5) fdX5_43 (sxs_lt0 hk) (sxs_0 g hk) rfl rfl dX5_isTooLate_5 ?_
  refine z_getr (pc := 8) fdX5_105 (nx_lt (by decide)) (sx_2 g) rfl rfl dX5_isTooLate_8 ?_
  refine z_iload_n (pc := 11) dX5_isTooLate_11 rfl ?_
  refine z_iald (pc := 12) (nx_lt (by decide)) (sx_10 g) rfl dX5_isTooLate_12 (fun h1 => ?_)
  refine z_let (fun (j : Int32 → zRes) => ∀ (s2 : Int32), zR yX5_isTooLate cX5_isTooLate 2 (some .boolean) 1 21 [.null, .null] [.int s2] (nX g) (SX g) μ (j s2)) ?_ (fun j3 hj3 => ?_)
  · intro s2
    exact z_zret (pc := 21) rfl dX5_isTooLate_21
  · refine z_icmp_le (pc := 13) (tgt := 20) dX5_isTooLate_13 (by decide) (fun c4 => ?_) (fun c5 => ?_)
    · refine z_iconst (pc := 20) (0 : Int32) dX5_isTooLate_20 (by decide) ?_
      refine z_loc (L' := [.null, .null]) ⟨Or.inl rfl, ⟨Or.inl rfl, trivial⟩⟩ ?_
      exact hj3 (0 : Int32)
    · refine z_iconst (pc := 16) (1 : Int32) dX5_isTooLate_16 (by decide) ?_
      refine z_goto (pc := 17) (tgt := 21) dX5_isTooLate_17 (by decide) ?_
      refine z_loc (L' := [.null, .null]) ⟨Or.inl rfl, ⟨Or.inl rfl, trivial⟩⟩ ?_
      exact hj3 (1 : Int32)
def f5_questionOf (k : Nat) (x1 : Int32) (μ : zMem) : zRes := zin x1 10 (zlet (fun (s2 : Int32) => some (0, s2, μ)) (fun j3 => if (μ 11 x1.toNatClampNeg) = (-1 : Int32) then j3 (μ k 2) else zin x1 10 (j3 (μ 11 x1.toNatClampNeg))))
set_option maxHeartbeats 1000000 in
theorem t5_questionOf {g : Bool} {k : Nat} (hk : zSc k) (x1 : Int32) (μ : zMem) : zMR yX5_questionOf cX5_questionOf 2 (some .int) 1 [.ref k, .int x1] (nX g) (SX g) μ (f5_questionOf k x1 μ) := by
  refine zMR_of (by decide +kernel) rfl (Nat.le_of_ble_eq_true rfl) (L := [.ref k, .int x1]) rfl ?_
  unfold f5_questionOf
  refine z_aload_n (pc := 0) dX5_questionOf_0 rfl ?_
  refine z_getr (pc := 1) fdX5_43 (sxs_lt0 hk) (sxs_0 g hk) rfl rfl dX5_questionOf_1 ?_
  refine z_getr (pc := 4) fdX5_108 (nx_lt (by decide)) (sx_2 g) rfl rfl dX5_questionOf_4 ?_
  refine z_iload_n (pc := 7) dX5_questionOf_7 rfl ?_
  refine z_iald (pc := 8) (nx_lt (by decide)) (sx_11 g) rfl dX5_questionOf_8 (fun h1 => ?_)
  refine z_iconst (pc := 9) (-1 : Int32) dX5_questionOf_9 (by decide) ?_
  refine z_let (fun (j : Int32 → zRes) => ∀ (s2 : Int32), zR yX5_questionOf cX5_questionOf 2 (some .int) 1 29 [.null, .null] [.int s2] (nX g) (SX g) μ (j s2)) ?_ (fun j3 hj3 => ?_)
  · intro s2
    exact z_iret (pc := 29) rfl dX5_questionOf_29
  · refine z_icmp_ne (pc := 10) (tgt := 20) dX5_questionOf_10 (by decide) (fun c4 => ?_) (fun c5 => ?_)
    · refine z_aload_n (pc := 20) dX5_questionOf_20 rfl ?_
      refine z_getr (pc := 21) fdX5_43 (sxs_lt0 hk) (sxs_0 g hk) rfl rfl dX5_questionOf_21 ?_
      refine z_getr (pc := 24) fdX5_108 (nx_lt (by decide)) (sx_2 g) rfl rfl dX5_questionOf_24 ?_
      refine z_iload_n (pc := 27) dX5_questionOf_27 rfl ?_
      refine z_iald (pc := 28) (nx_lt (by decide)) (sx_11 g) rfl dX5_questionOf_28 (fun h6 => ?_)
      refine z_loc (L' := [.null, .null]) ⟨Or.inl rfl, ⟨Or.inl rfl, trivial⟩⟩ ?_
      exact hj3 (μ 11 x1.toNatClampNeg)
    · refine z_aload_n (pc := 13) dX5_questionOf_13 rfl ?_
      refine z_geti (pc := 14) fdX5_15 (sxs_lt0 hk) (sxs_0 g hk) rfl dX5_questionOf_14 ?_
      refine z_goto (pc := 17) (tgt := 29) dX5_questionOf_17 (by decide) ?_
      refine z_loc (L' := [.null, .null]) ⟨Or.inl rfl, ⟨Or.inl rfl, trivial⟩⟩ ?_
      exact hj3 (μ k 2)
def f5_apart (k : Nat) (x1 : Int32) (x2 : Int32) (x3 : Int32) (μ : zMem) : zRes := zin ((x1 * (4 : Int32)) + x3) 36 (zlet (μ (k + 1) ((x1 * (4 : Int32)) + x3).toNatClampNeg) (fun (v2 : Int32) => zin ((x2 * (4 : Int32)) + x3) 36 (some (0, zabs (v2 - (μ (k + 1) ((x2 * (4 : Int32)) + x3).toNatClampNeg)), μ))))
set_option maxHeartbeats 1000000 in
theorem t5_apart {g : Bool} {k : Nat} (hk : zSc k) (x1 : Int32) (x2 : Int32) (x3 : Int32) (μ : zMem) : zMR yX5_apart cX5_apart 5 (some .int) 1 [.ref k, .int x1, .int x2, .int x3] (nX g) (SX g) μ (f5_apart k x1 x2 x3 μ) := by
  refine zMR_of (by decide +kernel) rfl (Nat.le_of_ble_eq_true rfl) (L := [.ref k, .int x1, .int x2, .int x3, .null]) rfl ?_
  unfold f5_apart
  refine z_aload_n (pc := 0) dX5_apart_0 rfl ?_
  refine z_getr (pc := 1) fdX5_27 (sxs_lt0 hk) (sxs_0 g hk) rfl rfl dX5_apart_1 ?_
  refine z_iload_n (pc := 4) dX5_apart_4 rfl ?_
  refine z_iconst (pc := 5) (4 : Int32) dX5_apart_5 (by decide) ?_
  refine z_imul (pc := 6) dX5_apart_6 ?_
  refine z_iload_n (pc := 7) dX5_apart_7 rfl ?_
  refine z_iadd (pc := 8) dX5_apart_8 ?_
  refine z_iald (pc := 9) (sxs_lt (j := 1) hk (by decide)) (sxs_1 g hk) rfl dX5_apart_9 (fun h1 => ?_)
  refine z_val (fun v2 => ?_)
  refine z_istore (pc := 10) (L' := [.ref k, .int x1, .int x2, .int x3, .int v2]) dX5_apart_10 (by decide) rfl ?_
  refine z_iload (pc := 12) dX5_apart_12 rfl ?_
  refine z_aload_n (pc := 14) dX5_apart_14 rfl ?_
  refine z_getr (pc := 15) fdX5_27 (sxs_lt0 hk) (sxs_0 g hk) rfl rfl dX5_apart_15 ?_
  refine z_iload_n (pc := 18) dX5_apart_18 rfl ?_
  refine z_iconst (pc := 19) (4 : Int32) dX5_apart_19 (by decide) ?_
  refine z_imul (pc := 20) dX5_apart_20 ?_
  refine z_iload_n (pc := 21) dX5_apart_21 rfl ?_
  refine z_iadd (pc := 22) dX5_apart_22 ?_
  refine z_iald (pc := 23) (sxs_lt (j := 1) hk (by decide)) (sxs_1 g hk) rfl dX5_apart_23 (fun h3 => ?_)
  refine z_isub (pc := 24) dX5_apart_24 ?_
  refine z_mabs (pc := 25) kmX5_83 (by decide) (Nat.le_of_ble_eq_true rfl) dX5_apart_25 ?_
  exact z_iret (pc := 28) rfl dX5_apart_28
def f5_errs (k : Nat) (x1 : Int32) (x2 : Int32) (x3 : Int32) (μ : zMem) : zRes := bnd0 (f5_isOpen k x1 μ) (fun (v1 : Int32) (μ2 : zMem) => if v1 = 0 then bnd0 (f5_isTooLate k x1 μ2) (fun (v5 : Int32) (μ6 : zMem) => if v5 = 0 then zlet (fun (μ9 : zMem) => some (0, (3 : Int32), μ9)) (fun j10 => if x2 = x3 then j10 μ6 else bnd0 (f7_areKin x2 x3 μ6) (fun (v13 : Int32) (μ14 : zMem) => if v13 = 0 then zin x2 9 (zin x3 9 (zin x1 10 (if (μ14 9 x1.toNatClampNeg) ≤ (zmin (μ14 (k + 2) x2.toNatClampNeg) (μ14 (k + 2) x3.toNatClampNeg)) then bnd0 (f5_questionOf k x1 μ14) (fun (v22 : Int32) (μ23 : zMem) => bnd0 (f5_apart k x2 x3 v22 μ23) (fun (v24 : Int32) (μ25 : zMem) => zlet (fun (s26 : Int32) => some (0, s26, μ25)) (fun j27 => if (μ25 k 3) ≤ v24 then j27 (0 : Int32) else j27 (5 : Int32)))) else some (0, (4 : Int32), μ14)))) else j10 μ14)) else some (0, (2 : Int32), μ6)) else some (0, (1 : Int32), μ2))
set_option maxHeartbeats 1000000 in
theorem t5_errs {g : Bool} {k : Nat} (hk : zSc k) (x1 : Int32) (x2 : Int32) (x3 : Int32) (μ : zMem) : zMR yX5_errs cX5_errs 4 (some .int) 2 [.ref k, .int x1, .int x2, .int x3] (nX g) (SX g) μ (f5_errs k x1 x2 x3 μ) := by
  refine zMR_of (by decide +kernel) rfl (Nat.le_of_ble_eq_true rfl) (L := [.ref k, .int x1, .int x2, .int x3]) rfl ?_
  unfold f5_errs
  refine z_aload_n (pc := 0) dX5_errs_0 rfl ?_
  refine z_iload_n (pc := 1) dX5_errs_1 rfl ?_
  refine z_callV (As := [.int x1]) (pc := 2) (ret' := some .boolean) kvX5_111 (t5_isOpen hk _ _) (by decide) (sxs_lt0 hk) (sxs_0 g hk)  rfl rfl (Nat.le_of_ble_eq_true rfl) dX5_errs_2 (fun v1 μ2 => ?_)
  refine z_if_eq (pc := 5) (tgt := 10) dX5_errs_5 (by decide) (fun c3 => ?_) (fun c4 => ?_)
  · refine z_aload_n (pc := 10) dX5_errs_10 rfl ?_
    refine z_iload_n (pc := 11) dX5_errs_11 rfl ?_
    refine z_callV (As := [.int x1]) (pc := 12) (ret' := some .boolean) kvX5_115 (t5_isTooLate hk _ _) (by decide) (sxs_lt0 hk) (sxs_0 g hk)  rfl rfl (Nat.le_of_ble_eq_true rfl) dX5_errs_12 (fun v5 μ6 => ?_)
    refine z_if_eq (pc := 15) (tgt := 20) dX5_errs_15 (by decide) (fun c7 => ?_) (fun c8 => ?_)
    · refine z_iload_n (pc := 20) dX5_errs_20 rfl ?_
      refine z_iload_n (pc := 21) dX5_errs_21 rfl ?_
      refine z_let (fun (j : zMem → zRes) => ∀ (μ9 : zMem), zR yX5_errs cX5_errs 4 (some .int) 2 37 [.null, .null, .null, .null] [] (nX g) (SX g) μ9 (j μ9)) ?_ (fun j10 hj10 => ?_)
      · intro μ9
        refine z_iconst (pc := 37) (3 : Int32) dX5_errs_37 (by decide) ?_
        exact z_iret (pc := 38) rfl dX5_errs_38
      · refine z_icmp_eq (pc := 22) (tgt := 37) dX5_errs_22 (by decide) (fun c11 => ?_) (fun c12 => ?_)
        · refine z_loc (L' := [.null, .null, .null, .null]) ⟨Or.inl rfl, ⟨Or.inl rfl, ⟨Or.inl rfl, ⟨Or.inl rfl, trivial⟩⟩⟩⟩ ?_
          exact hj10 μ6
        · refine z_aload_n (pc := 25) dX5_errs_25 rfl ?_
          refine z_getr (pc := 26) fdX5_43 (sxs_lt0 hk) (sxs_0 g hk) rfl rfl dX5_errs_26 ?_
          refine z_iload_n (pc := 29) dX5_errs_29 rfl ?_
          refine z_iload_n (pc := 30) dX5_errs_30 rfl ?_
          refine z_callV (As := [.int x2, .int x3]) (pc := 31) (ret' := some .boolean) kvX5_88 (t7_areKin _ _ _) (by decide) (nx_lt (by decide)) (sx_2 g)  rfl rfl (Nat.le_of_ble_eq_true rfl) dX5_errs_31 (fun v13 μ14 => ?_)
          refine z_if_eq (pc := 34) (tgt := 39) dX5_errs_34 (by decide) (fun c15 => ?_) (fun c16 => ?_)
          · refine z_aload_n (pc := 39) dX5_errs_39 rfl ?_
            refine z_getr (pc := 40) fdX5_31 (sxs_lt0 hk) (sxs_0 g hk) rfl rfl dX5_errs_40 ?_
            refine z_iload_n (pc := 43) dX5_errs_43 rfl ?_
            refine z_iald (pc := 44) (sxs_lt (j := 2) hk (by decide)) (sxs_2 g hk) rfl dX5_errs_44 (fun h17 => ?_)
            refine z_aload_n (pc := 45) dX5_errs_45 rfl ?_
            refine z_getr (pc := 46) fdX5_31 (sxs_lt0 hk) (sxs_0 g hk) rfl rfl dX5_errs_46 ?_
            refine z_iload_n (pc := 49) dX5_errs_49 rfl ?_
            refine z_iald (pc := 50) (sxs_lt (j := 2) hk (by decide)) (sxs_2 g hk) rfl dX5_errs_50 (fun h18 => ?_)
            refine z_mmin (pc := 51) kmX5_118 (by decide) (Nat.le_of_ble_eq_true rfl) dX5_errs_51 ?_
            refine z_aload_n (pc := 54) dX5_errs_54 rfl ?_
            refine z_getr (pc := 55) fdX5_43 (sxs_lt0 hk) (sxs_0 g hk) rfl rfl dX5_errs_55 ?_
            refine z_getr (pc := 58) fdX5_121 (nx_lt (by decide)) (sx_2 g) rfl rfl dX5_errs_58 ?_
            refine z_iload_n (pc := 61) dX5_errs_61 rfl ?_
            refine z_iald (pc := 62) (nx_lt (by decide)) (sx_9 g) rfl dX5_errs_62 (fun h19 => ?_)
            refine z_icmp_ge (pc := 63) (tgt := 68) dX5_errs_63 (by decide) (fun c20 => ?_) (fun c21 => ?_)
            · refine z_aload_n (pc := 68) dX5_errs_68 rfl ?_
              refine z_iload_n (pc := 69) dX5_errs_69 rfl ?_
              refine z_iload_n (pc := 70) dX5_errs_70 rfl ?_
              refine z_aload_n (pc := 71) dX5_errs_71 rfl ?_
              refine z_iload_n (pc := 72) dX5_errs_72 rfl ?_
              refine z_callV (As := [.int x1]) (pc := 73) (ret' := some .int) kvX5_124 (t5_questionOf hk _ _) (by decide) (sxs_lt0 hk) (sxs_0 g hk)  rfl rfl (Nat.le_of_ble_eq_true rfl) dX5_errs_73 (fun v22 μ23 => ?_)
              refine z_callV (As := [.int x2, .int x3, .int v22]) (pc := 76) (ret' := some .int) kvX5_92 (t5_apart hk _ _ _ _) (by decide) (sxs_lt0 hk) (sxs_0 g hk)  rfl rfl (Nat.le_of_ble_eq_true rfl) dX5_errs_76 (fun v24 μ25 => ?_)
              refine z_aload_n (pc := 79) dX5_errs_79 rfl ?_
              refine z_geti (pc := 80) fdX5_18 (sxs_lt0 hk) (sxs_0 g hk) rfl dX5_errs_80 ?_
              refine z_let (fun (j : Int32 → zRes) => ∀ (s26 : Int32), zR yX5_errs cX5_errs 4 (some .int) 2 91 [.null, .null, .null, .null] [.int s26] (nX g) (SX g) μ25 (j s26)) ?_ (fun j27 hj27 => ?_)
              · intro s26
                exact z_iret (pc := 91) rfl dX5_errs_91
              · refine z_icmp_ge (pc := 83) (tgt := 90) dX5_errs_83 (by decide) (fun c28 => ?_) (fun c29 => ?_)
                · refine z_iconst (pc := 90) (0 : Int32) dX5_errs_90 (by decide) ?_
                  refine z_loc (L' := [.null, .null, .null, .null]) ⟨Or.inl rfl, ⟨Or.inl rfl, ⟨Or.inl rfl, ⟨Or.inl rfl, trivial⟩⟩⟩⟩ ?_
                  exact hj27 (0 : Int32)
                · refine z_iconst (pc := 86) (5 : Int32) dX5_errs_86 (by decide) ?_
                  refine z_goto (pc := 87) (tgt := 91) dX5_errs_87 (by decide) ?_
                  refine z_loc (L' := [.null, .null, .null, .null]) ⟨Or.inl rfl, ⟨Or.inl rfl, ⟨Or.inl rfl, ⟨Or.inl rfl, trivial⟩⟩⟩⟩ ?_
                  exact hj27 (5 : Int32)
            · refine z_iconst (pc := 66) (4 : Int32) dX5_errs_66 (by decide) ?_
              exact z_iret (pc := 67) rfl dX5_errs_67
          · refine z_loc (L' := [.null, .null, .null, .null]) ⟨Or.inl rfl, ⟨Or.inl rfl, ⟨Or.inl rfl, ⟨Or.inl rfl, trivial⟩⟩⟩⟩ ?_
            exact hj10 μ14
    · refine z_iconst (pc := 18) (2 : Int32) dX5_errs_18 (by decide) ?_
      exact z_iret (pc := 19) rfl dX5_errs_19
  · refine z_iconst (pc := 8) (1 : Int32) dX5_errs_8 (by decide) ?_
    exact z_iret (pc := 9) rfl dX5_errs_9
def f5_rivalsOf_L6 (k : Nat) (x1 : Int32) (x2 : Int32) (x3 : Int32) (K77 : Int32 → zMem → zRes) : Nat → Int32 → Int32 → zMem → zRes
  | 0, _, _, _ => none
  | n + 1, x4, x5, μ => if (μ k 4) ≤ x5 then K77 x4 μ else zlet (fun (s3 : Int32) (μ4 : zMem) => zlet (fun (s5 : Int32) (μ6 : zMem) => zlet (x4 ||| s5) (fun (v7 : Int32) => f5_rivalsOf_L6 k x1 x2 x3 K77 n v7 (x5 + (1 : Int32)) μ6)) (fun j8 => zlet (fun (μ9 : zMem) => j8 (0 : Int32) μ9) (fun j10 => if s3 = 0 then j10 μ4 else bnd0 (f5_apart k x5 x1 x2 μ4) (fun (v13 : Int32) (μ14 : zMem) => if v13 < x3 then j10 μ14 else j8 (zshl (1 : Int32) x5) μ14)))) (fun j17 => zlet (fun (μ18 : zMem) => j17 (0 : Int32) μ18) (fun j19 => if x5 = x1 then j19 μ else bnd0 (f7_areKin x5 x1 μ) (fun (v22 : Int32) (μ23 : zMem) => if v22 = 0 then j17 (1 : Int32) μ23 else j19 μ23)))
def f5_rivalsOf (k : Nat) (x1 : Int32) (x2 : Int32) (x3 : Int32) (μ : zMem) : zRes := f5_rivalsOf_L6 k x1 x2 x3 (fun (x4_26 : Int32) (μ27 : zMem) => some (0, x4_26, μ27)) zF (0 : Int32) (0 : Int32) μ
set_option maxHeartbeats 1000000 in
theorem t5_rivalsOf_L6 {g : Bool} {k : Nat} (hk : zSc k) (x1 : Int32) (x2 : Int32) (x3 : Int32) (K77 : Int32 → zMem → zRes) (hK77 : ∀ (x4 : Int32) (μ : zMem), zR yX5_rivalsOf cX5_rivalsOf 7 (some .int) 2 77 [.null, .null, .null, .null, .int x4, .null, .null] [] (nX g) (SX g) μ (K77 x4 μ)) : ∀ (n : Nat) (x4 : Int32) (x5 : Int32) (μ : zMem), zR yX5_rivalsOf cX5_rivalsOf 7 (some .int) 2 6 [.ref k, .int x1, .int x2, .int x3, .int x4, .int x5, .null] [] (nX g) (SX g) μ (f5_rivalsOf_L6 k x1 x2 x3 K77 n x4 x5 μ) := by
  intro n
  induction n with
  | zero => intro x4 x5 μ; intro q hq; cases hq
  | succ n ih =>
    intro x4 x5 μ
    unfold f5_rivalsOf_L6
    refine z_iload (pc := 6) dX5_rivalsOf_6 rfl ?_
    refine z_aload_n (pc := 8) dX5_rivalsOf_8 rfl ?_
    refine z_geti (pc := 9) fdX5_21 (sxs_lt0 hk) (sxs_0 g hk) rfl dX5_rivalsOf_9 ?_
    refine z_icmp_ge (pc := 12) (tgt := 77) dX5_rivalsOf_12 (by decide) (fun c1 => ?_) (fun c2 => ?_)
    · refine z_loc (L' := [.null, .null, .null, .null, .int x4, .null, .null]) ⟨Or.inl rfl, ⟨Or.inl rfl, ⟨Or.inl rfl, ⟨Or.inl rfl, ⟨Or.inr rfl, ⟨Or.inl rfl, ⟨Or.inl rfl, trivial⟩⟩⟩⟩⟩⟩⟩ ?_
      exact hK77 x4 μ
    · refine z_iload (pc := 15) dX5_rivalsOf_15 rfl ?_
      refine z_iload_n (pc := 17) dX5_rivalsOf_17 rfl ?_
      refine z_let (fun (j : Int32 → zMem → zRes) => ∀ (s3 : Int32) (μ4 : zMem), zR yX5_rivalsOf cX5_rivalsOf 7 (some .int) 2 39 [.ref k, .int x1, .int x2, .int x3, .int x4, .int x5, .null] [.int s3] (nX g) (SX g) μ4 (j s3 μ4)) ?_ (fun j17 hj17 => ?_)
      · intro s3 μ4
        refine z_istore (pc := 39) (L' := [.ref k, .int x1, .int x2, .int x3, .int x4, .int x5, .int s3]) dX5_rivalsOf_39 (by decide) rfl ?_
        refine z_iload (pc := 41) dX5_rivalsOf_41 rfl ?_
        refine z_iload (pc := 43) dX5_rivalsOf_43 rfl ?_
        refine z_let (fun (j : Int32 → zMem → zRes) => ∀ (s5 : Int32) (μ6 : zMem), zR yX5_rivalsOf cX5_rivalsOf 7 (some .int) 2 68 [.ref k, .int x1, .int x2, .int x3, .null, .int x5, .null] [.int s5, .int x4] (nX g) (SX g) μ6 (j s5 μ6)) ?_ (fun j8 hj8 => ?_)
        · intro s5 μ6
          refine z_ior (pc := 68) dX5_rivalsOf_68 ?_
          refine z_val (fun v7 => ?_)
          refine z_istore (pc := 69) (L' := [.ref k, .int x1, .int x2, .int x3, .int v7, .int x5, .null]) dX5_rivalsOf_69 (by decide) rfl ?_
          refine z_iinc (pc := 71) (v := x5 + (1 : Int32)) (L' := [.ref k, .int x1, .int x2, .int x3, .int v7, .int (x5 + (1 : Int32)), .null]) dX5_rivalsOf_71 (by decide) rfl (congrArg _ (by decide)) rfl ?_
          refine z_goto (pc := 74) (tgt := 6) dX5_rivalsOf_74 (by decide) ?_
          exact ih v7 (x5 + (1 : Int32)) μ6
        · refine z_let (fun (j : zMem → zRes) => ∀ (μ9 : zMem), zR yX5_rivalsOf cX5_rivalsOf 7 (some .int) 2 67 [.ref k, .int x1, .int x2, .int x3, .null, .int x5, .null] [.int x4] (nX g) (SX g) μ9 (j μ9)) ?_ (fun j10 hj10 => ?_)
          · intro μ9
            refine z_iconst (pc := 67) (0 : Int32) dX5_rivalsOf_67 (by decide) ?_
            exact hj8 (0 : Int32) μ9
          · refine z_if_eq (pc := 45) (tgt := 67) dX5_rivalsOf_45 (by decide) (fun c11 => ?_) (fun c12 => ?_)
            · refine z_loc (L' := [.ref k, .int x1, .int x2, .int x3, .null, .int x5, .null]) ⟨Or.inr rfl, ⟨Or.inr rfl, ⟨Or.inr rfl, ⟨Or.inr rfl, ⟨Or.inl rfl, ⟨Or.inr rfl, ⟨Or.inl rfl, trivial⟩⟩⟩⟩⟩⟩⟩ ?_
              exact hj10 μ4
            · refine z_aload_n (pc := 48) dX5_rivalsOf_48 rfl ?_
              refine z_iload (pc := 49) dX5_rivalsOf_49 rfl ?_
              refine z_iload_n (pc := 51) dX5_rivalsOf_51 rfl ?_
              refine z_iload_n (pc := 52) dX5_rivalsOf_52 rfl ?_
              refine z_callV (As := [.int x5, .int x1, .int x2]) (pc := 53) (ret' := some .int) kvX5_92 (t5_apart hk _ _ _ _) (by decide) (sxs_lt0 hk) (sxs_0 g hk)  rfl rfl (Nat.le_of_ble_eq_true rfl) dX5_rivalsOf_53 (fun v13 μ14 => ?_)
              refine z_iload_n (pc := 56) dX5_rivalsOf_56 rfl ?_
              refine z_icmp_lt (pc := 57) (tgt := 67) dX5_rivalsOf_57 (by decide) (fun c15 => ?_) (fun c16 => ?_)
              · refine z_loc (L' := [.ref k, .int x1, .int x2, .int x3, .null, .int x5, .null]) ⟨Or.inr rfl, ⟨Or.inr rfl, ⟨Or.inr rfl, ⟨Or.inr rfl, ⟨Or.inl rfl, ⟨Or.inr rfl, ⟨Or.inl rfl, trivial⟩⟩⟩⟩⟩⟩⟩ ?_
                exact hj10 μ14
              · refine z_iconst (pc := 60) (1 : Int32) dX5_rivalsOf_60 (by decide) ?_
                refine z_iload (pc := 61) dX5_rivalsOf_61 rfl ?_
                refine z_ishl (pc := 63) dX5_rivalsOf_63 ?_
                refine z_goto (pc := 64) (tgt := 68) dX5_rivalsOf_64 (by decide) ?_
                refine z_loc (L' := [.ref k, .int x1, .int x2, .int x3, .null, .int x5, .null]) ⟨Or.inr rfl, ⟨Or.inr rfl, ⟨Or.inr rfl, ⟨Or.inr rfl, ⟨Or.inl rfl, ⟨Or.inr rfl, ⟨Or.inl rfl, trivial⟩⟩⟩⟩⟩⟩⟩ ?_
                exact hj8 (zshl (1 : Int32) x5) μ14
      · refine z_let (fun (j : zMem → zRes) => ∀ (μ18 : zMem), zR yX5_rivalsOf cX5_rivalsOf 7 (some .int) 2 38 [.ref k, .int x1, .int x2, .int x3, .int x4, .int x5, .null] [] (nX g) (SX g) μ18 (j μ18)) ?_ (fun j19 hj19 => ?_)
        · intro μ18
          refine z_iconst (pc := 38) (0 : Int32) dX5_rivalsOf_38 (by decide) ?_
          exact hj17 (0 : Int32) μ18
        · refine z_icmp_eq (pc := 18) (tgt := 38) dX5_rivalsOf_18 (by decide) (fun c20 => ?_) (fun c21 => ?_)
          · exact hj19 μ
          · refine z_aload_n (pc := 21) dX5_rivalsOf_21 rfl ?_
            refine z_getr (pc := 22) fdX5_43 (sxs_lt0 hk) (sxs_0 g hk) rfl rfl dX5_rivalsOf_22 ?_
            refine z_iload (pc := 25) dX5_rivalsOf_25 rfl ?_
            refine z_iload_n (pc := 27) dX5_rivalsOf_27 rfl ?_
            refine z_callV (As := [.int x5, .int x1]) (pc := 28) (ret' := some .boolean) kvX5_88 (t7_areKin _ _ _) (by decide) (nx_lt (by decide)) (sx_2 g)  rfl rfl (Nat.le_of_ble_eq_true rfl) dX5_rivalsOf_28 (fun v22 μ23 => ?_)
            refine z_if_ne (pc := 31) (tgt := 38) dX5_rivalsOf_31 (by decide) (fun c24 => ?_) (fun c25 => ?_)
            · exact hj19 μ23
            · refine z_iconst (pc := 34) (1 : Int32) dX5_rivalsOf_34 (by decide) ?_
              refine z_goto (pc := 35) (tgt := 39) dX5_rivalsOf_35 (by decide) ?_
              exact hj17 (1 : Int32) μ23
set_option maxHeartbeats 1000000 in
theorem t5_rivalsOf {g : Bool} {k : Nat} (hk : zSc k) (x1 : Int32) (x2 : Int32) (x3 : Int32) (μ : zMem) : zMR yX5_rivalsOf cX5_rivalsOf 7 (some .int) 2 [.ref k, .int x1, .int x2, .int x3] (nX g) (SX g) μ (f5_rivalsOf k x1 x2 x3 μ) := by
  refine zMR_of (by decide +kernel) rfl (Nat.le_of_ble_eq_true rfl) (L := [.ref k, .int x1, .int x2, .int x3, .null, .null, .null]) rfl ?_
  unfold f5_rivalsOf
  refine z_iconst (pc := 0) (0 : Int32) dX5_rivalsOf_0 (by decide) ?_
  refine z_istore (pc := 1) (L' := [.ref k, .int x1, .int x2, .int x3, .int (0 : Int32), .null, .null]) dX5_rivalsOf_1 (by decide) rfl ?_
  refine z_iconst (pc := 3) (0 : Int32) dX5_rivalsOf_3 (by decide) ?_
  refine z_istore (pc := 4) (L' := [.ref k, .int x1, .int x2, .int x3, .int (0 : Int32), .int (0 : Int32), .null]) dX5_rivalsOf_4 (by decide) rfl ?_
  refine t5_rivalsOf_L6 hk _ _ _ _ (fun x4_26 μ27 => ?_) zF _ _ _
  · refine z_iload (pc := 77) dX5_rivalsOf_77 rfl ?_
    exact z_iret (pc := 79) rfl dX5_rivalsOf_79
