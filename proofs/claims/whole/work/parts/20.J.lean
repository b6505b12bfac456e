theorem dJ3_checkIndex_8e157_0 : decode cJ3_checkIndex_8e157 0 = .ok (.iload_n 0, 1) := by decide +kernel
theorem dJ3_checkIndex_8e157_1 : decode cJ3_checkIndex_8e157 1 = .ok (.ifCond .lt 8, 3) := by decide +kernel
theorem dJ3_checkIndex_8e157_4 : decode cJ3_checkIndex_8e157 4 = .ok (.iload_n 0, 1) := by decide +kernel
theorem dJ3_checkIndex_8e157_5 : decode cJ3_checkIndex_8e157 5 = .ok (.iload_n 1, 1) := by decide +kernel
theorem dJ3_checkIndex_8e157_6 : decode cJ3_checkIndex_8e157 6 = .ok (.if_icmp .lt 10, 3) := by decide +kernel
theorem dJ3_checkIndex_8e157_9 : decode cJ3_checkIndex_8e157 9 = .ok (.aload_n 2, 1) := by decide +kernel
theorem dJ3_checkIndex_8e157_10 : decode cJ3_checkIndex_8e157 10 = .ok (.iload_n 0, 1) := by decide +kernel
theorem dJ3_checkIndex_8e157_11 : decode cJ3_checkIndex_8e157 11 = .ok (.iload_n 1, 1) := by decide +kernel
theorem dJ3_checkIndex_8e157_12 : decode cJ3_checkIndex_8e157 12 = .ok (.invokestatic 95, 3) := by decide +kernel
theorem dJ3_checkIndex_8e157_15 : decode cJ3_checkIndex_8e157 15 = .ok (.athrow, 1) := by decide +kernel
theorem dJ3_checkIndex_8e157_16 : decode cJ3_checkIndex_8e157 16 = .ok (.iload_n 0, 1) := by decide +kernel
theorem dJ3_checkIndex_8e157_17 : decode cJ3_checkIndex_8e157 17 = .ok (.ireturn, 1) := by decide +kernel
theorem dJ0_checkIndex_df160_0 : decode cJ0_checkIndex_df160 0 = .ok (.iload_n 0, 1) := by decide +kernel
theorem dJ0_checkIndex_df160_1 : decode cJ0_checkIndex_df160 1 = .ok (.iload_n 1, 1) := by decide +kernel
theorem dJ0_checkIndex_df160_2 : decode cJ0_checkIndex_df160 2 = .ok (.getstatic 1053, 3) := by decide +kernel
theorem dJ0_checkIndex_df160_5 : decode cJ0_checkIndex_df160 5 = .ok (.invokestatic 1059, 3) := by decide +kernel
theorem dJ0_checkIndex_df160_8 : decode cJ0_checkIndex_df160 8 = .ok (.pop, 1) := by decide +kernel
theorem dJ0_checkIndex_df160_9 : decode cJ0_checkIndex_df160 9 = .ok (.return_, 1) := by decide +kernel
theorem zck_f : Cond.fieldLink RJ0 1053 "jdk/internal/util/Preconditions" "SIOOBE_FORMATTER" "Ljava/util/function/BiFunction;" ∈ zTb := (zTb_mem (zm_3 (List.mem_of_getElem? (i := 84) (by decide +kernel))) rfl)
theorem zck_c : Cond.code yJ3_checkIndex_8e157 cJ3_checkIndex_8e157 3 (some .int) ∈ zTb := (zTb_mem (zm_4 (List.mem_of_getElem? (i := 162) (by decide +kernel))) rfl)
theorem zck_i : Cond.initialized yJ3_checkIndex_8e157.cls ∈ zTb := (zTb_mem (zm_1 (List.mem_of_getElem? (i := 18) (by decide +kernel))) rfl)
theorem zck_l : Cond.methodLink RJ0 1059 yJ3_checkIndex_8e157 ∈ zTb := (zTb_mem (zm_4 (List.mem_of_getElem? (i := 160) (by decide +kernel))) rfl)
theorem zck_s : Cond.static yJ3_checkIndex_8e157 ∈ zTb := (zTb_mem (zm_4 (List.mem_of_getElem? (i := 161) (by decide +kernel))) rfl)
theorem zck_d : yJ3_checkIndex_8e157.cls ≠ "java/lang/invoke/MethodHandle" ∧ yJ3_checkIndex_8e157.cls ≠ "java/lang/invoke/VarHandle" ∧ (parseMethodDescriptor yJ3_checkIndex_8e157.desc).map (fun d => d.parameters.length) = some 3 := by decide +kernel
/-! String.checkIndex, by hand: its formatter is null or some reference -/
def fJ0_checkIndex_df160 (x0 x1 : Int32) (μ : zMem) : zRes := if x0 < 0 then none else if x0 < x1 then some (0, 0, μ) else none
set_option maxRecDepth 100000 in
theorem zck_pre (l : Launch) (i n : Int32) (v : Value) (hv : v.category = 1) (h0 : ¬ i < 0) (h1 : i < n) : Met l yJ3_checkIndex_8e157 (zWs yJ3_checkIndex_8e157 cJ3_checkIndex_8e157 3 (some .int)) (zRm 1 0 0) (fun a _ => a = ([.int i, .int n, v] : List Value).toArray) (vp_Si (fun r => r = i)) 0 0 (fun _ => False) := by
  refine Met.ofW (cc := cJ3_checkIndex_8e157) (maxL := 3) (ret := some .int) (by decide +kernel) rfl ?_
  intro p e s m args below meth c s₁ B hml hP
  subst hP
  have hx := B.exec
  have hb := B.bytes
  have hr := B.returns
  have hlocks := B.notSynchronized
  have hcat : ∀ w ∈ ([.int i, .int n, v] : List Value), w.category = 1 := fun w hw => by
    simp only [List.mem_cons, List.not_mem_nil, or_false] at hw
    rcases hw with rfl | rfl | rfl
    · rfl
    · rfl
    · exact hv
  have hls : lg_sl [.int i, .int n, v] = ([.int i, .int n, v] : List Value).map Slot.val := zarg_slots _ hcat
  rw [lg_entry_eq, hls]
  have g0 : ((([.int i, .int n, v] : List Value).map Slot.val ++ List.replicate (3 - (([.int i, .int n, v] : List Value).map Slot.val).length) Slot.unset).toArray)[0]? = some (.val (.int i)) := rfl
  have g1 : ((([.int i, .int n, v] : List Value).map Slot.val ++ List.replicate (3 - (([.int i, .int n, v] : List Value).map Slot.val).length) Slot.unset).toArray)[1]? = some (.val (.int n)) := rfl
  generalize ((([.int i, .int n, v] : List Value).map Slot.val ++ List.replicate (3 - (([.int i, .int n, v] : List Value).map Slot.val).length) Slot.unset).toArray) = ls at g0 g1 ⊢
  refine lv_iload_n hx hb dJ3_checkIndex_8e157_0 rfl g0 ?_
  refine lv_if_lt (tgt := 9) hx hb dJ3_checkIndex_8e157_1 (by decide) (fun h => absurd h h0) (fun _ => ?_)
  refine lv_iload_n hx hb dJ3_checkIndex_8e157_4 rfl g0 ?_
  refine lv_iload_n hx hb dJ3_checkIndex_8e157_5 rfl g1 ?_
  refine lv_icmp_lt (tgt := 16) hx hb dJ3_checkIndex_8e157_6 (by decide) (fun _ => ?_) (fun h => absurd h1 h)
  refine lv_iload_n hx hb dJ3_checkIndex_8e157_16 rfl g0 ?_
  exact W.iret hx hb hr (fun t ht _ => ⟨i, rfl, rfl, ht⟩) (fun _ h => nomatch h) dJ3_checkIndex_8e157_17 hlocks
theorem tJ0_checkIndex_df160 {nn : Nat} {SS : Nat → zSh} (x0 x1 : Int32) (μ : zMem) : zMR yJ0_checkIndex_df160 cJ0_checkIndex_df160 2 (none) 3 [.int x0, .int x1] nn SS μ (fJ0_checkIndex_df160 x0 x1 μ) := by
  refine zMR_of (by decide +kernel) rfl (Nat.le_of_ble_eq_true rfl) (L := [.int x0, .int x1]) rfl ?_
  unfold fJ0_checkIndex_df160
  intro q hq
  by_cases h0 : x0 < 0
  · rw [if_pos h0] at hq; cases hq
  · rw [if_neg h0] at hq
    by_cases h1 : x0 < x1
    · rw [if_pos h1] at hq
      refine z_iload_n (pc := 0) dJ0_checkIndex_df160_0 rfl ?_ q hq
      refine z_iload_n (pc := 1) dJ0_checkIndex_df160_1 rfl ?_
      intro q hq p l e R s m args below meth c D A tc adK adV C σ0 n0 σ H locs ls cells slots mc ms hH hS hl hB
      obtain ⟨hx, hbb, hml, hown, -, -, -, -, hts, hK, hA, hG, hst, hfr, hlo⟩ := id C
      have key : ∀ v : Value, v.category = 1 → va_Z "jdk/internal/util/Preconditions" "SIOOBE_FORMATTER" "Ljava/util/function/BiFunction;" v A s s.heap →
          W p l e R s m args below meth c H locs cells slots (vx_MQ below (zQc D A tc adK σ0 n0 (zOut none nn SS q)) (zXC D A tc adK σ0 n0 (zOut none nn SS q)) args s mc ms A) (F0 m 2 ls [.int x1, .int x0]) := by
        intro v hv hZ
        refine va_gets hx hbb hZ hS hown (hts _ zck_f) (fun x h => h) dJ0_checkIndex_df160_2 ?_
        have hpre : PreS s H (fun a (_ : State) => a = ([.int x0, .int x1, v] : List Value).toArray) [.int x0, .int x1, v] := ⟨fun _ _ _ _ q => q, fun _ _ _ => rfl⟩
        have hrun := va_runS (H := H) (locs := locs) (cells := cells) (slots := slots) (e := e) (below := below) (meth := meth) (g := F0 m 5 ls [v, .int x1, .int x0]) (rest := []) (As := [.int x0, .int x1, v]) ⟨hx, hbb, hml, hown, hts⟩ (zck_pre l x0 x1 v hv h0 h1) ⟨callB_of (R := R) 3 hts (zWs_good zck_c) rfl rfl rfl (hts _ zck_i) (hts _ zck_l) zck_d ⟨by show 1 + 1 ≤ R.frames; omega, by show 8 + (3 + 11) + 41 * 1 ≤ R.locals; omega⟩, hts _ zck_s⟩ hpre rfl rfl hl.1.1 rfl (lv_room (Nat.le_of_ble_eq_true rfl)) dJ0_checkIndex_df160_5 ⟨by have := hB; omega, by have := hB; omega⟩
        intro T hT X
        obtain ⟨v', st₀, t, T', L', e0, X', hL, e1, e2, ⟨r, hr1, hr2, hr3⟩, st9⟩ := hrun T hT X
        cases hr1
        have hHT : T'.heap = H := by rw [e1, hr3]; exact e0
        have X2 : Stand p l e R s m args below meth c T' locs cells slots := Stand.forget (extra := L') X' (fun q h => (hL q h).elim)
        have kk := z_pop (d := 3) (st := []) (L := [.int x0, .int x1]) (n := nn) (S := SS) (μ := μ) (pc := 8) (v := .int r) (r := some (0, 0, μ)) dJ0_checkIndex_df160_8 rfl (z_vret (pc := 9) rfl dJ0_checkIndex_df160_9) q hq p l e R s m args below meth c D A tc adK adV C σ0 n0 σ H locs ls cells slots mc ms hH hS hl hB
        obtain ⟨t2, a1, b1⟩ := kk T' hHT X2
        exact ⟨t2, st9 t2 a1, b1⟩
      rcases hG.2.2.2.2.2.2.1 with hZ | ⟨t, hZ⟩
      · exact key _ rfl hZ
      · exact key _ rfl hZ
    · rw [if_neg h1] at hq; cases hq
theorem dJ7_fill_53178_0 : decode cJ7_fill_53178 0 = .ok (.iconst 0, 1) := by decide +kernel
theorem dJ7_fill_53178_1 : decode cJ7_fill_53178 1 = .ok (.istore_n 2, 1) := by decide +kernel
theorem dJ7_fill_53178_2 : decode cJ7_fill_53178 2 = .ok (.aload_n 0, 1) := by decide +kernel
theorem dJ7_fill_53178_3 : decode cJ7_fill_53178 3 = .ok (.arraylength, 1) := by decide +kernel
theorem dJ7_fill_53178_4 : decode cJ7_fill_53178 4 = .ok (.istore_n 3, 1) := by decide +kernel
theorem dJ7_fill_53178_5 : decode cJ7_fill_53178 5 = .ok (.iload_n 2, 1) := by decide +kernel
theorem dJ7_fill_53178_6 : decode cJ7_fill_53178 6 = .ok (.iload_n 3, 1) := by decide +kernel
theorem dJ7_fill_53178_7 : decode cJ7_fill_53178 7 = .ok (.if_icmp .ge 13, 3) := by decide +kernel
theorem dJ7_fill_53178_10 : decode cJ7_fill_53178 10 = .ok (.aload_n 0, 1) := by decide +kernel
theorem dJ7_fill_53178_11 : decode cJ7_fill_53178 11 = .ok (.iload_n 2, 1) := by decide +kernel
theorem dJ7_fill_53178_12 : decode cJ7_fill_53178 12 = .ok (.iload_n 1, 1) := by decide +kernel
theorem dJ7_fill_53178_13 : decode cJ7_fill_53178 13 = .ok (.iastore, 1) := by decide +kernel
theorem dJ7_fill_53178_14 : decode cJ7_fill_53178 14 = .ok (.iinc 2 1, 3) := by decide +kernel
theorem dJ7_fill_53178_17 : decode cJ7_fill_53178 17 = .ok (.goto (-12), 3) := by decide +kernel
theorem dJ7_fill_53178_20 : decode cJ7_fill_53178 20 = .ok (.return_, 1) := by decide +kernel
theorem dJ7_rangeCheck_23922_0 : decode cJ7_rangeCheck_23922 0 = .ok (.iload_n 1, 1) := by decide +kernel
theorem dJ7_rangeCheck_23922_1 : decode cJ7_rangeCheck_23922 1 = .ok (.iload_n 2, 1) := by decide +kernel
theorem dJ7_rangeCheck_23922_2 : decode cJ7_rangeCheck_23922 2 = .ok (.if_icmp .le 44, 3) := by decide +kernel
theorem dJ7_rangeCheck_23922_5 : decode cJ7_rangeCheck_23922 5 = .ok (.new 43, 3) := by decide +kernel
theorem dJ7_rangeCheck_23922_8 : decode cJ7_rangeCheck_23922 8 = .ok (.dup, 1) := by decide +kernel
theorem dJ7_rangeCheck_23922_9 : decode cJ7_rangeCheck_23922 9 = .ok (.new 45, 3) := by decide +kernel
theorem dJ7_rangeCheck_23922_12 : decode cJ7_rangeCheck_23922 12 = .ok (.dup, 1) := by decide +kernel
theorem dJ7_rangeCheck_23922_13 : decode cJ7_rangeCheck_23922 13 = .ok (.invokespecial 47, 3) := by decide +kernel
theorem dJ7_rangeCheck_23922_16 : decode cJ7_rangeCheck_23922 16 = .ok (.ldc 48, 2) := by decide +kernel
theorem dJ7_rangeCheck_23922_18 : decode cJ7_rangeCheck_23922 18 = .ok (.invokevirtual 50, 3) := by decide +kernel
theorem dJ7_rangeCheck_23922_21 : decode cJ7_rangeCheck_23922 21 = .ok (.iload_n 1, 1) := by decide +kernel
theorem dJ7_rangeCheck_23922_22 : decode cJ7_rangeCheck_23922 22 = .ok (.invokevirtual 54, 3) := by decide +kernel
theorem dJ7_rangeCheck_23922_25 : decode cJ7_rangeCheck_23922 25 = .ok (.ldc 57, 2) := by decide +kernel
theorem dJ7_rangeCheck_23922_27 : decode cJ7_rangeCheck_23922 27 = .ok (.invokevirtual 50, 3) := by decide +kernel
theorem dJ7_rangeCheck_23922_30 : decode cJ7_rangeCheck_23922 30 = .ok (.iload_n 2, 1) := by decide +kernel
theorem dJ7_rangeCheck_23922_31 : decode cJ7_rangeCheck_23922 31 = .ok (.invokevirtual 54, 3) := by decide +kernel
theorem dJ7_rangeCheck_23922_34 : decode cJ7_rangeCheck_23922 34 = .ok (.ldc 59, 2) := by decide +kernel
theorem dJ7_rangeCheck_23922_36 : decode cJ7_rangeCheck_23922 36 = .ok (.invokevirtual 50, 3) := by decide +kernel
theorem dJ7_rangeCheck_23922_39 : decode cJ7_rangeCheck_23922 39 = .ok (.invokevirtual 61, 3) := by decide +kernel
theorem dJ7_rangeCheck_23922_42 : decode cJ7_rangeCheck_23922 42 = .ok (.invokespecial 65, 3) := by decide +kernel
theorem dJ7_rangeCheck_23922_45 : decode cJ7_rangeCheck_23922 45 = .ok (.athrow, 1) := by decide +kernel
theorem dJ7_rangeCheck_23922_46 : decode cJ7_rangeCheck_23922 46 = .ok (.iload_n 1, 1) := by decide +kernel
theorem dJ7_rangeCheck_23922_47 : decode cJ7_rangeCheck_23922 47 = .ok (.ifCond .ge 12, 3) := by decide +kernel
theorem dJ7_rangeCheck_23922_50 : decode cJ7_rangeCheck_23922 50 = .ok (.new 68, 3) := by decide +kernel
theorem dJ7_rangeCheck_23922_53 : decode cJ7_rangeCheck_23922 53 = .ok (.dup, 1) := by decide +kernel
theorem dJ7_rangeCheck_23922_54 : decode cJ7_rangeCheck_23922 54 = .ok (.iload_n 1, 1) := by decide +kernel
theorem dJ7_rangeCheck_23922_55 : decode cJ7_rangeCheck_23922 55 = .ok (.invokespecial 70, 3) := by decide +kernel
theorem dJ7_rangeCheck_23922_58 : decode cJ7_rangeCheck_23922 58 = .ok (.athrow, 1) := by decide +kernel
theorem dJ7_rangeCheck_23922_59 : decode cJ7_rangeCheck_23922 59 = .ok (.iload_n 2, 1) := by decide +kernel
theorem dJ7_rangeCheck_23922_60 : decode cJ7_rangeCheck_23922 60 = .ok (.iload_n 0, 1) := by decide +kernel
theorem dJ7_rangeCheck_23922_61 : decode cJ7_rangeCheck_23922 61 = .ok (.if_icmp .le 12, 3) := by decide +kernel
theorem dJ7_rangeCheck_23922_64 : decode cJ7_rangeCheck_23922 64 = .ok (.new 68, 3) := by decide +kernel
theorem dJ7_rangeCheck_23922_67 : decode cJ7_rangeCheck_23922 67 = .ok (.dup, 1) := by decide +kernel
theorem dJ7_rangeCheck_23922_68 : decode cJ7_rangeCheck_23922 68 = .ok (.iload_n 2, 1) := by decide +kernel
theorem dJ7_rangeCheck_23922_69 : decode cJ7_rangeCheck_23922 69 = .ok (.invokespecial 70, 3) := by decide +kernel
theorem dJ7_rangeCheck_23922_72 : decode cJ7_rangeCheck_23922 72 = .ok (.athrow, 1) := by decide +kernel
theorem dJ7_rangeCheck_23922_73 : decode cJ7_rangeCheck_23922 73 = .ok (.return_, 1) := by decide +kernel
theorem dJ7_fill_fda19_0 : decode cJ7_fill_fda19 0 = .ok (.aload_n 0, 1) := by decide +kernel
theorem dJ7_fill_fda19_1 : decode cJ7_fill_fda19 1 = .ok (.arraylength, 1) := by decide +kernel
theorem dJ7_fill_fda19_2 : decode cJ7_fill_fda19 2 = .ok (.iload_n 1, 1) := by decide +kernel
theorem dJ7_fill_fda19_3 : decode cJ7_fill_fda19 3 = .ok (.iload_n 2, 1) := by decide +kernel
theorem dJ7_fill_fda19_4 : decode cJ7_fill_fda19 4 = .ok (.invokestatic 13, 3) := by decide +kernel
theorem dJ7_fill_fda19_7 : decode cJ7_fill_fda19 7 = .ok (.iload_n 1, 1) := by decide +kernel
theorem dJ7_fill_fda19_8 : decode cJ7_fill_fda19 8 = .ok (.istore 4, 2) := by decide +kernel
theorem dJ7_fill_fda19_10 : decode cJ7_fill_fda19 10 = .ok (.iload 4, 2) := by decide +kernel
theorem dJ7_fill_fda19_12 : decode cJ7_fill_fda19 12 = .ok (.iload_n 2, 1) := by decide +kernel
theorem dJ7_fill_fda19_13 : decode cJ7_fill_fda19 13 = .ok (.if_icmp .ge 14, 3) := by decide +kernel
theorem dJ7_fill_fda19_16 : decode cJ7_fill_fda19 16 = .ok (.aload_n 0, 1) := by decide +kernel
theorem dJ7_fill_fda19_17 : decode cJ7_fill_fda19 17 = .ok (.iload 4, 2) := by decide +kernel
theorem dJ7_fill_fda19_19 : decode cJ7_fill_fda19 19 = .ok (.iload_n 3, 1) := by decide +kernel
theorem dJ7_fill_fda19_20 : decode cJ7_fill_fda19 20 = .ok (.iastore, 1) := by decide +kernel
theorem dJ7_fill_fda19_21 : decode cJ7_fill_fda19 21 = .ok (.iinc 4 1, 3) := by decide +kernel
theorem dJ7_fill_fda19_24 : decode cJ7_fill_fda19 24 = .ok (.goto (-14), 3) := by decide +kernel
theorem dJ7_fill_fda19_27 : decode cJ7_fill_fda19 27 = .ok (.return_, 1) := by decide +kernel
theorem dJ6_bitCount_0f7a4_0 : decode cJ6_bitCount_0f7a4 0 = .ok (.iload_n 0, 1) := by decide +kernel
theorem dJ6_bitCount_0f7a4_1 : decode cJ6_bitCount_0f7a4 1 = .ok (.iload_n 0, 1) := by decide +kernel
theorem dJ6_bitCount_0f7a4_2 : decode cJ6_bitCount_0f7a4 2 = .ok (.iconst 1, 1) := by decide +kernel
theorem dJ6_bitCount_0f7a4_3 : decode cJ6_bitCount_0f7a4 3 = .ok (.iushr, 1) := by decide +kernel
theorem dJ6_bitCount_0f7a4_4 : decode cJ6_bitCount_0f7a4 4 = .ok (.ldc_w 265, 3) := by decide +kernel
theorem dJ6_bitCount_0f7a4_7 : decode cJ6_bitCount_0f7a4 7 = .ok (.iand, 1) := by decide +kernel
theorem dJ6_bitCount_0f7a4_8 : decode cJ6_bitCount_0f7a4 8 = .ok (.isub, 1) := by decide +kernel
theorem dJ6_bitCount_0f7a4_9 : decode cJ6_bitCount_0f7a4 9 = .ok (.istore_n 0, 1) := by decide +kernel
theorem dJ6_bitCount_0f7a4_10 : decode cJ6_bitCount_0f7a4 10 = .ok (.iload_n 0, 1) := by decide +kernel
theorem dJ6_bitCount_0f7a4_11 : decode cJ6_bitCount_0f7a4 11 = .ok (.ldc_w 266, 3) := by decide +kernel
theorem dJ6_bitCount_0f7a4_14 : decode cJ6_bitCount_0f7a4 14 = .ok (.iand, 1) := by decide +kernel
theorem dJ6_bitCount_0f7a4_15 : decode cJ6_bitCount_0f7a4 15 = .ok (.iload_n 0, 1) := by decide +kernel
theorem dJ6_bitCount_0f7a4_16 : decode cJ6_bitCount_0f7a4 16 = .ok (.iconst 2, 1) := by decide +kernel
theorem dJ6_bitCount_0f7a4_17 : decode cJ6_bitCount_0f7a4 17 = .ok (.iushr, 1) := by decide +kernel
theorem dJ6_bitCount_0f7a4_18 : decode cJ6_bitCount_0f7a4 18 = .ok (.ldc_w 266, 3) := by decide +kernel
theorem dJ6_bitCount_0f7a4_21 : decode cJ6_bitCount_0f7a4 21 = .ok (.iand, 1) := by decide +kernel
theorem dJ6_bitCount_0f7a4_22 : decode cJ6_bitCount_0f7a4 22 = .ok (.iadd, 1) := by decide +kernel
theorem dJ6_bitCount_0f7a4_23 : decode cJ6_bitCount_0f7a4 23 = .ok (.istore_n 0, 1) := by decide +kernel
theorem dJ6_bitCount_0f7a4_24 : decode cJ6_bitCount_0f7a4 24 = .ok (.iload_n 0, 1) := by decide +kernel
theorem dJ6_bitCount_0f7a4_25 : decode cJ6_bitCount_0f7a4 25 = .ok (.iload_n 0, 1) := by decide +kernel
theorem dJ6_bitCount_0f7a4_26 : decode cJ6_bitCount_0f7a4 26 = .ok (.iconst 4, 1) := by decide +kernel
theorem dJ6_bitCount_0f7a4_27 : decode cJ6_bitCount_0f7a4 27 = .ok (.iushr, 1) := by decide +kernel
theorem dJ6_bitCount_0f7a4_28 : decode cJ6_bitCount_0f7a4 28 = .ok (.iadd, 1) := by decide +kernel
theorem dJ6_bitCount_0f7a4_29 : decode cJ6_bitCount_0f7a4 29 = .ok (.ldc_w 267, 3) := by decide +kernel
theorem dJ6_bitCount_0f7a4_32 : decode cJ6_bitCount_0f7a4 32 = .ok (.iand, 1) := by decide +kernel
theorem dJ6_bitCount_0f7a4_33 : decode cJ6_bitCount_0f7a4 33 = .ok (.istore_n 0, 1) := by decide +kernel
theorem dJ6_bitCount_0f7a4_34 : decode cJ6_bitCount_0f7a4 34 = .ok (.iload_n 0, 1) := by decide +kernel
theorem dJ6_bitCount_0f7a4_35 : decode cJ6_bitCount_0f7a4 35 = .ok (.iload_n 0, 1) := by decide +kernel
theorem dJ6_bitCount_0f7a4_36 : decode cJ6_bitCount_0f7a4 36 = .ok (.bipush 8, 2) := by decide +kernel
theorem dJ6_bitCount_0f7a4_38 : decode cJ6_bitCount_0f7a4 38 = .ok (.iushr, 1) := by decide +kernel
theorem dJ6_bitCount_0f7a4_39 : decode cJ6_bitCount_0f7a4 39 = .ok (.iadd, 1) := by decide +kernel
theorem dJ6_bitCount_0f7a4_40 : decode cJ6_bitCount_0f7a4 40 = .ok (.istore_n 0, 1) := by decide +kernel
theorem dJ6_bitCount_0f7a4_41 : decode cJ6_bitCount_0f7a4 41 = .ok (.iload_n 0, 1) := by decide +kernel
theorem dJ6_bitCount_0f7a4_42 : decode cJ6_bitCount_0f7a4 42 = .ok (.iload_n 0, 1) := by decide +kernel
theorem dJ6_bitCount_0f7a4_43 : decode cJ6_bitCount_0f7a4 43 = .ok (.bipush 16, 2) := by decide +kernel
theorem dJ6_bitCount_0f7a4_45 : decode cJ6_bitCount_0f7a4 45 = .ok (.iushr, 1) := by decide +kernel
theorem dJ6_bitCount_0f7a4_46 : decode cJ6_bitCount_0f7a4 46 = .ok (.iadd, 1) := by decide +kernel
theorem dJ6_bitCount_0f7a4_47 : decode cJ6_bitCount_0f7a4 47 = .ok (.istore_n 0, 1) := by decide +kernel
theorem dJ6_bitCount_0f7a4_48 : decode cJ6_bitCount_0f7a4 48 = .ok (.iload_n 0, 1) := by decide +kernel
theorem dJ6_bitCount_0f7a4_49 : decode cJ6_bitCount_0f7a4 49 = .ok (.bipush 63, 2) := by decide +kernel
theorem dJ6_bitCount_0f7a4_51 : decode cJ6_bitCount_0f7a4 51 = .ok (.iand, 1) := by decide +kernel
theorem dJ6_bitCount_0f7a4_52 : decode cJ6_bitCount_0f7a4 52 = .ok (.ireturn, 1) := by decide +kernel
theorem dJ0_coder_7d493_0 : decode cJ0_coder_7d493 0 = .ok (.getstatic 38, 3) := by decide +kernel
theorem dJ0_coder_7d493_3 : decode cJ0_coder_7d493 3 = .ok (.ifCond .eq 10, 3) := by decide +kernel
theorem dJ0_coder_7d493_6 : decode cJ0_coder_7d493 6 = .ok (.aload_n 0, 1) := by decide +kernel
theorem dJ0_coder_7d493_7 : decode cJ0_coder_7d493 7 = .ok (.getfield 15, 3) := by decide +kernel
theorem dJ0_coder_7d493_10 : decode cJ0_coder_7d493 10 = .ok (.goto 4, 3) := by decide +kernel
theorem dJ0_coder_7d493_13 : decode cJ0_coder_7d493 13 = .ok (.iconst 1, 1) := by decide +kernel
theorem dJ0_coder_7d493_14 : decode cJ0_coder_7d493 14 = .ok (.ireturn, 1) := by decide +kernel
theorem dJ0_length_8abf5_0 : decode cJ0_length_8abf5 0 = .ok (.aload_n 0, 1) := by decide +kernel
theorem dJ0_length_8abf5_1 : decode cJ0_length_8abf5 1 = .ok (.getfield 9, 3) := by decide +kernel
theorem dJ0_length_8abf5_4 : decode cJ0_length_8abf5 4 = .ok (.arraylength, 1) := by decide +kernel
theorem dJ0_length_8abf5_5 : decode cJ0_length_8abf5 5 = .ok (.aload_n 0, 1) := by decide +kernel
theorem dJ0_length_8abf5_6 : decode cJ0_length_8abf5 6 = .ok (.invokevirtual 335, 3) := by decide +kernel
theorem dJ0_length_8abf5_9 : decode cJ0_length_8abf5 9 = .ok (.ishr, 1) := by decide +kernel
theorem dJ0_length_8abf5_10 : decode cJ0_length_8abf5 10 = .ok (.ireturn, 1) := by decide +kernel
theorem dJ0_isLatin1_aae02_0 : decode cJ0_isLatin1_aae02 0 = .ok (.getstatic 38, 3) := by decide +kernel
theorem dJ0_isLatin1_aae02_3 : decode cJ0_isLatin1_aae02 3 = .ok (.ifCond .eq 14, 3) := by decide +kernel
theorem dJ0_isLatin1_aae02_6 : decode cJ0_isLatin1_aae02 6 = .ok (.aload_n 0, 1) := by decide +kernel
theorem dJ0_isLatin1_aae02_7 : decode cJ0_isLatin1_aae02 7 = .ok (.getfield 15, 3) := by decide +kernel
theorem dJ0_isLatin1_aae02_10 : decode cJ0_isLatin1_aae02 10 = .ok (.ifCond .ne 7, 3) := by decide +kernel
theorem dJ0_isLatin1_aae02_13 : decode cJ0_isLatin1_aae02 13 = .ok (.iconst 1, 1) := by decide +kernel
theorem dJ0_isLatin1_aae02_14 : decode cJ0_isLatin1_aae02 14 = .ok (.goto 4, 3) := by decide +kernel
theorem dJ0_isLatin1_aae02_17 : decode cJ0_isLatin1_aae02 17 = .ok (.iconst 0, 1) := by decide +kernel
theorem dJ0_isLatin1_aae02_18 : decode cJ0_isLatin1_aae02 18 = .ok (.ireturn, 1) := by decide +kernel
theorem dJ1_charAt_3b067_0 : decode cJ1_charAt_3b067 0 = .ok (.iload_n 1, 1) := by decide +kernel
theorem dJ1_charAt_3b067_1 : decode cJ1_charAt_3b067 1 = .ok (.aload_n 0, 1) := by decide +kernel
theorem dJ1_charAt_3b067_2 : decode cJ1_charAt_3b067 2 = .ok (.arraylength, 1) := by decide +kernel
theorem dJ1_charAt_3b067_3 : decode cJ1_charAt_3b067 3 = .ok (.invokestatic 9, 3) := by decide +kernel
theorem dJ1_charAt_3b067_6 : decode cJ1_charAt_3b067 6 = .ok (.aload_n 0, 1) := by decide +kernel
theorem dJ1_charAt_3b067_7 : decode cJ1_charAt_3b067 7 = .ok (.iload_n 1, 1) := by decide +kernel
theorem dJ1_charAt_3b067_8 : decode cJ1_charAt_3b067 8 = .ok (.baload, 1) := by decide +kernel
theorem dJ1_charAt_3b067_9 : decode cJ1_charAt_3b067 9 = .ok (.sipush 255, 3) := by decide +kernel
theorem dJ1_charAt_3b067_12 : decode cJ1_charAt_3b067 12 = .ok (.iand, 1) := by decide +kernel
theorem dJ1_charAt_3b067_13 : decode cJ1_charAt_3b067 13 = .ok (.i2c, 1) := by decide +kernel
theorem dJ1_charAt_3b067_14 : decode cJ1_charAt_3b067 14 = .ok (.ireturn, 1) := by decide +kernel
theorem dJ0_charAt_5068e_0 : decode cJ0_charAt_5068e 0 = .ok (.aload_n 0, 1) := by decide +kernel
theorem dJ0_charAt_5068e_1 : decode cJ0_charAt_5068e 1 = .ok (.invokevirtual 492, 3) := by decide +kernel
theorem dJ0_charAt_5068e_4 : decode cJ0_charAt_5068e 4 = .ok (.ifCond .eq 12, 3) := by decide +kernel
theorem dJ0_charAt_5068e_7 : decode cJ0_charAt_5068e 7 = .ok (.aload_n 0, 1) := by decide +kernel
theorem dJ0_charAt_5068e_8 : decode cJ0_charAt_5068e 8 = .ok (.getfield 9, 3) := by decide +kernel
theorem dJ0_charAt_5068e_11 : decode cJ0_charAt_5068e 11 = .ok (.iload_n 1, 1) := by decide +kernel
theorem dJ0_charAt_5068e_12 : decode cJ0_charAt_5068e 12 = .ok (.invokestatic 495, 3) := by decide +kernel
theorem dJ0_charAt_5068e_15 : decode cJ0_charAt_5068e 15 = .ok (.ireturn, 1) := by decide +kernel
theorem dJ0_charAt_5068e_16 : decode cJ0_charAt_5068e 16 = .ok (.aload_n 0, 1) := by decide +kernel
theorem dJ0_charAt_5068e_17 : decode cJ0_charAt_5068e 17 = .ok (.getfield 9, 3) := by decide +kernel
theorem dJ0_charAt_5068e_20 : decode cJ0_charAt_5068e 20 = .ok (.iload_n 1, 1) := by decide +kernel
theorem dJ0_charAt_5068e_21 : decode cJ0_charAt_5068e 21 = .ok (.invokestatic 498, 3) := by decide +kernel
theorem dJ0_charAt_5068e_24 : decode cJ0_charAt_5068e 24 = .ok (.ireturn, 1) := by decide +kernel
theorem dJ6_compare_7cf53_0 : decode cJ6_compare_7cf53 0 = .ok (.iload_n 0, 1) := by decide +kernel
theorem dJ6_compare_7cf53_1 : decode cJ6_compare_7cf53 1 = .ok (.iload_n 1, 1) := by decide +kernel
theorem dJ6_compare_7cf53_2 : decode cJ6_compare_7cf53 2 = .ok (.if_icmp .ge 7, 3) := by decide +kernel
theorem dJ6_compare_7cf53_5 : decode cJ6_compare_7cf53 5 = .ok (.iconst (-1), 1) := by decide +kernel
theorem dJ6_compare_7cf53_6 : decode cJ6_compare_7cf53 6 = .ok (.goto 13, 3) := by decide +kernel
theorem dJ6_compare_7cf53_9 : decode cJ6_compare_7cf53 9 = .ok (.iload_n 0, 1) := by decide +kernel
theorem dJ6_compare_7cf53_10 : decode cJ6_compare_7cf53 10 = .ok (.iload_n 1, 1) := by decide +kernel
theorem dJ6_compare_7cf53_11 : decode cJ6_compare_7cf53 11 = .ok (.if_icmp .ne 7, 3) := by decide +kernel
theorem dJ6_compare_7cf53_14 : decode cJ6_compare_7cf53 14 = .ok (.iconst 0, 1) := by decide +kernel
theorem dJ6_compare_7cf53_15 : decode cJ6_compare_7cf53 15 = .ok (.goto 4, 3) := by decide +kernel
theorem dJ6_compare_7cf53_18 : decode cJ6_compare_7cf53 18 = .ok (.iconst 1, 1) := by decide +kernel
theorem dJ6_compare_7cf53_19 : decode cJ6_compare_7cf53 19 = .ok (.ireturn, 1) := by decide +kernel
theorem dJ6_numberOfTrailingZeros_0f7a4_0 : decode cJ6_numberOfTrailingZeros_0f7a4 0 = .ok (.iload_n 0, 1) := by decide +kernel
theorem dJ6_numberOfTrailingZeros_0f7a4_1 : decode cJ6_numberOfTrailingZeros_0f7a4 1 = .ok (.iconst (-1), 1) := by decide +kernel
theorem dJ6_numberOfTrailingZeros_0f7a4_2 : decode cJ6_numberOfTrailingZeros_0f7a4 2 = .ok (.ixor, 1) := by decide +kernel
theorem dJ6_numberOfTrailingZeros_0f7a4_3 : decode cJ6_numberOfTrailingZeros_0f7a4 3 = .ok (.iload_n 0, 1) := by decide +kernel
theorem dJ6_numberOfTrailingZeros_0f7a4_4 : decode cJ6_numberOfTrailingZeros_0f7a4 4 = .ok (.iconst 1, 1) := by decide +kernel
theorem dJ6_numberOfTrailingZeros_0f7a4_5 : decode cJ6_numberOfTrailingZeros_0f7a4 5 = .ok (.isub, 1) := by decide +kernel
theorem dJ6_numberOfTrailingZeros_0f7a4_6 : decode cJ6_numberOfTrailingZeros_0f7a4 6 = .ok (.iand, 1) := by decide +kernel
theorem dJ6_numberOfTrailingZeros_0f7a4_7 : decode cJ6_numberOfTrailingZeros_0f7a4 7 = .ok (.istore_n 0, 1) := by decide +kernel
theorem dJ6_numberOfTrailingZeros_0f7a4_8 : decode cJ6_numberOfTrailingZeros_0f7a4 8 = .ok (.iload_n 0, 1) := by decide +kernel
theorem dJ6_numberOfTrailingZeros_0f7a4_9 : decode cJ6_numberOfTrailingZeros_0f7a4 9 = .ok (.ifCond .gt 8, 3) := by decide +kernel
theorem dJ6_numberOfTrailingZeros_0f7a4_12 : decode cJ6_numberOfTrailingZeros_0f7a4 12 = .ok (.iload_n 0, 1) := by decide +kernel
theorem dJ6_numberOfTrailingZeros_0f7a4_13 : decode cJ6_numberOfTrailingZeros_0f7a4 13 = .ok (.bipush 32, 2) := by decide +kernel
theorem dJ6_numberOfTrailingZeros_0f7a4_15 : decode cJ6_numberOfTrailingZeros_0f7a4 15 = .ok (.iand, 1) := by decide +kernel
theorem dJ6_numberOfTrailingZeros_0f7a4_16 : decode cJ6_numberOfTrailingZeros_0f7a4 16 = .ok (.ireturn, 1) := by decide +kernel
theorem dJ6_numberOfTrailingZeros_0f7a4_17 : decode cJ6_numberOfTrailingZeros_0f7a4 17 = .ok (.iconst 1, 1) := by decide +kernel
theorem dJ6_numberOfTrailingZeros_0f7a4_18 : decode cJ6_numberOfTrailingZeros_0f7a4 18 = .ok (.istore_n 1, 1) := by decide +kernel
theorem dJ6_numberOfTrailingZeros_0f7a4_19 : decode cJ6_numberOfTrailingZeros_0f7a4 19 = .ok (.iload_n 0, 1) := by decide +kernel
theorem dJ6_numberOfTrailingZeros_0f7a4_20 : decode cJ6_numberOfTrailingZeros_0f7a4 20 = .ok (.ldc_w 264, 3) := by decide +kernel
theorem dJ6_numberOfTrailingZeros_0f7a4_23 : decode cJ6_numberOfTrailingZeros_0f7a4 23 = .ok (.if_icmp .le 11, 3) := by decide +kernel
theorem dJ6_numberOfTrailingZeros_0f7a4_26 : decode cJ6_numberOfTrailingZeros_0f7a4 26 = .ok (.iinc 1 16, 3) := by decide +kernel
theorem dJ6_numberOfTrailingZeros_0f7a4_29 : decode cJ6_numberOfTrailingZeros_0f7a4 29 = .ok (.iload_n 0, 1) := by decide +kernel
theorem dJ6_numberOfTrailingZeros_0f7a4_30 : decode cJ6_numberOfTrailingZeros_0f7a4 30 = .ok (.bipush 16, 2) := by decide +kernel
theorem dJ6_numberOfTrailingZeros_0f7a4_32 : decode cJ6_numberOfTrailingZeros_0f7a4 32 = .ok (.iushr, 1) := by decide +kernel
theorem dJ6_numberOfTrailingZeros_0f7a4_33 : decode cJ6_numberOfTrailingZeros_0f7a4 33 = .ok (.istore_n 0, 1) := by decide +kernel
theorem dJ6_numberOfTrailingZeros_0f7a4_34 : decode cJ6_numberOfTrailingZeros_0f7a4 34 = .ok (.iload_n 0, 1) := by decide +kernel
theorem dJ6_numberOfTrailingZeros_0f7a4_35 : decode cJ6_numberOfTrailingZeros_0f7a4 35 = .ok (.sipush 256, 3) := by decide +kernel
theorem dJ6_numberOfTrailingZeros_0f7a4_38 : decode cJ6_numberOfTrailingZeros_0f7a4 38 = .ok (.if_icmp .le 11, 3) := by decide +kernel
theorem dJ6_numberOfTrailingZeros_0f7a4_41 : decode cJ6_numberOfTrailingZeros_0f7a4 41 = .ok (.iinc 1 8, 3) := by decide +kernel
theorem dJ6_numberOfTrailingZeros_0f7a4_44 : decode cJ6_numberOfTrailingZeros_0f7a4 44 = .ok (.iload_n 0, 1) := by decide +kernel
theorem dJ6_numberOfTrailingZeros_0f7a4_45 : decode cJ6_numberOfTrailingZeros_0f7a4 45 = .ok (.bipush 8, 2) := by decide +kernel
theorem dJ6_numberOfTrailingZeros_0f7a4_47 : decode cJ6_numberOfTrailingZeros_0f7a4 47 = .ok (.iushr, 1) := by decide +kernel
theorem dJ6_numberOfTrailingZeros_0f7a4_48 : decode cJ6_numberOfTrailingZeros_0f7a4 48 = .ok (.istore_n 0, 1) := by decide +kernel
theorem dJ6_numberOfTrailingZeros_0f7a4_49 : decode cJ6_numberOfTrailingZeros_0f7a4 49 = .ok (.iload_n 0, 1) := by decide +kernel
theorem dJ6_numberOfTrailingZeros_0f7a4_50 : decode cJ6_numberOfTrailingZeros_0f7a4 50 = .ok (.bipush 16, 2) := by decide +kernel
theorem dJ6_numberOfTrailingZeros_0f7a4_52 : decode cJ6_numberOfTrailingZeros_0f7a4 52 = .ok (.if_icmp .le 10, 3) := by decide +kernel
theorem dJ6_numberOfTrailingZeros_0f7a4_55 : decode cJ6_numberOfTrailingZeros_0f7a4 55 = .ok (.iinc 1 4, 3) := by decide +kernel
theorem dJ6_numberOfTrailingZeros_0f7a4_58 : decode cJ6_numberOfTrailingZeros_0f7a4 58 = .ok (.iload_n 0, 1) := by decide +kernel
theorem dJ6_numberOfTrailingZeros_0f7a4_59 : decode cJ6_numberOfTrailingZeros_0f7a4 59 = .ok (.iconst 4, 1) := by decide +kernel
theorem dJ6_numberOfTrailingZeros_0f7a4_60 : decode cJ6_numberOfTrailingZeros_0f7a4 60 = .ok (.iushr, 1) := by decide +kernel
theorem dJ6_numberOfTrailingZeros_0f7a4_61 : decode cJ6_numberOfTrailingZeros_0f7a4 61 = .ok (.istore_n 0, 1) := by decide +kernel
theorem dJ6_numberOfTrailingZeros_0f7a4_62 : decode cJ6_numberOfTrailingZeros_0f7a4 62 = .ok (.iload_n 0, 1) := by decide +kernel
theorem dJ6_numberOfTrailingZeros_0f7a4_63 : decode cJ6_numberOfTrailingZeros_0f7a4 63 = .ok (.iconst 4, 1) := by decide +kernel
theorem dJ6_numberOfTrailingZeros_0f7a4_64 : decode cJ6_numberOfTrailingZeros_0f7a4 64 = .ok (.if_icmp .le 10, 3) := by decide +kernel
theorem dJ6_numberOfTrailingZeros_0f7a4_67 : decode cJ6_numberOfTrailingZeros_0f7a4 67 = .ok (.iinc 1 2, 3) := by decide +kernel
theorem dJ6_numberOfTrailingZeros_0f7a4_70 : decode cJ6_numberOfTrailingZeros_0f7a4 70 = .ok (.iload_n 0, 1) := by decide +kernel
theorem dJ6_numberOfTrailingZeros_0f7a4_71 : decode cJ6_numberOfTrailingZeros_0f7a4 71 = .ok (.iconst 2, 1) := by decide +kernel
theorem dJ6_numberOfTrailingZeros_0f7a4_72 : decode cJ6_numberOfTrailingZeros_0f7a4 72 = .ok (.iushr, 1) := by decide +kernel
theorem dJ6_numberOfTrailingZeros_0f7a4_73 : decode cJ6_numberOfTrailingZeros_0f7a4 73 = .ok (.istore_n 0, 1) := by decide +kernel
theorem dJ6_numberOfTrailingZeros_0f7a4_74 : decode cJ6_numberOfTrailingZeros_0f7a4 74 = .ok (.iload_n 1, 1) := by decide +kernel
theorem dJ6_numberOfTrailingZeros_0f7a4_75 : decode cJ6_numberOfTrailingZeros_0f7a4 75 = .ok (.iload_n 0, 1) := by decide +kernel
theorem dJ6_numberOfTrailingZeros_0f7a4_76 : decode cJ6_numberOfTrailingZeros_0f7a4 76 = .ok (.iconst 1, 1) := by decide +kernel
theorem dJ6_numberOfTrailingZeros_0f7a4_77 : decode cJ6_numberOfTrailingZeros_0f7a4 77 = .ok (.iushr, 1) := by decide +kernel
theorem dJ6_numberOfTrailingZeros_0f7a4_78 : decode cJ6_numberOfTrailingZeros_0f7a4 78 = .ok (.iadd, 1) := by decide +kernel
theorem dJ6_numberOfTrailingZeros_0f7a4_79 : decode cJ6_numberOfTrailingZeros_0f7a4 79 = .ok (.ireturn, 1) := by decide +kernel
def fJ7_fill_53178_L5 (k z : Nat) (x1 : Int32) (x3 : Int32) (K20 : zMem → zRes) : Nat → Int32 → zMem → zRes
  | 0, _, _ => none
  | n + 1, x2, μ => if x3 ≤ x2 then K20 μ else zin x2 z (zlet (zset μ k x2.toNatClampNeg x1) (fun (μ5 : zMem) => fJ7_fill_53178_L5 k z x1 x3 K20 n (x2 + (1 : Int32)) μ5))
def fJ7_fill_53178 (k z : Nat) (x1 : Int32) (μ : zMem) : zRes := zlet (Int32.ofNat z) (fun (v1 : Int32) => fJ7_fill_53178_L5 k z x1 v1 (fun (μ6 : zMem) => some (0, 0, μ6)) zF (0 : Int32) μ)
set_option maxHeartbeats 1000000 in
theorem tJ7_fill_53178_L5 {nn : Nat} {SS : Nat → zSh} {k z : Nat} {rf : Nat → Option Nat} (hb : k < nn) (hs : SS k = (1, 0, z, rf)) (x1 : Int32) (x3 : Int32) (K20 : zMem → zRes) (hK20 : ∀ (μ : zMem), zR yJ7_fill_53178 cJ7_fill_53178 4 (none) 1 20 [.null, .null, .null, .null] [] nn SS μ (K20 μ)) : ∀ (n : Nat) (x2 : Int32) (μ : zMem), zR yJ7_fill_53178 cJ7_fill_53178 4 (none) 1 5 [.ref k, .int x1, .int x2, .int x3] [] nn SS μ (fJ7_fill_53178_L5 k z x1 x3 K20 n x2 μ) := by
  intro n
  induction n with
  | zero => intro x2 μ; intro q hq; cases hq
  | succ n ih =>
    intro x2 μ
    unfold fJ7_fill_53178_L5
    refine z_iload_n (pc := 5) dJ7_fill_53178_5 rfl ?_
    refine z_iload_n (pc := 6) dJ7_fill_53178_6 rfl ?_
    refine z_icmp_ge (pc := 7) (tgt := 20) dJ7_fill_53178_7 (by decide) (fun c2 => ?_) (fun c3 => ?_)
    · refine z_loc (L' := [.null, .null, .null, .null]) ⟨Or.inl rfl, ⟨Or.inl rfl, ⟨Or.inl rfl, ⟨Or.inl rfl, trivial⟩⟩⟩⟩ ?_
      exact hK20 μ
    · refine z_aload_n (pc := 10) dJ7_fill_53178_10 rfl ?_
      refine z_iload_n (pc := 11) dJ7_fill_53178_11 rfl ?_
      refine z_iload_n (pc := 12) dJ7_fill_53178_12 rfl ?_
      refine z_iast (pc := 13) hb hs rfl dJ7_fill_53178_13 (fun h4 => ?_)
      refine z_mem (fun μ5 => ?_)
      refine z_iinc (pc := 14) (v := x2 + (1 : Int32)) (L' := [.ref k, .int x1, .int (x2 + (1 : Int32)), .int x3]) dJ7_fill_53178_14 (by decide) rfl (congrArg _ (by decide)) rfl ?_
      refine z_goto (pc := 17) (tgt := 5) dJ7_fill_53178_17 (by decide) ?_
      exact ih (x2 + (1 : Int32)) μ5
set_option maxHeartbeats 1000000 in
theorem tJ7_fill_53178 {nn : Nat} {SS : Nat → zSh} {k z : Nat} {rf : Nat → Option Nat} (hb : k < nn) (hs : SS k = (1, 0, z, rf)) (x1 : Int32) (μ : zMem) : zMR yJ7_fill_53178 cJ7_fill_53178 4 (none) 1 [.ref k, .int x1] nn SS μ (fJ7_fill_53178 k z x1 μ) := by
  refine zMR_of (by decide +kernel) rfl (Nat.le_of_ble_eq_true rfl) (L := [.ref k, .int x1, .null, .null]) rfl ?_
  unfold fJ7_fill_53178
  refine z_iconst (pc := 0) (0 : Int32) dJ7_fill_53178_0 (by decide) ?_
  refine z_istore_n (pc := 1) (L' := [.ref k, .int x1, .int (0 : Int32), .null]) dJ7_fill_53178_1 (by decide) rfl ?_
  refine z_aload_n (pc := 2) dJ7_fill_53178_2 rfl ?_
  refine z_alen (pc := 3) hb hs rfl rfl dJ7_fill_53178_3 ?_
  refine z_val (fun v1 => ?_)
  refine z_istore_n (pc := 4) (L' := [.ref k, .int x1, .int (0 : Int32), .int v1]) dJ7_fill_53178_4 (by decide) rfl ?_
  refine tJ7_fill_53178_L5 hb hs _ _ _ (fun μ6 => ?_) zF _ _
  · exact z_vret (pc := 20) rfl dJ7_fill_53178_20
def fJ7_rangeCheck_23922 (x0 : Int32) (x1 : Int32) (x2 : Int32) (μ : zMem) : zRes := if x1 ≤ x2 then if 0 ≤ x1 then if x2 ≤ x0 then some (0, 0, μ) else none else none else none
set_option maxHeartbeats 1000000 in
theorem tJ7_rangeCheck_23922 {nn : Nat} {SS : Nat → zSh} (x0 : Int32) (x1 : Int32) (x2 : Int32) (μ : zMem) : zMR yJ7_rangeCheck_23922 cJ7_rangeCheck_23922 3 (none) 1 [.int x0, .int x1, .int x2] nn SS μ (fJ7_rangeCheck_23922 x0 x1 x2 μ) := by
  refine zMR_of (by decide +kernel) rfl (Nat.le_of_ble_eq_true rfl) (L := [.int x0, .int x1, .int x2]) rfl ?_
  unfold fJ7_rangeCheck_23922
  refine z_iload_n (pc := 0) dJ7_rangeCheck_23922_0 rfl ?_
  refine z_iload_n (pc := 1) dJ7_rangeCheck_23922_1 rfl ?_
  refine z_icmp_le (pc := 2) (tgt := 46) dJ7_rangeCheck_23922_2 (by decide) (fun c1 => ?_) (fun c2 => ?_)
  · refine z_iload_n (pc := 46) dJ7_rangeCheck_23922_46 rfl ?_
    refine z_if_ge (pc := 47) (tgt := 59) dJ7_rangeCheck_23922_47 (by decide) (fun c3 => ?_) (fun c4 => ?_)
    · refine z_iload_n (pc := 59) dJ7_rangeCheck_23922_59 rfl ?_
      refine z_iload_n (pc := 60) dJ7_rangeCheck_23922_60 rfl ?_
      refine z_icmp_le (pc := 61) (tgt := 73) dJ7_rangeCheck_23922_61 (by decide) (fun c5 => ?_) (fun c6 => ?_)
      · exact z_vret (pc := 73) rfl dJ7_rangeCheck_23922_73
      · exact z_none
    · exact z_none
  · exact z_none
def fJ7_fill_fda19_L10 (k z : Nat) (x2 : Int32) (x3 : Int32) (K27 : zMem → zRes) : Nat → Int32 → zMem → zRes
  | 0, _, _ => none
  | n + 1, x4, μ => if x2 ≤ x4 then K27 μ else zin x4 z (zlet (zset μ k x4.toNatClampNeg x3) (fun (μ6 : zMem) => fJ7_fill_fda19_L10 k z x2 x3 K27 n (x4 + (1 : Int32)) μ6))
def fJ7_fill_fda19 (k z : Nat) (x1 : Int32) (x2 : Int32) (x3 : Int32) (μ : zMem) : zRes := bnd0 (fJ7_rangeCheck_23922 (Int32.ofNat z) x1 x2 μ) (fun (v1 : Int32) (μ2 : zMem) => fJ7_fill_fda19_L10 k z x2 x3 (fun (μ7 : zMem) => some (0, 0, μ7)) zF x1 μ2)
set_option maxHeartbeats 1000000 in
theorem tJ7_fill_fda19_L10 {nn : Nat} {SS : Nat → zSh} {k z : Nat} {rf : Nat → Option Nat} (hb : k < nn) (hs : SS k = (1, 0, z, rf)) (x2 : Int32) (x3 : Int32) (K27 : zMem → zRes) (hK27 : ∀ (μ : zMem), zR yJ7_fill_fda19 cJ7_fill_fda19 5 (none) 2 27 [.null, .null, .null, .null, .null] [] nn SS μ (K27 μ)) : ∀ (n : Nat) (x4 : Int32) (μ : zMem), zR yJ7_fill_fda19 cJ7_fill_fda19 5 (none) 2 10 [.ref k, .null, .int x2, .int x3, .int x4] [] nn SS μ (fJ7_fill_fda19_L10 k z x2 x3 K27 n x4 μ) := by
  intro n
  induction n with
  | zero => intro x4 μ; intro q hq; cases hq
  | succ n ih =>
    intro x4 μ
    unfold fJ7_fill_fda19_L10
    refine z_iload (pc := 10) dJ7_fill_fda19_10 rfl ?_
    refine z_iload_n (pc := 12) dJ7_fill_fda19_12 rfl ?_
    refine z_icmp_ge (pc := 13) (tgt := 27) dJ7_fill_fda19_13 (by decide) (fun c3 => ?_) (fun c4 => ?_)
    · refine z_loc (L' := [.null, .null, .null, .null, .null]) ⟨Or.inl rfl, ⟨Or.inl rfl, ⟨Or.inl rfl, ⟨Or.inl rfl, ⟨Or.inl rfl, trivial⟩⟩⟩⟩⟩ ?_
      exact hK27 μ
    · refine z_aload_n (pc := 16) dJ7_fill_fda19_16 rfl ?_
      refine z_iload (pc := 17) dJ7_fill_fda19_17 rfl ?_
      refine z_iload_n (pc := 19) dJ7_fill_fda19_19 rfl ?_
      refine z_iast (pc := 20) hb hs rfl dJ7_fill_fda19_20 (fun h5 => ?_)
      refine z_mem (fun μ6 => ?_)
      refine z_iinc (pc := 21) (v := x4 + (1 : Int32)) (L' := [.ref k, .null, .int x2, .int x3, .int (x4 + (1 : Int32))]) dJ7_fill_fda19_21 (by decide) rfl (congrArg _ (by decide)) rfl ?_
      refine z_goto (pc := 24) (tgt := 10) dJ7_fill_fda19_24 (by decide) ?_
      exact ih (x4 + (1 : Int32)) μ6
set_option maxHeartbeats 1000000 in
theorem tJ7_fill_fda19 {nn : Nat} {SS : Nat → zSh} {k z : Nat} {rf : Nat → Option Nat} (hb : k < nn) (hs : SS k = (1, 0, z, rf)) (x1 : Int32) (x2 : Int32) (x3 : Int32) (μ : zMem) : zMR yJ7_fill_fda19 cJ7_fill_fda19 5 (none) 2 [.ref k, .int x1, .int x2, .int x3] nn SS μ (fJ7_fill_fda19 k z x1 x2 x3 μ) := by
  refine zMR_of (by decide +kernel) rfl (Nat.le_of_ble_eq_true rfl) (L := [.ref k, .int x1, .int x2, .int x3, .null]) rfl ?_
  unfold fJ7_fill_fda19
  refine z_aload_n (pc := 0) dJ7_fill_fda19_0 rfl ?_
  refine z_alen (pc := 1) hb hs rfl rfl dJ7_fill_fda19_1 ?_
  refine z_iload_n (pc := 2) dJ7_fill_fda19_2 rfl ?_
  refine z_iload_n (pc := 3) dJ7_fill_fda19_3 rfl ?_
  refine z_callS (As := [.int (Int32.ofNat z), .int x1, .int x2]) (pc := 4) (ret' := none) ksJ7_13 (tJ7_rangeCheck_23922 _ _ _ _) (by decide)  rfl rfl (Nat.le_of_ble_eq_true rfl) dJ7_fill_fda19_4 (fun v1 μ2 => ?_)
  refine z_iload_n (pc := 7) dJ7_fill_fda19_7 rfl ?_
  refine z_istore (pc := 8) (L' := [.ref k, .int x1, .int x2, .int x3, .int x1]) dJ7_fill_fda19_8 (by decide) rfl ?_
  refine z_loc (L' := [.ref k, .null, .int x2, .int x3, .int x1]) ⟨Or.inr rfl, ⟨Or.inl rfl, ⟨Or.inr rfl, ⟨Or.inr rfl, ⟨Or.inr rfl, trivial⟩⟩⟩⟩⟩ ?_
  refine tJ7_fill_fda19_L10 hb hs _ _ _ (fun μ7 => ?_) zF _ _
  · exact z_vret (pc := 27) rfl dJ7_fill_fda19_27
def fJ6_bitCount_0f7a4 (x0 : Int32) (μ : zMem) : zRes := zlet (x0 - ((zushr x0 (1 : Int32)) &&& (1431655765 : Int32))) (fun (v1 : Int32) => zlet ((v1 &&& (858993459 : Int32)) + ((zushr v1 (2 : Int32)) &&& (858993459 : Int32))) (fun (v2 : Int32) => zlet ((v2 + (zushr v2 (4 : Int32))) &&& (252645135 : Int32)) (fun (v3 : Int32) => zlet (v3 + (zushr v3 (8 : Int32))) (fun (v4 : Int32) => zlet (v4 + (zushr v4 (16 : Int32))) (fun (v5 : Int32) => some (0, v5 &&& (63 : Int32), μ))))))
set_option maxHeartbeats 1000000 in
theorem tJ6_bitCount_0f7a4 {nn : Nat} {SS : Nat → zSh} (x0 : Int32) (μ : zMem) : zMR yJ6_bitCount_0f7a4 cJ6_bitCount_0f7a4 1 (some .int) 1 [.int x0] nn SS μ (fJ6_bitCount_0f7a4 x0 μ) := by
  refine zMR_of (by decide +kernel) rfl (Nat.le_of_ble_eq_true rfl) (L := [.int x0]) rfl ?_
  unfold fJ6_bitCount_0f7a4
  refine z_iload_n (pc := 0) dJ6_bitCount_0f7a4_0 rfl ?_
  refine z_iload_n (pc := 1) dJ6_bitCount_0f7a4_1 rfl ?_
  refine z_iconst (pc := 2) (1 : Int32) dJ6_bitCount_0f7a4_2 (by decide) ?_
  refine z_iushr (pc := 3) dJ6_bitCount_0f7a4_3 ?_
  refine z_ldcw (pc := 4) (1431655765 : Int32) kcJ6_265 dJ6_bitCount_0f7a4_4 ?_
  refine z_iand (pc := 7) dJ6_bitCount_0f7a4_7 ?_
  refine z_isub (pc := 8) dJ6_bitCount_0f7a4_8 ?_
  refine z_val (fun v1 => ?_)
  refine z_istore_n (pc := 9) (L' := [.int v1]) dJ6_bitCount_0f7a4_9 (by decide) rfl ?_
  refine z_iload_n (pc := 10) dJ6_bitCount_0f7a4_10 rfl ?_
  refine z_ldcw (pc := 11) (858993459 : Int32) kcJ6_266 dJ6_bitCount_0f7a4_11 ?_
  refine z_iand (pc := 14) dJ6_bitCount_0f7a4_14 ?_
  refine z_iload_n (pc := 15) dJ6_bitCount_0f7a4_15 rfl ?_
  refine z_iconst (pc := 16) (2 : Int32) dJ6_bitCount_0f7a4_16 (by decide) ?_
  refine z_iushr (pc := 17) dJ6_bitCount_0f7a4_17 ?_
  refine z_ldcw (pc := 18) (858993459 : Int32) kcJ6_266 dJ6_bitCount_0f7a4_18 ?_
  refine z_iand (pc := 21) dJ6_bitCount_0f7a4_21 ?_
  refine z_iadd (pc := 22) dJ6_bitCount_0f7a4_22 ?_
  refine z_val (fun v2 => ?_)
  refine z_istore_n (pc := 23) (L' := [.int v2]) dJ6_bitCount_0f7a4_23 (by decide) rfl ?_
  refine z_iload_n (pc := 24) dJ6_bitCount_0f7a4_24 rfl ?_
  refine z_iload_n (pc := 25) dJ6_bitCount_0f7a4_25 rfl ?_
  refine z_iconst (pc := 26) (4 : Int32) dJ6_bitCount_0f7a4_26 (by decide) ?_
  refine z_iushr (pc := 27) dJ6_bitCount_0f7a4_27 ?_
  refine z_iadd (pc := 28) dJ6_bitCount_0f7a4_28 ?_
  refine z_ldcw (pc := 29) (252645135 : Int32) kcJ6_267 dJ6_bitCount_0f7a4_29 ?_
  refine z_iand (pc := 32) dJ6_bitCount_0f7a4_32 ?_
  refine z_val (fun v3 => ?_)
  refine z_istore_n (pc := 33) (L' := [.int v3]) dJ6_bitCount_0f7a4_33 (by decide) rfl ?_
  refine z_iload_n (pc := 34) dJ6_bitCount_0f7a4_34 rfl ?_
  refine z_iload_n (pc := 35) dJ6_bitCount_0f7a4_35 rfl ?_
  refine z_bipush (pc := 36) (8 : Int32) dJ6_bitCount_0f7a4_36 (by decide) ?_
  refine z_iushr (pc := 38) dJ6_bitCount_0f7a4_38 ?_
  refine z_iadd (pc := 39) dJ6_bitCount_0f7a4_39 ?_
  refine z_val (fun v4 => ?_)
  refine z_istore_n (pc := 40) (L' := [.int v4]) dJ6_bitCount_0f7a4_40 (by decide) rfl ?_
  refine z_iload_n (pc := 41) dJ6_bitCount_0f7a4_41 rfl ?_
  refine z_iload_n (pc := 42) dJ6_bitCount_0f7a4_42 rfl ?_
  refine z_bipush (pc := 43) (16 : Int32) dJ6_bitCount_0f7a4_43 (by decide) ?_
  refine z_iushr (pc := 45) dJ6_bitCount_0f7a4_45 ?_
  refine z_iadd (pc := 46) dJ6_bitCount_0f7a4_46 ?_
  refine z_val (fun v5 => ?_)
  refine z_istore_n (pc := 47) (L' := [.int v5]) dJ6_bitCount_0f7a4_47 (by decide) rfl ?_
  refine z_iload_n (pc := 48) dJ6_bitCount_0f7a4_48 rfl ?_
  refine z_bipush (pc := 49) (63 : Int32) dJ6_bitCount_0f7a4_49 (by decide) ?_
  refine z_iand (pc := 51) dJ6_bitCount_0f7a4_51 ?_
  exact z_iret (pc := 52) rfl dJ6_bitCount_0f7a4_52
def fJ0_coder_7d493 (w : Nat) (μ : zMem) : zRes := zlet (fun (s1 : Int32) => zbl s1 (some (0, s1, μ))) (fun j2 => if (1 : Int32) = 0 then j2 (1 : Int32) else j2 (0 : Int32))
set_option maxHeartbeats 1000000 in
theorem tJ0_coder_7d493 {nn : Nat} {SS : Nat → zSh} {w : Nat} (hw : w < 8) (μ : zMem) : zMR yJ0_coder_7d493 cJ0_coder_7d493 1 (some .byte) 1 [.ref (1000000 + w)] nn SS μ (fJ0_coder_7d493 w μ) := by
  refine zMR_of (by decide +kernel) rfl (Nat.le_of_ble_eq_true rfl) (L := [.ref (1000000 + w)]) rfl ?_
  unfold fJ0_coder_7d493
  refine z_gsC (pc := 0) ksJ0_38 dJ0_coder_7d493_0 ?_
  refine z_let (fun (j : Int32 → zRes) => ∀ (s1 : Int32), zR yJ0_coder_7d493 cJ0_coder_7d493 1 (some .byte) 1 14 [.null] [.int s1] nn SS μ (j s1)) ?_ (fun j2 hj2 => ?_)
  · intro s1
    exact z_b0ret (pc := 14) rfl dJ0_coder_7d493_14
  · refine z_if_eq (pc := 3) (tgt := 13) dJ0_coder_7d493_3 (by decide) (fun c3 => ?_) (fun c4 => ?_)
    · refine z_iconst (pc := 13) (1 : Int32) dJ0_coder_7d493_13 (by decide) ?_
      refine z_loc (L' := [.null]) ⟨Or.inl rfl, trivial⟩ ?_
      exact hj2 (1 : Int32)
    · refine z_aload_n (pc := 6) dJ0_coder_7d493_6 rfl ?_
      refine z_strc (pc := 7) hw ksJ0_15 dJ0_coder_7d493_7 ?_
      refine z_goto (pc := 10) (tgt := 14) dJ0_coder_7d493_10 (by decide) ?_
      refine z_loc (L' := [.null]) ⟨Or.inl rfl, trivial⟩ ?_
      exact hj2 (0 : Int32)
def fJ0_length_8abf5 (w : Nat) (μ : zMem) : zRes := bnd0 (fJ0_coder_7d493 w μ) (fun (v1 : Int32) (μ2 : zMem) => some (0, zshr (zsl w) v1, μ2))
set_option maxHeartbeats 1000000 in
theorem tJ0_length_8abf5 {nn : Nat} {SS : Nat → zSh} {w : Nat} (hw : w < 8) (μ : zMem) : zMR yJ0_length_8abf5 cJ0_length_8abf5 1 (some .int) 2 [.ref (1000000 + w)] nn SS μ (fJ0_length_8abf5 w μ) := by
  refine zMR_of (by decide +kernel) rfl (Nat.le_of_ble_eq_true rfl) (L := [.ref (1000000 + w)]) rfl ?_
  unfold fJ0_length_8abf5
  refine z_aload_n (pc := 0) dJ0_length_8abf5_0 rfl ?_
  refine z_strv (pc := 1) hw ksJ0_9 dJ0_length_8abf5_1 ?_
  refine z_blen (pc := 4) hw dJ0_length_8abf5_4 ?_
  refine z_aload_n (pc := 5) dJ0_length_8abf5_5 rfl ?_
  refine z_callW (As := []) (pc := 6) (ret' := some .byte) hw kwJ0_335 (tJ0_coder_7d493 hw _) (by decide)  rfl rfl (Nat.le_of_ble_eq_true rfl) dJ0_length_8abf5_6 (fun v1 μ2 => ?_)
  refine z_ishr (pc := 9) dJ0_length_8abf5_9 ?_
  exact z_iret (pc := 10) rfl dJ0_length_8abf5_10
def fJ0_isLatin1_aae02 (w : Nat) (μ : zMem) : zRes := zlet (fun (s1 : Int32) => zbl s1 (some (0, s1, μ))) (fun j2 => zlet (j2 (0 : Int32)) (fun j3 => if (1 : Int32) = 0 then j3 else if (0 : Int32) = 0 then j2 (1 : Int32) else j3))
set_option maxHeartbeats 1000000 in
theorem tJ0_isLatin1_aae02 {nn : Nat} {SS : Nat → zSh} {w : Nat} (hw : w < 8) (μ : zMem) : zMR yJ0_isLatin1_aae02 cJ0_isLatin1_aae02 1 (some .boolean) 1 [.ref (1000000 + w)] nn SS μ (fJ0_isLatin1_aae02 w μ) := by
  refine zMR_of (by decide +kernel) rfl (Nat.le_of_ble_eq_true rfl) (L := [.ref (1000000 + w)]) rfl ?_
  unfold fJ0_isLatin1_aae02
  refine z_gsC (pc := 0) ksJ0_38 dJ0_isLatin1_aae02_0 ?_
  refine z_let (fun (j : Int32 → zRes) => ∀ (s1 : Int32), zR yJ0_isLatin1_aae02 cJ0_isLatin1_aae02 1 (some .boolean) 1 18 [.null] [.int s1] nn SS μ (j s1)) ?_ (fun j2 hj2 => ?_)
  · intro s1
    exact z_zret (pc := 18) rfl dJ0_isLatin1_aae02_18
  · refine z_let (fun (j : zRes) => zR yJ0_isLatin1_aae02 cJ0_isLatin1_aae02 1 (some .boolean) 1 17 [.null] [] nn SS μ (j)) ?_ (fun j3 hj3 => ?_)
    · refine z_iconst (pc := 17) (0 : Int32) dJ0_isLatin1_aae02_17 (by decide) ?_
      exact hj2 (0 : Int32)
    · refine z_if_eq (pc := 3) (tgt := 17) dJ0_isLatin1_aae02_3 (by decide) (fun c4 => ?_) (fun c5 => ?_)
      · refine z_loc (L' := [.null]) ⟨Or.inl rfl, trivial⟩ ?_
        exact hj3
      · refine z_aload_n (pc := 6) dJ0_isLatin1_aae02_6 rfl ?_
        refine z_strc (pc := 7) hw ksJ0_15 dJ0_isLatin1_aae02_7 ?_
        refine z_if_ne (pc := 10) (tgt := 17) dJ0_isLatin1_aae02_10 (by decide) (fun c6 => ?_) (fun c7 => ?_)
        · refine z_loc (L' := [.null]) ⟨Or.inl rfl, trivial⟩ ?_
          exact hj3
        · refine z_iconst (pc := 13) (1 : Int32) dJ0_isLatin1_aae02_13 (by decide) ?_
          refine z_goto (pc := 14) (tgt := 18) dJ0_isLatin1_aae02_14 (by decide) ?_
          refine z_loc (L' := [.null]) ⟨Or.inl rfl, trivial⟩ ?_
          exact hj2 (1 : Int32)
def fJ1_charAt_3b067 (w : Nat) (x1 : Int32) (μ : zMem) : zRes := bnd0 (fJ0_checkIndex_df160 x1 (zsl w) μ) (fun (v1 : Int32) (μ2 : zMem) => zin x1 (zsn w) (zch (zi2c ((zsc w x1) &&& (255 : Int32))) (some (0, zi2c ((zsc w x1) &&& (255 : Int32)), μ2))))
set_option maxHeartbeats 1000000 in
theorem tJ1_charAt_3b067 {nn : Nat} {SS : Nat → zSh} {w : Nat} (hw : w < 8) (x1 : Int32) (μ : zMem) : zMR yJ1_charAt_3b067 cJ1_charAt_3b067 2 (some .char) 4 [.ref (1000000 + (1000000 + w)), .int x1] nn SS μ (fJ1_charAt_3b067 w x1 μ) := by
  refine zMR_of (by decide +kernel) rfl (Nat.le_of_ble_eq_true rfl) (L := [.ref (1000000 + (1000000 + w)), .int x1]) rfl ?_
  unfold fJ1_charAt_3b067
  refine z_iload_n (pc := 0) dJ1_charAt_3b067_0 rfl ?_
  refine z_aload_n (pc := 1) dJ1_charAt_3b067_1 rfl ?_
  refine z_blen (pc := 2) hw dJ1_charAt_3b067_2 ?_
  refine z_callS (As := [.int x1, .int (zsl w)]) (pc := 3) (ret' := none) ksJ1_9 (tJ0_checkIndex_df160 _ _ _) (by decide)  rfl rfl (Nat.le_of_ble_eq_true rfl) dJ1_charAt_3b067_3 (fun v1 μ2 => ?_)
  refine z_aload_n (pc := 6) dJ1_charAt_3b067_6 rfl ?_
  refine z_iload_n (pc := 7) dJ1_charAt_3b067_7 rfl ?_
  refine z_bald (pc := 8) hw dJ1_charAt_3b067_8 (fun h3 => ?_)
  refine z_sipush (pc := 9) (255 : Int32) dJ1_charAt_3b067_9 (by decide) ?_
  refine z_iand (pc := 12) dJ1_charAt_3b067_12 ?_
  refine z_i2c (pc := 13) dJ1_charAt_3b067_13 ?_
  exact z_cret (pc := 14) rfl dJ1_charAt_3b067_14
def fJ0_charAt_5068e (w : Nat) (x1 : Int32) (μ : zMem) : zRes := bnd0 (fJ0_isLatin1_aae02 w μ) (fun (v1 : Int32) (μ2 : zMem) => if v1 = 0 then none else bnd0 (fJ1_charAt_3b067 w x1 μ2) (fun (v5 : Int32) (μ6 : zMem) => zch v5 (some (0, v5, μ6))))
set_option maxHeartbeats 1000000 in
theorem tJ0_charAt_5068e {nn : Nat} {SS : Nat → zSh} {w : Nat} (hw : w < 8) (x1 : Int32) (μ : zMem) : zMR yJ0_charAt_5068e cJ0_charAt_5068e 2 (some .char) 5 [.ref (1000000 + w), .int x1] nn SS μ (fJ0_charAt_5068e w x1 μ) := by
  refine zMR_of (by decide +kernel) rfl (Nat.le_of_ble_eq_true rfl) (L := [.ref (1000000 + w), .int x1]) rfl ?_
  unfold fJ0_charAt_5068e
  refine z_aload_n (pc := 0) dJ0_charAt_5068e_0 rfl ?_
  refine z_callW (As := []) (pc := 1) (ret' := some .boolean) hw kwJ0_492 (tJ0_isLatin1_aae02 hw _) (by decide)  rfl rfl (Nat.le_of_ble_eq_true rfl) dJ0_charAt_5068e_1 (fun v1 μ2 => ?_)
  refine z_if_eq (pc := 4) (tgt := 16) dJ0_charAt_5068e_4 (by decide) (fun c3 => ?_) (fun c4 => ?_)
  · refine z_aload_n (pc := 16) dJ0_charAt_5068e_16 rfl ?_
    refine z_strv (pc := 17) hw ksJ0_9 dJ0_charAt_5068e_17 ?_
    refine z_iload_n (pc := 20) dJ0_charAt_5068e_20 rfl ?_
    exact z_none
  · refine z_aload_n (pc := 7) dJ0_charAt_5068e_7 rfl ?_
    refine z_strv (pc := 8) hw ksJ0_9 dJ0_charAt_5068e_8 ?_
    refine z_iload_n (pc := 11) dJ0_charAt_5068e_11 rfl ?_
    refine z_callS (As := [.ref (1000000 + (1000000 + w)), .int x1]) (pc := 12) (ret' := some .char) ksJ0_495 (tJ1_charAt_3b067 hw _ _) (by decide)  rfl rfl (Nat.le_of_ble_eq_true rfl) dJ0_charAt_5068e_12 (fun v5 μ6 => ?_)
    exact z_cret (pc := 15) rfl dJ0_charAt_5068e_15
def fJ6_compare_7cf53 (x0 : Int32) (x1 : Int32) (μ : zMem) : zRes := zlet (fun (s1 : Int32) => some (0, s1, μ)) (fun j2 => if x1 ≤ x0 then if x0 = x1 then j2 (0 : Int32) else j2 (1 : Int32) else j2 (-1 : Int32))
set_option maxHeartbeats 1000000 in
theorem tJ6_compare_7cf53 {nn : Nat} {SS : Nat → zSh} (x0 : Int32) (x1 : Int32) (μ : zMem) : zMR yJ6_compare_7cf53 cJ6_compare_7cf53 2 (some .int) 1 [.int x0, .int x1] nn SS μ (fJ6_compare_7cf53 x0 x1 μ) := by
  refine zMR_of (by decide +kernel) rfl (Nat.le_of_ble_eq_true rfl) (L := [.int x0, .int x1]) rfl ?_
  unfold fJ6_compare_7cf53
  refine z_iload_n (pc := 0) dJ6_compare_7cf53_0 rfl ?_
  refine z_iload_n (pc := 1) dJ6_compare_7cf53_1 rfl ?_
  refine z_let (fun (j : Int32 → zRes) => ∀ (s1 : Int32), zR yJ6_compare_7cf53 cJ6_compare_7cf53 2 (some .int) 1 19 [.null, .null] [.int s1] nn SS μ (j s1)) ?_ (fun j2 hj2 => ?_)
  · intro s1
    exact z_iret (pc := 19) rfl dJ6_compare_7cf53_19
  · refine z_icmp_ge (pc := 2) (tgt := 9) dJ6_compare_7cf53_2 (by decide) (fun c3 => ?_) (fun c4 => ?_)
    · refine z_iload_n (pc := 9) dJ6_compare_7cf53_9 rfl ?_
      refine z_iload_n (pc := 10) dJ6_compare_7cf53_10 rfl ?_
      refine z_icmp_ne (pc := 11) (tgt := 18) dJ6_compare_7cf53_11 (by decide) (fun c5 => ?_) (fun c6 => ?_)
      · refine z_iconst (pc := 18) (1 : Int32) dJ6_compare_7cf53_18 (by decide) ?_
        refine z_loc (L' := [.null, .null]) ⟨Or.inl rfl, ⟨Or.inl rfl, trivial⟩⟩ ?_
        exact hj2 (1 : Int32)
      · refine z_iconst (pc := 14) (0 : Int32) dJ6_compare_7cf53_14 (by decide) ?_
        refine z_goto (pc := 15) (tgt := 19) dJ6_compare_7cf53_15 (by decide) ?_
        refine z_loc (L' := [.null, .null]) ⟨Or.inl rfl, ⟨Or.inl rfl, trivial⟩⟩ ?_
        exact hj2 (0 : Int32)
    · refine z_iconst (pc := 5) (-1 : Int32) dJ6_compare_7cf53_5 (by decide) ?_
      refine z_goto (pc := 6) (tgt := 19) dJ6_compare_7cf53_6 (by decide) ?_
      refine z_loc (L' := [.null, .null]) ⟨Or.inl rfl, ⟨Or.inl rfl, trivial⟩⟩ ?_
      exact hj2 (-1 : Int32)
def fJ6_numberOfTrailingZeros_0f7a4 (x0 : Int32) (μ : zMem) : zRes := zlet ((x0 ^^^ (-1 : Int32)) &&& (x0 - (1 : Int32))) (fun (v1 : Int32) => if 0 < v1 then zlet (fun (x0_4 : Int32) (x1_5 : Int32) => zlet (fun (x0_6 : Int32) (x1_7 : Int32) => zlet (fun (x0_8 : Int32) (x1_9 : Int32) => zlet (fun (x0_10 : Int32) (x1_11 : Int32) => some (0, x1_11 + (zushr x0_10 (1 : Int32)), μ)) (fun j12 => if x0_8 ≤ (4 : Int32) then j12 x0_8 x1_9 else zlet (zushr x0_8 (2 : Int32)) (fun (v15 : Int32) => j12 v15 (x1_9 + (2 : Int32))))) (fun j16 => if x0_6 ≤ (16 : Int32) then j16 x0_6 x1_7 else zlet (zushr x0_6 (4 : Int32)) (fun (v19 : Int32) => j16 v19 (x1_7 + (4 : Int32))))) (fun j20 => if x0_4 ≤ (256 : Int32) then j20 x0_4 x1_5 else zlet (zushr x0_4 (8 : Int32)) (fun (v23 : Int32) => j20 v23 (x1_5 + (8 : Int32))))) (fun j24 => if v1 ≤ (65536 : Int32) then j24 v1 (1 : Int32) else zlet (zushr v1 (16 : Int32)) (fun (v27 : Int32) => j24 v27 ((1 : Int32) + (16 : Int32)))) else some (0, v1 &&& (32 : Int32), μ))
set_option maxHeartbeats 1000000 in
theorem tJ6_numberOfTrailingZeros_0f7a4 {nn : Nat} {SS : Nat → zSh} (x0 : Int32) (μ : zMem) : zMR yJ6_numberOfTrailingZeros_0f7a4 cJ6_numberOfTrailingZeros_0f7a4 2 (some .int) 1 [.int x0] nn SS μ (fJ6_numberOfTrailingZeros_0f7a4 x0 μ) := by
  refine zMR_of (by decide +kernel) rfl (Nat.le_of_ble_eq_true rfl) (L := [.int x0, .null]) rfl ?_
  unfold fJ6_numberOfTrailingZeros_0f7a4
  refine z_iload_n (pc := 0) dJ6_numberOfTrailingZeros_0f7a4_0 rfl ?_
  refine z_iconst (pc := 1) (-1 : Int32) dJ6_numberOfTrailingZeros_0f7a4_1 (by decide) ?_
  refine z_ixor (pc := 2) dJ6_numberOfTrailingZeros_0f7a4_2 ?_
  refine z_iload_n (pc := 3) dJ6_numberOfTrailingZeros_0f7a4_3 rfl ?_
  refine z_iconst (pc := 4) (1 : Int32) dJ6_numberOfTrailingZeros_0f7a4_4 (by decide) ?_
  refine z_isub (pc := 5) dJ6_numberOfTrailingZeros_0f7a4_5 ?_
  refine z_iand (pc := 6) dJ6_numberOfTrailingZeros_0f7a4_6 ?_
  refine z_val (fun v1 => ?_)
  refine z_istore_n (pc := 7) (L' := [.int v1, .null]) dJ6_numberOfTrailingZeros_0f7a4_7 (by decide) rfl ?_
  refine z_iload_n (pc := 8) dJ6_numberOfTrailingZeros_0f7a4_8 rfl ?_
  refine z_if_gt (pc := 9) (tgt := 17) dJ6_numberOfTrailingZeros_0f7a4_9 (by decide) (fun c2 => ?_) (fun c3 => ?_)
  · refine z_iconst (pc := 17) (1 : Int32) dJ6_numberOfTrailingZeros_0f7a4_17 (by decide) ?_
    refine z_istore_n (pc := 18) (L' := [.int v1, .int (1 : Int32)]) dJ6_numberOfTrailingZeros_0f7a4_18 (by decide) rfl ?_
    refine z_iload_n (pc := 19) dJ6_numberOfTrailingZeros_0f7a4_19 rfl ?_
    refine z_ldcw (pc := 20) (65536 : Int32) kcJ6_264 dJ6_numberOfTrailingZeros_0f7a4_20 ?_
    refine z_let (fun (j : Int32 → Int32 → zRes) => ∀ (x0_4 : Int32) (x1_5 : Int32), zR yJ6_numberOfTrailingZeros_0f7a4 cJ6_numberOfTrailingZeros_0f7a4 2 (some .int) 1 34 [.int x0_4, .int x1_5] [] nn SS μ (j x0_4 x1_5)) ?_ (fun j24 hj24 => ?_)
    · intro x0_4 x1_5
      refine z_iload_n (pc := 34) dJ6_numberOfTrailingZeros_0f7a4_34 rfl ?_
      refine z_sipush (pc := 35) (256 : Int32) dJ6_numberOfTrailingZeros_0f7a4_35 (by decide) ?_
      refine z_let (fun (j : Int32 → Int32 → zRes) => ∀ (x0_6 : Int32) (x1_7 : Int32), zR yJ6_numberOfTrailingZeros_0f7a4 cJ6_numberOfTrailingZeros_0f7a4 2 (some .int) 1 49 [.int x0_6, .int x1_7] [] nn SS μ (j x0_6 x1_7)) ?_ (fun j20 hj20 => ?_)
      · intro x0_6 x1_7
        refine z_iload_n (pc := 49) dJ6_numberOfTrailingZeros_0f7a4_49 rfl ?_
        refine z_bipush (pc := 50) (16 : Int32) dJ6_numberOfTrailingZeros_0f7a4_50 (by decide) ?_
        refine z_let (fun (j : Int32 → Int32 → zRes) => ∀ (x0_8 : Int32) (x1_9 : Int32), zR yJ6_numberOfTrailingZeros_0f7a4 cJ6_numberOfTrailingZeros_0f7a4 2 (some .int) 1 62 [.int x0_8, .int x1_9] [] nn SS μ (j x0_8 x1_9)) ?_ (fun j16 hj16 => ?_)
        · intro x0_8 x1_9
          refine z_iload_n (pc := 62) dJ6_numberOfTrailingZeros_0f7a4_62 rfl ?_
          refine z_iconst (pc := 63) (4 : Int32) dJ6_numberOfTrailingZeros_0f7a4_63 (by decide) ?_
          refine z_let (fun (j : Int32 → Int32 → zRes) => ∀ (x0_10 : Int32) (x1_11 : Int32), zR yJ6_numberOfTrailingZeros_0f7a4 cJ6_numberOfTrailingZeros_0f7a4 2 (some .int) 1 74 [.int x0_10, .int x1_11] [] nn SS μ (j x0_10 x1_11)) ?_ (fun j12 hj12 => ?_)
          · intro x0_10 x1_11
            refine z_iload_n (pc := 74) dJ6_numberOfTrailingZeros_0f7a4_74 rfl ?_
            refine z_iload_n (pc := 75) dJ6_numberOfTrailingZeros_0f7a4_75 rfl ?_
            refine z_iconst (pc := 76) (1 : Int32) dJ6_numberOfTrailingZeros_0f7a4_76 (by decide) ?_
            refine z_iushr (pc := 77) dJ6_numberOfTrailingZeros_0f7a4_77 ?_
            refine z_iadd (pc := 78) dJ6_numberOfTrailingZeros_0f7a4_78 ?_
            exact z_iret (pc := 79) rfl dJ6_numberOfTrailingZeros_0f7a4_79
          · refine z_icmp_le (pc := 64) (tgt := 74) dJ6_numberOfTrailingZeros_0f7a4_64 (by decide) (fun c13 => ?_) (fun c14 => ?_)
            · exact hj12 x0_8 x1_9
            · refine z_iinc (pc := 67) (v := x1_9 + (2 : Int32)) (L' := [.int x0_8, .int (x1_9 + (2 : Int32))]) dJ6_numberOfTrailingZeros_0f7a4_67 (by decide) rfl (congrArg _ (by decide)) rfl ?_
              refine z_iload_n (pc := 70) dJ6_numberOfTrailingZeros_0f7a4_70 rfl ?_
              refine z_iconst (pc := 71) (2 : Int32) dJ6_numberOfTrailingZeros_0f7a4_71 (by decide) ?_
              refine z_iushr (pc := 72) dJ6_numberOfTrailingZeros_0f7a4_72 ?_
              refine z_val (fun v15 => ?_)
              refine z_istore_n (pc := 73) (L' := [.int v15, .int (x1_9 + (2 : Int32))]) dJ6_numberOfTrailingZeros_0f7a4_73 (by decide) rfl ?_
              exact hj12 v15 (x1_9 + (2 : Int32))
        · refine z_icmp_le (pc := 52) (tgt := 62) dJ6_numberOfTrailingZeros_0f7a4_52 (by decide) (fun c17 => ?_) (fun c18 => ?_)
          · exact hj16 x0_6 x1_7
          · refine z_iinc (pc := 55) (v := x1_7 + (4 : Int32)) (L' := [.int x0_6, .int (x1_7 + (4 : Int32))]) dJ6_numberOfTrailingZeros_0f7a4_55 (by decide) rfl (congrArg _ (by decide)) rfl ?_
            refine z_iload_n (pc := 58) dJ6_numberOfTrailingZeros_0f7a4_58 rfl ?_
            refine z_iconst (pc := 59) (4 : Int32) dJ6_numberOfTrailingZeros_0f7a4_59 (by decide) ?_
            refine z_iushr (pc := 60) dJ6_numberOfTrailingZeros_0f7a4_60 ?_
            refine z_val (fun v19 => ?_)
            refine z_istore_n (pc := 61) (L' := [.int v19, .int (x1_7 + (4 : Int32))]) dJ6_numberOfTrailingZeros_0f7a4_61 (by decide) rfl ?_
            exact hj16 v19 (x1_7 + (4 : Int32))
      · refine z_icmp_le (pc := 38) (tgt := 49) dJ6_numberOfTrailingZeros_0f7a4_38 (by decide) (fun c21 => ?_) (fun c22 => ?_)
        · exact hj20 x0_4 x1_5
        · refine z_iinc (pc := 41) (v := x1_5 + (8 : Int32)) (L' := [.int x0_4, .int (x1_5 + (8 : Int32))]) dJ6_numberOfTrailingZeros_0f7a4_41 (by decide) rfl (congrArg _ (by decide)) rfl ?_
          refine z_iload_n (pc := 44) dJ6_numberOfTrailingZeros_0f7a4_44 rfl ?_
          refine z_bipush (pc := 45) (8 : Int32) dJ6_numberOfTrailingZeros_0f7a4_45 (by decide) ?_
          refine z_iushr (pc := 47) dJ6_numberOfTrailingZeros_0f7a4_47 ?_
          refine z_val (fun v23 => ?_)
          refine z_istore_n (pc := 48) (L' := [.int v23, .int (x1_5 + (8 : Int32))]) dJ6_numberOfTrailingZeros_0f7a4_48 (by decide) rfl ?_
          exact hj20 v23 (x1_5 + (8 : Int32))
    · refine z_icmp_le (pc := 23) (tgt := 34) dJ6_numberOfTrailingZeros_0f7a4_23 (by decide) (fun c25 => ?_) (fun c26 => ?_)
      · exact hj24 v1 (1 : Int32)
      · refine z_iinc (pc := 26) (v := (1 : Int32) + (16 : Int32)) (L' := [.int v1, .int ((1 : Int32) + (16 : Int32))]) dJ6_numberOfTrailingZeros_0f7a4_26 (by decide) rfl (congrArg _ (by decide)) rfl ?_
        refine z_iload_n (pc := 29) dJ6_numberOfTrailingZeros_0f7a4_29 rfl ?_
        refine z_bipush (pc := 30) (16 : Int32) dJ6_numberOfTrailingZeros_0f7a4_30 (by decide) ?_
        refine z_iushr (pc := 32) dJ6_numberOfTrailingZeros_0f7a4_32 ?_
        refine z_val (fun v27 => ?_)
        refine z_istore_n (pc := 33) (L' := [.int v27, .int ((1 : Int32) + (16 : Int32))]) dJ6_numberOfTrailingZeros_0f7a4_33 (by decide) rfl ?_
        exact hj24 v27 ((1 : Int32) + (16 : Int32))
  · refine z_iload_n (pc := 12) dJ6_numberOfTrailingZeros_0f7a4_12 rfl ?_
    refine z_bipush (pc := 13) (32 : Int32) dJ6_numberOfTrailingZeros_0f7a4_13 (by decide) ?_
    refine z_iand (pc := 15) dJ6_numberOfTrailingZeros_0f7a4_15 ?_
    exact z_iret (pc := 16) rfl dJ6_numberOfTrailingZeros_0f7a4_16
