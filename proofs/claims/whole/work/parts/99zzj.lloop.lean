/-! THE LAW'S WALK, 7: the switch, the loop -/
theorem L_and (x : Int32) : ∃ c, c < 64 ∧ x &&& 63 = zi c := by
  have h : (x &&& 63).toInt = x.toInt % 2 ^ 6 := Jvm.Kit.i32_mask x 63 (k := 6) (by decide) (by decide)
  have e := zi_of (x := x &&& 63) (by omega)
  have h2 := Int32.toInt_eq_toNatClampNeg (a := x &&& 63) (Int32.le_iff_toInt_le.mpr (by have : (0 : Int32).toInt = 0 := rfl; omega))
  exact ⟨(x &&& 63).toNatClampNeg, by omega, e⟩
section LLOOP
variable {len I : Nat} {sc : Nat → Int32} {g : Bool} {f : Nat → Int32} {μX μM : zMem} {ca cb : Nat}
theorem L_next (k : zLaw len sc 23 (zLoc (zi (I + 7)) .null .null) [] g μM f μX ca cb) : zLaw len sc 2685 (zLoc (zi I) .null .null) [] g μM f μX ca cb := by
  refine yA_iinc (pc := 2685) (i := 4) (x := zi I) (v := zi (I + 7)) (L' := zLoc (zi (I + 7)) .null .null) dL_law_2685 (by decide) rfl (by rw [← zi_add]; rfl) rfl ?_
  exact yA_goto (pc := 2688) (tgt := 23) dL_law_2688 (by decide) k
theorem L_switch {c : Nat} (hc : c < 64) (hI : I + 7 ≤ len) (hl : len ≤ 3584) (h : zInv μX μM) (k : ∀ (g' : Bool) (f' : Nat → Int32) (μX' μM' : zMem), (g = true → g' = true) → zInv μX' μM' → zLaw len sc 2685 (zLoc (zi I) .null .null) [] g' μM' f' μX' (ca + (if g' = true then 0 else 7)) (cb + (if g' = true then 0 else 19706))) : zLaw len sc 40 (zLoc (zi I) .null .null) [.int (zi c)] g μM f μX (ca + 1 + (if g = true then 0 else 7)) (cb + 6 + (if g = true then 0 else 19706)) := by
  have h1 : ca + (if g = true then 0 else 7) + 1 ≤ ca + 1 + (if g = true then 0 else 7) := Nat.le_of_eq (Nat.add_right_comm _ _ _)
  have h2 : cb + (if g = true then 0 else 19706) + 6 ≤ cb + 6 + (if g = true then 0 else 19706) := Nat.le_of_eq (Nat.add_right_comm _ _ _)
  have k9 : ∀ (f' : Nat → Int32) (μX' μM' : zMem), zInv μX' μM' → zLaw len sc 2685 (zLoc (zi I) .null .null) [] g μM' f' μX' (ca + (if g = true then 0 else 7)) (cb + (if g = true then 0 else 19706)) := fun f' μX' μM' hi => k g f' μX' μM' (fun q => q) hi
  match c, hc with
  | 0, _ => exact yA_tabIn (pc := 40) (off := 180) (tgt := 220) dL_law_40 (by decide +kernel) (by decide +kernel) (by decide +kernel) (by decide) (yA_more h1 h2 (C_feed hI hl h k9))
  | 1, _ => exact yA_tabIn (pc := 40) (off := 253) (tgt := 293) dL_law_40 (by decide +kernel) (by decide +kernel) (by decide +kernel) (by decide) (yA_more h1 h2 (C_town hI hl h k9))
  | 2, _ => exact yA_tabIn (pc := 40) (off := 309) (tgt := 349) dL_law_40 (by decide +kernel) (by decide +kernel) (by decide +kernel) (by decide) (yA_more h1 h2 (C_fault hI hl h k9))
  | 3, _ => exact yA_tabIn (pc := 40) (off := 322) (tgt := 362) dL_law_40 (by decide +kernel) (by decide +kernel) (by decide +kernel) (by decide) (yA_more h1 h2 (C_told hI hl h k9))
  | 4, _ => exact yA_tabIn (pc := 40) (off := 378) (tgt := 418) dL_law_40 (by decide +kernel) (by decide +kernel) (by decide +kernel) (by decide) (yA_more h1 h2 (C_thinks hI hl h k9))
  | 5, _ => exact yA_tabIn (pc := 40) (off := 446) (tgt := 486) dL_law_40 (by decide +kernel) (by decide +kernel) (by decide +kernel) (by decide) (yA_more h1 h2 (C_person hI hl h k9))
  | 6, _ => exact yA_tabIn (pc := 40) (off := 514) (tgt := 554) dL_law_40 (by decide +kernel) (by decide +kernel) (by decide +kernel) (by decide) (yA_more h1 h2 (C_door hI hl h k9))
  | 7, _ => exact yA_tabIn (pc := 40) (off := 582) (tgt := 622) dL_law_40 (by decide +kernel) (by decide +kernel) (by decide +kernel) (by decide) (yA_more h1 h2 (C_slate hI hl h k9))
  | 8, _ => exact yA_tabIn (pc := 40) (off := 638) (tgt := 678) dL_law_40 (by decide +kernel) (by decide +kernel) (by decide +kernel) (by decide) (yA_more h1 h2 (C_work hI hl h k9))
  | 9, _ => exact yA_tabIn (pc := 40) (off := 718) (tgt := 758) dL_law_40 (by decide +kernel) (by decide +kernel) (by decide +kernel) (by decide) (yA_more h1 h2 (C_may hI hl h k9))
  | 10, _ => exact yA_tabIn (pc := 40) (off := 798) (tgt := 838) dL_law_40 (by decide +kernel) (by decide +kernel) (by decide +kernel) (by decide) (yA_more h1 h2 (C_next hI hl h k9))
  | 11, _ => exact yA_tabIn (pc := 40) (off := 842) (tgt := 882) dL_law_40 (by decide +kernel) (by decide +kernel) (by decide +kernel) (by decide) (yA_more h1 h2 (C_talk hI hl h k9))
  | 12, _ => exact yA_tabIn (pc := 40) (off := 922) (tgt := 962) dL_law_40 (by decide +kernel) (by decide +kernel) (by decide +kernel) (by decide) (yA_more h1 h2 (C_earned hI hl h k9))
  | 13, _ => exact yA_tabIn (pc := 40) (off := 978) (tgt := 1018) dL_law_40 (by decide +kernel) (by decide +kernel) (by decide +kernel) (by decide) (yA_more h1 h2 (C_row hI hl h k9))
  | 14, _ => exact yA_tabIn (pc := 40) (off := 1070) (tgt := 1110) dL_law_40 (by decide +kernel) (by decide +kernel) (by decide +kernel) (by decide) (yA_more h1 h2 (C_clear hI hl h k9))
  | 15, _ => exact yA_tabIn (pc := 40) (off := 1083) (tgt := 1123) dL_law_40 (by decide +kernel) (by decide +kernel) (by decide +kernel) (by decide) (yA_more h1 h2 (C_judge hI hl h k9))
  | 16, _ => exact yA_tabIn (pc := 40) (off := 1139) (tgt := 1179) dL_law_40 (by decide +kernel) (by decide +kernel) (by decide +kernel) (by decide) (yA_more h1 h2 (C_today hI hl h k9))
  | 17, _ => exact yA_tabIn (pc := 40) (off := 1207) (tgt := 1247) dL_law_40 (by decide +kernel) (by decide +kernel) (by decide +kernel) (by decide) (yA_more h1 h2 (C_pair hI hl h k9))
  | 18, _ => exact yA_tabIn (pc := 40) (off := 1275) (tgt := 1315) dL_law_40 (by decide +kernel) (by decide +kernel) (by decide +kernel) (by decide) (yA_more h1 h2 (C_bound hI hl h k9))
  | 19, _ => exact yA_tabIn (pc := 40) (off := 1331) (tgt := 1371) dL_law_40 (by decide +kernel) (by decide +kernel) (by decide +kernel) (by decide) (yA_more h1 h2 (C_need hI hl h k9))
  | 20, _ => exact yA_tabIn (pc := 40) (off := 1399) (tgt := 1439) dL_law_40 (by decide +kernel) (by decide +kernel) (by decide +kernel) (by decide) (yA_more h1 h2 (C_choose hI hl h k9))
  | 21, _ => exact yA_tabIn (pc := 40) (off := 1412) (tgt := 1452) dL_law_40 (by decide +kernel) (by decide +kernel) (by decide +kernel) (by decide) (yA_more h1 h2 (C_stranger hI hl h k9))
  | 22, _ => exact yA_tabIn (pc := 40) (off := 1492) (tgt := 1532) dL_law_40 (by decide +kernel) (by decide +kernel) (by decide +kernel) (by decide) (yA_more h1 h2 (C_night hI hl h k9))
  | 23, _ => exact yA_tabIn (pc := 40) (off := 1548) (tgt := 1588) dL_law_40 (by decide +kernel) (by decide +kernel) (by decide +kernel) (by decide) (yA_more h1 h2 (C_best hI hl h k9))
  | 24, _ => exact yA_tabIn (pc := 40) (off := 1604) (tgt := 1644) dL_law_40 (by decide +kernel) (by decide +kernel) (by decide +kernel) (by decide) (yA_more h1 h2 (C_run hI hl h k9))
  | 25, _ => exact yA_tabIn (pc := 40) (off := 1684) (tgt := 1724) dL_law_40 (by decide +kernel) (by decide +kernel) (by decide +kernel) (by decide) (yA_more h1 h2 (C_lot hI hl h k9))
  | 26, _ => exact yA_tabIn (pc := 40) (off := 1776) (tgt := 1816) dL_law_40 (by decide +kernel) (by decide +kernel) (by decide +kernel) (by decide) (yA_more h1 h2 (C_rule hI hl h k9))
  | 27, _ => exact yA_tabIn (pc := 40) (off := 1832) (tgt := 1872) dL_law_40 (by decide +kernel) (by decide +kernel) (by decide +kernel) (by decide) (C_few hI hl h k)
  | 28, _ => exact yA_tabIn (pc := 40) (off := 1912) (tgt := 1952) dL_law_40 (by decide +kernel) (by decide +kernel) (by decide +kernel) (by decide) (yA_more h1 h2 (C_pairs hI hl h k9))
  | 29, _ => exact yA_tabIn (pc := 40) (off := 1980) (tgt := 2020) dL_law_40 (by decide +kernel) (by decide +kernel) (by decide +kernel) (by decide) (yA_more h1 h2 (C_edge hI hl h k9))
  | 30, _ => exact yA_tabIn (pc := 40) (off := 2048) (tgt := 2088) dL_law_40 (by decide +kernel) (by decide +kernel) (by decide +kernel) (by decide) (yA_more h1 h2 (C_rest hI hl h k9))
  | 31, _ => exact yA_tabIn (pc := 40) (off := 2166) (tgt := 2206) dL_law_40 (by decide +kernel) (by decide +kernel) (by decide +kernel) (by decide) (yA_more h1 h2 (C_once hI hl h k9))
  | 32, _ => exact yA_tabIn (pc := 40) (off := 2222) (tgt := 2262) dL_law_40 (by decide +kernel) (by decide +kernel) (by decide +kernel) (by decide) (yA_more h1 h2 (C_calm hI hl h k9))
  | 33, _ => exact yA_tabIn (pc := 40) (off := 2290) (tgt := 2330) dL_law_40 (by decide +kernel) (by decide +kernel) (by decide +kernel) (by decide) (yA_more h1 h2 (C_family hI hl h k9))
  | 34, _ => exact yA_tabIn (pc := 40) (off := 2346) (tgt := 2386) dL_law_40 (by decide +kernel) (by decide +kernel) (by decide +kernel) (by decide) (yA_more h1 h2 (C_starved hI hl h k9))
  | 35, _ => exact yA_tabIn (pc := 40) (off := 2402) (tgt := 2442) dL_law_40 (by decide +kernel) (by decide +kernel) (by decide +kernel) (by decide) (yA_more h1 h2 (C_slack hI hl h k9))
  | 36, _ => exact yA_tabIn (pc := 40) (off := 2458) (tgt := 2498) dL_law_40 (by decide +kernel) (by decide +kernel) (by decide +kernel) (by decide) (yA_more h1 h2 (C_firm hI hl h k9))
  | 37, _ => exact yA_tabIn (pc := 40) (off := 2538) (tgt := 2578) dL_law_40 (by decide +kernel) (by decide +kernel) (by decide +kernel) (by decide) (yA_more h1 h2 (C_twoDays hI hl h k9))
  | 38, _ => exact yA_tabIn (pc := 40) (off := 2594) (tgt := 2634) dL_law_40 (by decide +kernel) (by decide +kernel) (by decide +kernel) (by decide) (yA_more h1 h2 (C_image hI hl h k9))
  | 39, _ => exact yA_tabIn (pc := 40) (off := 2607) (tgt := 2647) dL_law_40 (by decide +kernel) (by decide +kernel) (by decide +kernel) (by decide) (yA_more h1 h2 (C_restore hI hl h k9))
  | 40, _ => exact yA_tabIn (pc := 40) (off := 2620) (tgt := 2660) dL_law_40 (by decide +kernel) (by decide +kernel) (by decide +kernel) (by decide) (yA_more h1 h2 (C_count hI hl h k9))
  | c + 41, hc =>
    refine yA_tabOut (pc := 40) (tgt := 2685) dL_law_40 (Or.inr (by rw [zi_int (by omega)]; omega)) (by decide) ?_
    exact yA_more (Nat.add_le_add_right (Nat.le_add_right ca 1) _) (Nat.add_le_add_right (Nat.le_add_right cb 6) _) (k9 f μX μM h)
theorem L_head (hI : I ≤ len) (hl : len ≤ 3584) (kt : len < I + 7 → zLaw len sc 2691 (zLoc (zi I) .null .null) [] g μM f μX ca cb) (kf : I + 7 ≤ len → ∀ c, c < 64 → zLaw len sc 40 (zLoc (zi I) .null .null) [.int (zi c)] g μM f μX ca cb) : zLaw len sc 23 (zLoc (zi I) .null .null) [] g μM f μX ca cb := by
  refine yA_iload (pc := 23) dL_law_23 rfl ?_
  refine yA_aload_n (pc := 25) dL_law_25 rfl ?_
  refine yA_slen (pc := 26) (w := zi len) rfl dL_law_26 ?_
  refine yA_bipush (pc := 27) (zi 7) dL_law_27 (by decide) ?_
  refine yA_isub (pc := 29) dL_law_29 ?_
  have hc : (zi len - zi 7 < zi I) = (len < I + 7) := by
    apply propext
    rw [Int32.lt_iff_toInt_lt, zI_sub (by rw [zi_int (by omega), zi_int (by omega)]; omega) (by rw [zi_int (by omega), zi_int (by omega)]; omega), zi_int (by omega), zi_int (by omega), zi_int (by omega)]
    omega
  by_cases h : len < I + 7
  · exact yA_icmp_gt_t (pc := 30) (tgt := 2691) dL_law_30 (by decide) (by rw [hc]; exact h) (kt h)
  · have h' : I + 7 ≤ len := by omega
    refine yA_icmp_gt_f (pc := 30) (tgt := 2691) dL_law_30 (by decide) (by rw [hc]; exact h) ?_
    refine yA_aload_n (pc := 33) dL_law_33 rfl ?_
    refine yA_iload (pc := 34) dL_law_34 rfl ?_
    obtain ⟨q1, q2⟩ := L_in (k := 0) h' hl (by decide)
    refine yA_sld (pc := 36) (i := zi I) q1 dL_law_36 ?_
    refine yA_bipush (pc := 37) (63 : Int32) dL_law_37 (by decide) ?_
    refine yA_iand (pc := 39) dL_law_39 ?_
    obtain ⟨c, hc1, hc2⟩ := L_and (sc (zi I).toNatClampNeg)
    rw [hc2]
    exact kf h' c hc1
theorem L_loop (hl : len ≤ 3584) : ∀ (r : Nat) (g : Bool) (f : Nat → Int32) (μX μM : zMem) (I : Nat), zInv μX μM → I ≤ len → len < I + 7 * (r + 1) → zLaw len sc 23 (zLoc (zi I) .null .null) [] g μM f μX (r + (if g = true then 0 else 7)) (6 * r + (if g = true then 0 else 19706))
  | 0, g, f, μX, μM, I, h, hI, hr => by
    refine L_head hI hl (fun _ => ?_) (fun h' => by omega)
    refine yA_iconst (pc := 2691) (1 : Int32) dL_law_2691 (by decide) ?_
    exact yA_more (Nat.zero_le _) (Nat.zero_le _) (yA_ret (pc := 2692) rfl dL_law_2692)
  | r + 1, g, f, μX, μM, I, h, hI, hr => by
    refine L_head hI hl (fun _ => ?_) (fun h' c hc => ?_)
    · refine yA_iconst (pc := 2691) (1 : Int32) dL_law_2691 (by decide) ?_
      exact yA_more (Nat.zero_le _) (Nat.zero_le _) (yA_ret (pc := 2692) rfl dL_law_2692)
    · have := L_switch (g := g) (ca := r) (cb := 6 * r) (f := f) hc h' hl h (fun g' f' μX' μM' _ hi => L_next (L_loop hl r g' f' μX' μM' (I + 7) hi h' (by omega)))
      exact yA_more (Nat.le_refl _) (Nat.le_of_eq (by rw [Nat.mul_add])) this
end LLOOP
