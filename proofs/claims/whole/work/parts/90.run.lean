/-! THE PURE SIDE, 30: a RUN -/
/-- what is drawn of a SEED -/
def dv (x : Int32) : Nat := (zushr x (zi 16) &&& zi 32767).toBitVec.toNat
theorem m15 (i : Nat) : (32767#32).getLsbD i = decide (i < 15) := by
  have : (32767#32).getLsbD i = (decide (i < 32) && (2 ^ 15 - 1).testBit i) := by rw [BitVec.getLsbD_ofNat]
  rw [this, Nat.testBit_two_pow_sub_one]
  by_cases h : i < 15
  · rw [decide_eq_true h, decide_eq_true (by omega)]; rfl
  · rw [decide_eq_false h, Bool.and_false]
theorem zshr_dv (x : Int32) : zshr x (zi 16) &&& zi 32767 = zushr x (zi 16) &&& zi 32767 := by
  have key : ∀ (v : BitVec 32), (v.sshiftRight 16) &&& 32767#32 = (v >>> 16) &&& 32767#32 := by
    intro v
    apply BitVec.eq_of_getLsbD_eq
    intro i hi
    rw [BitVec.getLsbD_and, BitVec.getLsbD_and, m15, BitVec.getLsbD_sshiftRight, BitVec.getLsbD_ushiftRight]
    by_cases h8 : i < 15
    · rw [decide_eq_true h8, Bool.and_true, Bool.and_true, if_pos (by omega), decide_eq_false (by omega)]; rfl
    · rw [decide_eq_false h8, Bool.and_false, Bool.and_false]
  apply Int32.toBitVec.inj
  exact key x.toBitVec
theorem dv_lt (x : Int32) : dv x < 32768 ∧ zushr x (zi 16) &&& zi 32767 = zi (dv x) := by
  unfold dv
  generalize zushr x (zi 16) = y
  have e : (y &&& zi 32767).toBitVec.toNat = y.toBitVec.toNat % 32768 := by
    show (y.toBitVec &&& 32767#32).toNat = _
    rw [BitVec.toNat_and, BitVec.toNat_ofNat]
    have : 32767 % 2 ^ 32 = 2 ^ 15 - 1 := by decide
    rw [this, Nat.and_two_pow_sub_one_eq_mod]
  refine ⟨by rw [e]; exact Nat.mod_lt _ (by decide), ?_⟩
  apply Int32.toBitVec.inj
  show (y &&& zi 32767).toBitVec = BitVec.ofNat 32 (y &&& zi 32767).toBitVec.toNat
  rw [BitVec.ofNat_toNat, BitVec.setWidth_eq]
/-- a RUN: what it keeps, the DAY of STARVED, the SEED -/
abbrev gT : Type := rT × Int32 × Int32
def gA (T : zN2) (lot : Nat) (sd : Int32) (W : zN2) : zN2 := if lot = 0 then W else nup W 0 1 (if T 2 0 = 0 then 0 else dv sd % T 2 0)
def gB (T : zN2) (first i : Nat) (W : zN2) : zN2 := if 0 < i then tD T W (first + i) else W
def gD (lot : Nat) (sd : Int32) : Int32 := if lot = 0 then sd else sd * zi 1103515245 + zi 12345
def gS (T : zN2) (r lot first i : Nat) (g : gT) : gT :=
  (rD T r (T 2 2) (gA T lot (gD lot g.2.2) (gB T first i g.1.1), g.1.2),
   (if wt T (gA T lot (gD lot g.2.2) (gB T first i g.1.1)) = true ∧ (rD T r (T 2 2) (gA T lot (gD lot g.2.2) (gB T first i g.1.1), g.1.2)).2.2.1 = g.1.2.2.1 ∧ g.2.1 = zN1 then zi (first + i) else g.2.1),
   gD lot g.2.2)
theorem rD_works {T : zN2} {r : Nat} : ∀ n s, (rD T r n s).2.2.1 ≤ s.2.2.1 + n
  | 0, s => Nat.le_refl _
  | n + 1, s => by
    unfold rD
    cases e : rC T s.1 r with
    | none => show s.2.2.1 ≤ _; omega
    | some c =>
      have := rD_works (T := T) (r := r) n (rK T c s)
      have e : (rK T c s).2.2.1 = s.2.2.1 + 1 := rfl
      show (rD T r n (rK T c s)).2.2.1 ≤ _
      omega
theorem rD_now {T : zN2} {r : Nat} (hT : TB T) : ∀ n s, (rD T r n s).1 0 0 = s.1 0 0
  | 0, s => rfl
  | n + 1, s => by
    unfold rD
    cases e : rC T s.1 r with
    | none => rfl
    | some c =>
      have hab := (tE_0 (rC_ok hT e).2.2).2.2.1
      exact (rD_now hT n (rK T c s)).trans (tK_0 (T := T) (W := s.1) (d := c / 100) (j := 0) hab (by decide))
theorem wb_ask {T W : zN2} {q : Nat} (hW : WB T W) (hq : q < T 2 0 ∨ q = 0) : WB T (nup W 0 1 q) := by
  refine ⟨?_, ?_, ?_, ?_, ?_, ?_, ?_, ?_, ?_⟩
  · rw [nup_nj (by decide)]; exact hW.1
  · rw [nup_eq]; exact hq
  · rw [nup_nj (by decide)]; exact hW.2.2.1
  · rw [nup_nj (by decide)]; exact hW.2.2.2.1
  · rw [nup_nj (by decide)]; exact hW.2.2.2.2.1
  · intro p; rw [nup_nk (by decide)]; exact wb_1 hW p
  · intro p; rw [nup_nk (by decide)]; exact wb_2 hW p
  · intro p q'; rw [nup_nk (by omega)]; exact wb_th hW p q'
  · rw [nup_nj (by decide)]; exact hW.2.2.2.2.2.2.2.2
theorem gA_b {T W : zN2} {lot : Nat} {sd : Int32} (hW : WB T W) : WB T (gA T lot sd W) ∧ gA T lot sd W 0 3 = W 0 3 ∧ gA T lot sd W 0 0 = W 0 0 := by
  unfold gA
  split
  · exact ⟨hW, rfl, rfl⟩
  · refine ⟨wb_ask hW ?_, nup_nj (by decide), nup_nj (by decide)⟩
    split
    · exact Or.inr rfl
    · left; exact Nat.mod_lt _ (by omega)
theorem gB_b {T W : zN2} {first i : Nat} (hT : TB T) (hW : WB T W) (h : first + i ≤ 29) (hf : i = 0 → W 0 0 = first) : WB T (gB T first i W) ∧ gB T first i W 0 3 = W 0 3 ∧ gB T first i W 0 0 = first + i := by
  unfold gB
  by_cases h0 : 0 < i
  · rw [if_pos h0]; exact ⟨wb_dawn hT hW h, rfl, rfl⟩
  · rw [if_neg h0]; exact ⟨hW, rfl, by have := hf (by omega); omega⟩
def xGn (T : zN2) (g : gT) (μ : zMem) : Prop := xRn T g.1 μ ∧ μ 57 5 = g.2.1 ∧ μ 57 6 = g.2.2
theorem xs_ask {T W : zN2} {μ : zMem} {q : Nat} (hS : XS T W 28 μ) : XS T (nup W 0 1 q) 28 (zset μ 28 2 (zi q)) := by
  refine ⟨⟨?_, ?_, ?_, ?_, ?_⟩, fun p hp => ?_⟩
  · rw [zset_nj (by decide), nup_nj (by decide)]; exact hS.1.1
  · rw [zset_eq, nup_eq]
  · rw [zset_nj (by decide), nup_nj (by decide)]; exact hS.1.2.2.1
  · rw [zset_nj (by decide), nup_nj (by decide)]; exact hS.1.2.2.2.1
  · rw [zset_nj (by decide), nup_nj (by decide)]; exact hS.1.2.2.2.2
  · rw [nup_nj (by decide)] at hp
    rw [zset_nk (by decide), zset_nk (by decide), zset_nk (by decide), nup_nk (by decide), nup_nk (by decide)]
    refine ⟨(hS.2 p hp).1, (hS.2 p hp).2.1, fun q' hq' => ?_⟩
    rw [nup_nk (by omega)]; exact (hS.2 p hp).2.2 q' hq'
theorem x_drawQ {T : zN2} {μ : zMem} (hT : TB T) (hX : XT T μ) {sd : Int32} (h6 : μ 57 6 = sd) : f4_drawQuestion μ = some (0, zi (if T 2 0 = 0 then 0 else dv (gD 1 sd) % T 2 0), zset μ 57 6 (gD 1 sd)) := by
  have hQ := hT.1
  have hd := dv_lt (gD 1 sd)
  have e : sd * zi 1103515245 + zi 12345 = gD 1 sd := rfl
  unfold f4_drawQuestion
  simp (disch := omega) only [zlet_e', zlit', h6, e, zset_nk, hX.1.1, zset_eq, hd.2, zi_lt]
  by_cases h0 : T 2 0 = 0
  · simp only [h0, Nat.lt_irrefl, if_false, if_true]
  · simp (disch := omega) only [h0, show 0 < T 2 0 by omega, if_true, if_false, znz_i, zrem_i]
theorem x_goOn {T W : zN2} {μ : zMem} (hT : TB T) (hW : WB T W) (hP : W 0 3 = T 2 1) (hX : XT T μ) (hS : XS T W 28 μ) {r days lot : Nat} {sd : Int32} (hr : r < 4) (hl : lot < 2) (hd : W 0 0 + days ≤ 30) :
    ∃ μ', f4_goOn (zi r) (zi days) (zi lot) sd μ = some (0, zi 0, μ') ∧ xGn T (zit (gS T r lot (W 0 0)) days 0 ((W, 0, 0, zN1), zN1, sd)) μ' ∧ rOK T (zit (gS T r lot (W 0 0)) days 0 ((W, 0, 0, zN1), zN1, sd)).1 ∧ zfr (fun k => (28 ≤ k ∧ k < 32) ∨ k = 57) μ μ' := by
  have hD := hT.2.2.1
  have hP9 := hT.2.1
  obtain ⟨μ', p1, -, p2, p3, -, p5⟩ := zloopS (L := fun n i m => f4_goOn_L39 (zi r) (zi days) (zi lot) (zi (W 0 0)) (fun (μ36 : zMem) => some (0, zi 0, μ36)) n (zi (W 0 0 + i)) m) (N := days) (o := fun m => some (0, zi 0, m)) (F := gS T r lot (W 0 0))
    (fun i (g : gT) m => (i = 0 → g.1.1 0 0 = W 0 0) ∧ xGn T g m ∧ rOK T g.1 ∧ g.1.2.2.1 ≤ 10 * i ∧ zfr (fun k => (28 ≤ k ∧ k < 32) ∨ k = 57) μ m)
    (fun n m g h => by
      simp (disch := omega) only [f4_goOn_L39, zi_add, zi_le, Nat.le_refl, if_true])
    (fun n i m g hi h => by
      obtain ⟨h0, ⟨⟨s1, s2, s3, s4⟩, s5, s6⟩, hok, hwk, hf⟩ := h
      have hX0 : XT T m := XT_of (fun key hk => hf key (by omega)) hX
      -- the DAY begins
      obtain ⟨gb1, gb2, gb3⟩ := gB_b (T := T) (W := g.1.1) (first := W 0 0) (i := i) hT hok.1 (by omega) h0
      obtain ⟨ga1, ga2, ga3⟩ := gA_b (T := T) (lot := lot) (sd := gD lot g.2.2) gb1
      have day : ∃ m1, (∀ J : zMem → zRes, (if zi (W 0 0 + i) ≤ zi (W 0 0) then J m else bnd0 (f5_beginDay 28 (zi (W 0 0 + i)) m) (fun (v34 : Int32) (μ35 : zMem) => J μ35)) = J m1) ∧ XS T (gB T (W 0 0) i g.1.1) 28 m1 ∧ m1 57 = m 57 ∧ zfr (fun k => 28 ≤ k ∧ k < 32) m m1 := by
        unfold gB
        by_cases hi0 : 0 < i
        · obtain ⟨m1, b1, b2, b3, -⟩ := x_beginDay (k := 28) (day := W 0 0 + i) (by decide) hT hok.1 hX0 s1 (by omega)
          refine ⟨m1, fun J => ?_, by rw [if_pos hi0]; exact b2, b3 57 (by omega), b3.mono (fun q hq => by omega)⟩
          rw [if_neg (by rw [zi_le (by omega) (by omega)]; omega), b1]; rfl
        · refine ⟨m, fun J => ?_, by rw [if_neg hi0]; exact s1, rfl, zfr.refl⟩
          rw [if_pos (by rw [zi_le (by omega) (by omega)]; omega)]
      obtain ⟨m1, d1, d2, d3, d4⟩ := day
      have hX1 : XT T m1 := XT_of (fun key hk => d4 key (by omega)) hX0
      -- the LOT
      have lotd : ∃ m2, (∀ J : zMem → zRes, (if zi lot = (0 : Int32) then J m1 else bnd0 (f4_drawQuestion m1) (fun (v28 : Int32) (μ29 : zMem) => zlet (zset μ29 28 2 v28) (fun (μ30 : zMem) => J μ30))) = J m2) ∧ XS T (gA T lot (gD lot g.2.2) (gB T (W 0 0) i g.1.1)) 28 m2 ∧ (∀ j, j ≠ 6 → m2 57 j = m 57 j) ∧ m2 57 6 = gD lot g.2.2 ∧ zfr (fun k => (28 ≤ k ∧ k < 32) ∨ k = 57) m1 m2 := by
        by_cases hl0 : lot = 0
        · subst hl0
          refine ⟨m1, fun J => if_pos rfl, d2, fun j _ => by rw [d3], ?_, zfr.refl⟩
          rw [d3]; exact s6
        · have hl1 : lot = 1 := by omega
          subst hl1
          have e6 : m1 57 6 = g.2.2 := by rw [d3]; exact s6
          refine ⟨zset (zset m1 57 6 (gD 1 g.2.2)) 28 2 (zi (if T 2 0 = 0 then 0 else dv (gD 1 g.2.2) % T 2 0)), fun J => ?_, ?_, fun j hj => ?_, ?_, ?_⟩
          · rw [if_neg (show ¬ zi 1 = 0 by decide), x_drawQ hT hX1 e6]; rfl
          · exact xs_ask (XS_of (fun key k1 k2 => zset_nk (by omega)) d2)
          · rw [zset_nk (by decide), zset_nj hj, d3]
          · rw [zset_nk (by decide), zset_eq]
          · exact (zfr.refl.set (Or.inr rfl)).set (Or.inl (by omega))
      obtain ⟨m2, l1, l2, l3, l4, l5⟩ := lotd
      have hX2 : XT T m2 := XT_of (fun key hk => l5 key (by omega)) hX1
      have hok2 : rOK T (gA T lot (gD lot g.2.2) (gB T (W 0 0) i g.1.1), g.1.2) := ⟨ga1, by show gA T lot _ _ 0 3 = _; rw [ga2, gb2]; exact hok.2⟩
      obtain ⟨m3, w1, ⟨w2, w3, w4, w5⟩, w6, w7, w8⟩ := x_day (s := (gA T lot (gD lot g.2.2) (gB T (W 0 0) i g.1.1), g.1.2)) hT hX2 hok2 ⟨l2, by rw [l3 2 (by decide)]; exact s2, by rw [l3 3 (by decide)]; exact s3, by rw [l3 4 (by decide)]; exact s4⟩ hr
      have hwt := x_waits hT ga1 hX2 l2
      have hwk2 := rD_works (T := T) (r := r) (T 2 2) (gA T lot (gD lot g.2.2) (gB T (W 0 0) i g.1.1), g.1.2)
      have hwk2 : (rD T r (T 2 2) (gA T lot (gD lot g.2.2) (gB T (W 0 0) i g.1.1), g.1.2)).2.2.1 ≤ g.1.2.2.1 + T 2 2 := hwk2
      have e5 : m3 57 5 = g.2.1 := by rw [w7, l3 5 (by decide)]; exact s5
      have e6 : m3 57 6 = gD lot g.2.2 := by rw [w8]; exact l4
      -- the end of the DAY
      have fin : ∃ m4, (∀ J : zMem → zRes, (if zi (b01 (wt T (gA T lot (gD lot g.2.2) (gB T (W 0 0) i g.1.1)))) = (0 : Int32) then J m3 else if (m3 57 3) = zi g.1.2.2.1 then if (m3 57 5) = (-1 : Int32) then zlet (zset m3 57 5 (zi (W 0 0 + i))) (fun (μ24 : zMem) => J μ24) else J m3 else J m3) = J m4) ∧ xGn T (gS T r lot (W 0 0) i g) m4 ∧ zfr (fun k => (28 ≤ k ∧ k < 32) ∨ k = 57) m3 m4 := by
        have hno : ¬ (wt T (gA T lot (gD lot g.2.2) (gB T (W 0 0) i g.1.1)) = true ∧ (rD T r (T 2 2) (gA T lot (gD lot g.2.2) (gB T (W 0 0) i g.1.1), g.1.2)).2.2.1 = g.1.2.2.1 ∧ g.2.1 = zN1) → xGn T (gS T r lot (W 0 0) i g) m3 := fun hc => ⟨⟨w2, w3, w4, w5⟩, by show m3 57 5 = if _ then _ else _; rw [if_neg hc]; exact e5, e6⟩
        cases hw : wt T (gA T lot (gD lot g.2.2) (gB T (W 0 0) i g.1.1))
        · exact ⟨m3, fun J => if_pos rfl, hno (by rw [hw]; exact fun q => absurd q.1 (by decide)), zfr.refl⟩
        · by_cases hq : (rD T r (T 2 2) (gA T lot (gD lot g.2.2) (gB T (W 0 0) i g.1.1), g.1.2)).2.2.1 = g.1.2.2.1
          · by_cases hz : g.2.1 = zN1
            · refine ⟨zset m3 57 5 (zi (W 0 0 + i)), fun J => ?_, ⟨⟨XS_of (fun key k1 k2 => zset_nk (by omega)) w2, ?_, ?_, ?_⟩, ?_, ?_⟩, zfr.refl.set (Or.inr rfl)⟩
              · rw [if_neg (show ¬ zi (b01 true) = 0 by decide), if_pos (by rw [w4, hq]), if_pos (by rw [e5, hz]; rfl)]; rfl
              · rw [zset_nj (by decide)]; exact w3
              · rw [zset_nj (by decide)]; exact w4
              · rw [zset_nj (by decide)]; exact w5
              · rw [zset_eq]; show _ = if _ then _ else _; rw [if_pos ⟨hw, hq, hz⟩]
              · rw [zset_nj (by decide)]; exact e6
            · refine ⟨m3, fun J => ?_, hno (fun q => hz q.2.2), zfr.refl⟩
              rw [if_neg (show ¬ zi (b01 true) = 0 by decide), if_pos (by rw [w4, hq]), if_neg (by rw [e5]; exact hz)]
          · refine ⟨m3, fun J => ?_, hno (fun q => hq q.2.1), zfr.refl⟩
            rw [if_neg (show ¬ zi (b01 true) = 0 by decide), if_neg]
            rw [w4]
            intro q
            exact hq (zi_inj (by omega) (by omega) q)
      obtain ⟨m4, f1, f2, f3⟩ := fin
      refine ⟨m4, ?_, fun q => absurd q (by omega), f2, rD_ok hT _ _ hok2, ?_, hf.trans ((d4.mono (fun q hq => Or.inl hq)).trans (l5.trans (w6.trans f3)))⟩
      · have hle : ¬ zi (W 0 0) + zi days ≤ zi (W 0 0 + i) := by rw [zi_add, zi_le (by omega) (by omega)]; omega
        have e13 : m2 57 3 = zi g.1.2.2.1 := by rw [l3 3 (by decide)]; exact s3
        have z1 : zi (W 0 0 + i) + (1 : Int32) = zi (W 0 0 + (i + 1)) := zi_add _ 1
        rw [f4_goOn_L39, if_neg hle, zlet_e]
        refine (d1 _).trans ?_
        show zlet _ _ = _
        rw [zlet_e]
        refine (l1 _).trans ?_
        show bnd0 (f5_hasDoorInTime 28 m2) _ = _
        rw [hwt, bnd0_ok, e13, zlet_e, w1, bnd0_ok, zlet_e, z1]
        exact f1 _
      · show (rD T r (T 2 2) (gA T lot (gD lot g.2.2) (gB T (W 0 0) i g.1.1), g.1.2)).2.2.1 ≤ 10 * (i + 1)
        omega)
    days 0 (zset (zset (zset (zset (zset μ 57 2 (zi 0)) 57 3 (zi 0)) 57 4 zN1) 57 5 zN1) 57 6 sd) ((W, 0, 0, zN1), zN1, sd) zF (by omega) (by unfold zF; omega)
    ⟨fun _ => rfl, ⟨⟨XS_of (fun key k1 k2 => by simp (disch := omega) only [zset_nk]) hS, by simp (disch := omega) only [zset_nj, zset_eq], by simp (disch := omega) only [zset_nj, zset_eq], by simp (disch := omega) only [zset_nj, zset_eq]⟩, by simp (disch := omega) only [zset_nj, zset_eq], zset_eq⟩, ⟨hW, hP⟩, Nat.le_refl _, fun k hk => by simp (disch := omega) only [zset_nk]⟩
  refine ⟨μ', ?_, p2, p3, p5⟩
  unfold f4_goOn
  simp (disch := omega) only [zlet_e', ↓zneg1', zlit', zset_nk, hS.1.1]
  exact p1
