/-! THE PURE SIDE, 16: feed -/
/-- a byte of a number -/
def byv (x : Int32) (s : Nat) : Int32 := zushr x (zi s) &&& zi 255
theorem m255 (i : Nat) : (255#32).getLsbD i = decide (i < 8) := by
  have : (255#32).getLsbD i = (decide (i < 32) && (2 ^ 8 - 1).testBit i) := by rw [BitVec.getLsbD_ofNat]
  rw [this, Nat.testBit_two_pow_sub_one]
  by_cases h : i < 8
  · rw [decide_eq_true h, decide_eq_true (by omega)]; rfl
  · rw [decide_eq_false h, Bool.and_false]
theorem zshr_by {x : Int32} {s : Nat} (h : s = 0 ∨ s = 8 ∨ s = 16 ∨ s = 24) : zshr x (zi s) &&& zi 255 = byv x s := by
  have key : ∀ (v : BitVec 32) (s : Nat), s ≤ 24 → (v.sshiftRight s) &&& 255#32 = (v >>> s) &&& 255#32 := by
    intro v s hs
    apply BitVec.eq_of_getLsbD_eq
    intro i hi
    rw [BitVec.getLsbD_and, BitVec.getLsbD_and, m255, BitVec.getLsbD_sshiftRight, BitVec.getLsbD_ushiftRight]
    by_cases h8 : i < 8
    · rw [decide_eq_true h8, Bool.and_true, Bool.and_true, if_pos (by omega), decide_eq_false (by omega)]; rfl
    · rw [decide_eq_false h8, Bool.and_false, Bool.and_false]
  unfold byv
  apply Int32.toBitVec.inj
  rcases h with rfl | rfl | rfl | rfl
  · exact key x.toBitVec 0 (by decide)
  · exact key x.toBitVec 8 (by decide)
  · exact key x.toBitVec 16 (by decide)
  · exact key x.toBitVec 24 (by decide)
theorem byv_lt (x : Int32) (s : Nat) : ∃ c, c < 256 ∧ byv x s = zi c := by
  unfold byv
  generalize zushr x (zi s) = y
  refine ⟨y.toBitVec.toNat % 256, Nat.mod_lt _ (by decide), ?_⟩
  apply Int32.toBitVec.inj
  show y.toBitVec &&& 255#32 = BitVec.ofNat 32 (y.toBitVec.toNat % 256)
  apply BitVec.eq_of_toNat_eq
  rw [BitVec.toNat_and, BitVec.toNat_ofNat, BitVec.toNat_ofNat]
  have : 255 % 2 ^ 32 = 2 ^ 8 - 1 := by decide
  rw [this, Nat.and_two_pow_sub_one_eq_mod]
  omega
/-- what a feed has laid down: i bytes A behind t -/
def fFd (t i : Nat) (A : Nat → Int32) (μ s : zMem) : Prop := s 0 1 = zi (t + i) ∧ (∀ j, j < i → s 1 (t + j) = A j) ∧ ∀ key j, ¬ (key = 0 ∧ j = 1) → ¬ (key = 1 ∧ t ≤ j) → s key j = μ key j
theorem fFd_put {t i : Nat} {A : Nat → Int32} {μ s : zMem} (h : fFd t i A μ s) : fFd t (i + 1) A μ (zset (zset s 1 (t + i) (A i)) 0 1 (zi (t + i + 1))) := by
  obtain ⟨h1, h2, h3⟩ := h
  refine ⟨zset_eq, fun j hj => ?_, fun key j k1 k2 => ?_⟩
  · rw [zset_nk (by decide), zset_at]
    by_cases e : j = i
    · rw [if_pos (by omega), e]
    · rw [if_neg (by omega)]; exact h2 j (by omega)
  · rw [zset_at, if_neg k1, zset_at, if_neg (by omega)]; exact h3 key j k1 k2
theorem x_putB1 {t : Nat} {A : Nat → Int32} {μ : zMem} {x : Int32} (n : Nat) (K : zMem → zRes) (s : zMem) (i sh : Nat) (h : fFd t i A μ s) (ht : t + i < 500) (hA : A i = byv x sh) (hs : sh < 32) : ∃ s', f8_putBytes_L3 x K (n + 1) (zi sh) s = f8_putBytes_L3 x K n (zi sh + (-8 : Int32)) s' ∧ fFd t (i + 1) A μ s' := by
  refine ⟨_, ?_, fFd_put h⟩
  have z0 : (0 : Int32) = zi 0 := rfl
  have z1 : (1 : Int32) = zi 1 := rfl
  have z5 : (500 : Int32) = zi 500 := rfl
  have z25 : (255 : Int32) = zi 255 := rfl
  simp only [f8_putBytes_L3, z0, z1, z5, z25, h.1]
  simp (disch := omega) only [zlet_e, zi_lt, Nat.not_lt_zero, if_false, zi_le, show ¬ 500 ≤ t + i by omega, zin_i, zi_cl, zset_nk, h.1, zi_add, hA, byv]
theorem x_putBytes {t i : Nat} {A : Nat → Int32} {μ s : zMem} {x : Int32} (h : fFd t i A μ s) (ht : t + i + 4 ≤ 500) (a0 : A i = byv x 24) (a1 : A (i + 1) = byv x 16) (a2 : A (i + 2) = byv x 8) (a3 : A (i + 3) = byv x 0) : ∃ s', f8_putBytes x s = some (0, zi 0, s') ∧ fFd t (i + 4) A μ s' := by
  obtain ⟨n, hn⟩ : ∃ n, zF = n + 1 + 1 + 1 + 1 + 1 := ⟨999995, rfl⟩
  have e0 : zi 24 + (-8 : Int32) = zi 16 := by decide
  have e1 : zi 16 + (-8 : Int32) = zi 8 := by decide
  have e2 : zi 8 + (-8 : Int32) = zi 0 := by decide
  obtain ⟨s0, p0, h0⟩ := x_putB1 (n + 1 + 1 + 1 + 1) (fun m => some (0, zi 0, m)) s i 24 h (by omega) a0 (by decide)
  obtain ⟨s1, p1, h1⟩ := x_putB1 (n + 1 + 1 + 1) (fun m => some (0, zi 0, m)) s0 (i + 1) 16 h0 (by omega) a1 (by decide)
  obtain ⟨s2, p2, h2⟩ := x_putB1 (n + 1 + 1) (fun m => some (0, zi 0, m)) s1 (i + 2) 8 h1 (by omega) a2 (by decide)
  obtain ⟨s3, p3, h3⟩ := x_putB1 (n + 1) (fun m => some (0, zi 0, m)) s2 (i + 3) 0 h2 (by omega) a3 (by decide)
  refine ⟨s3, ?_, h3⟩
  have fin : ∀ (K : zMem → zRes) (s : zMem), f8_putBytes_L3 x K (n + 1) (zi 0 + (-8 : Int32)) s = K s := by
    intro K s
    simp only [f8_putBytes_L3]
    rw [if_pos (by decide)]
  unfold f8_putBytes
  rw [hn]
  have z24 : (24 : Int32) = zi 24 := rfl
  have z0 : (0 : Int32) = zi 0 := rfl
  rw [z24, z0, p0, e0, p1, e1, p2, e2, p3, fin]
/-- the bytes of five numbers -/
def fdA (a b c d e : Int32) (k : Nat) : Int32 := byv (if k < 4 then a else if k < 8 then b else if k < 12 then c else if k < 16 then d else e) (24 - 8 * (k % 4))
theorem m_feed_L {a b c d e : Int32} {t : Nat} {μ s : zMem} (K : zMem → zRes) (h : fFd t 0 (fdA a b c d e) μ s) (ht : t + 20 ≤ 500) : ∃ s', f9_feed_L23 a b c d e K zF (zi 0) s = K s' ∧ fFd t 20 (fdA a b c d e) μ s' :=
  zloopE (L := fun n i s => f9_feed_L23 a b c d e K n (zi i) s) (N := 20) (o := K) (fun i s => fFd t i (fdA a b c d e) μ s)
    (fun n s _ => by simp (disch := omega) only [f9_feed_L23, zlit, zi_le, Nat.le_refl, if_true])
    (fun n i s hi hs => ⟨_, by
      have hm : i % 4 < 4 := Nat.mod_lt _ (by decide)
      have hc : 24 - 8 * (i % 4) = 0 ∨ 24 - 8 * (i % 4) = 8 ∨ 24 - 8 * (i % 4) = 16 ∨ 24 - 8 * (i % 4) = 24 := by omega
      simp (disch := omega) only [f9_feed_L23, zlit, zi_le, show ¬ 20 ≤ i by omega, if_false, zlet_e, hs.1, zin_i, zi_cl, zset_nk, zrem_i, zi_mul, zi_sub, zshr_by hc, zi_add]
      unfold fdA
      by_cases h4 : i < 4
      · simp only [h4, show ¬ 4 ≤ i by omega, if_true, if_false]
      · by_cases h8 : i < 8
        · simp only [h4, h8, show 4 ≤ i by omega, show ¬ 8 ≤ i by omega, if_true, if_false]
        · by_cases h12 : i < 12
          · simp only [h4, h8, h12, show 4 ≤ i by omega, show 8 ≤ i by omega, show ¬ 12 ≤ i by omega, if_true, if_false]
          · by_cases h16 : i < 16
            · simp only [h4, h8, h12, h16, show 4 ≤ i by omega, show 8 ≤ i by omega, show 12 ≤ i by omega, show ¬ 16 ≤ i by omega, if_true, if_false]
            · simp only [h4, h8, h12, h16, show 4 ≤ i by omega, show 8 ≤ i by omega, show 12 ≤ i by omega, show 16 ≤ i by omega, if_true, if_false], fFd_put hs⟩)
    20 0 s zF (by omega) (by unfold zF; omega) h
theorem P_feed {a b c d e : Int32} {μX μM : zMem} (h : zInv μX μM) : zPm c0 (f8_feed a b c d e μX) (f9_feed a b c d e μM) := by
  have h' := h
  obtain ⟨T, W, r, R, n, m, WI, rI, RI, ⟨hT, hW, hL, hX, hM, hS, hS', h30, hB, hR, hR'⟩, ⟨t1, t2, t3, t4⟩, hf, i1, i2, i3, i4⟩ := h
  by_cases h5 : n + 20 ≤ 500
  · have f0 : fFd n 0 (fdA a b c d e) μX μX := ⟨t2, fun j hj => absurd hj (by omega), fun _ _ _ _ => rfl⟩
    obtain ⟨s1, p1, f1⟩ := x_putBytes (x := a) f0 (by omega) rfl rfl rfl rfl
    obtain ⟨s2, p2, f2⟩ := x_putBytes (x := b) f1 (by omega) rfl rfl rfl rfl
    obtain ⟨s3, p3, f3⟩ := x_putBytes (x := c) f2 (by omega) rfl rfl rfl rfl
    obtain ⟨s4, p4, f4⟩ := x_putBytes (x := d) f3 (by omega) rfl rfl rfl rfl
    obtain ⟨s5, p5, f5⟩ := x_putBytes (x := e) f4 (by omega) rfl rfl rfl rfl
    have f5 : fFd n 20 (fdA a b c d e) μX s5 := f5
    have g0 : fFd n 0 (fdA a b c d e) (zset μM 0 0 (zi 0)) (zset μM 0 0 (zi 0)) := ⟨by rw [zset_nj (by decide)]; exact t3, fun j hj => absurd hj (by omega), fun _ _ _ _ => rfl⟩
    obtain ⟨s, q, g⟩ := m_feed_L (fun (μ19 : zMem) => some (0, μ19 0 1, μ19)) g0 h5
    have ex : ∀ key j, ¬ (key = 0 ∧ j = 1) → key ≠ 1 → s5 key j = μX key j := fun key j h1 h2 => f5.2.2 key j h1 (by omega)
    have exk : ∀ key, key ≠ 0 → key ≠ 1 → s5 key = μX key := fun key h1 h2 => funext (fun j => ex key j (by omega) h2)
    have em : ∀ key j, ¬ (key = 0 ∧ j = 1) → key ≠ 1 → ¬ (key = 0 ∧ j = 0) → s key j = μM key j := fun key j h1 h2 h3 => by rw [g.2.2 key j h1 (by omega), zset_at, if_neg h3]
    have emk : ∀ key, key ≠ 0 → key ≠ 1 → s key = μM key := fun key h1 h2 => funext (fun j => em key j (by omega) h2 (by omega))
    refine ⟨0, zi (n + 20), s5, zi (n + 20), s, ?_, ?_, ?_, fun _ => rfl, Or.inl rfl, ?_⟩
    · unfold f8_feed
      simp (disch := omega) only [t2, zlit, zi_add, zi_le, h5, if_true, p1, p2, p3, p4, p5, bnd0_ok, f5.1]
    · unfold f9_feed
      simp (disch := omega) only [zlet_e', zset_nj, t3, zlit', zi_add, zi_le, h5, if_true, q, g.1]
    · rw [g.2.2 0 0 (by omega) (by omega)]; exact zset_00
    · refine ⟨T, W, r, R, n + 20, m, WI, rI, RI, ⟨hT, hW, hL, XT_of2 (fun key h1 h2 => exk key (by omega) (by omega)) hX, ?_, XS_of (fun key h1 h2 => exk key (by omega) (by omega)) hS, ?_, ?_, hB, XR_of (ex _ _ (by omega) (by omega)) (exk _ (by omega) (by omega)) hR, MR_of (em _ _ (by omega) (by omega) (by omega)) (fun i hi => emk _ (by omega) (by omega)) hB.1 hR'⟩, ⟨h5, f5.1, g.1, fun j hj => ?_⟩, ?_, i1, ?_, ?_, fun i hi => ?_⟩
      · exact MT_at (fun j _ => by rw [emk 4 (by omega) (by omega)]) (emk 47 (by omega) (by omega)) (emk 49 (by omega) (by omega)) (fun p hp => by rw [emk (15 + p) (by omega) (by omega)]) (fun d hd => emk (36 + d) (by omega) (by omega)) hT hM
      · exact MS_at (em _ _ (by omega) (by omega) (by omega)) (em _ _ (by omega) (by omega) (by omega)) (by rw [emk 4 (by omega) (by omega)]) (emk 91 (by omega) (by omega)) (emk 92 (by omega) (by omega)) (fun p hp => emk _ (by omega) (by omega)) (fun p hp => by rw [emk (15 + p) (by omega) (by omega)]) hT hW hS'
      · rw [em 0 30 (by omega) (by omega) (by omega)]; exact h30
      · by_cases e' : j < n
        · rw [f5.2.2 1 j (by omega) (by omega), g.2.2 1 j (by omega) (by omega), zset_nk (by decide)]; exact t4 j e'
        · obtain ⟨cc, c1, c2⟩ := byv_lt (if j - n < 4 then a else if j - n < 8 then b else if j - n < 12 then c else if j - n < 16 then d else e) (24 - 8 * ((j - n) % 4))
          refine ⟨cc, c1, ?_, ?_⟩
          · have := f5.2.1 (j - n) (by omega); rw [show n + (j - n) = j by omega] at this; rw [this]; exact c2
          · have := g.2.1 (j - n) (by omega); rw [show n + (j - n) = j by omega] at this; rw [this]; exact c2
      · rw [ex 0 2 (by omega) (by omega), em 0 3 (by omega) (by omega) (by omega)]; exact hf
      · rw [ex 0 9 (by omega) (by omega)]; exact i2
      · rw [em 0 22 (by omega) (by omega) (by omega)]; exact i3
      · obtain ⟨l1, l2, l3, l4, l5, l6⟩ := i4 i (by omega)
        refine ⟨l1, l2, l3, XS_of (fun key h1 h2 => exk key (by omega) (by omega)) l4, XR_of (by rw [exk (34 + 5 * i) (by omega) (by omega)]) (exk _ (by omega) (by omega)) l5, ?_⟩
        unfold KI; rw [emk (94 + i) (by omega) (by omega)]; exact l6
  · refine zPm_q h' (μX' := μX) (μM' := zset μM 0 0 (zi 0)) (e := 0) (v := zN1) (w := zN1) ?_ ?_ zset_00 (fun _ => rfl) (Or.inl rfl) zfr.refl zmq_0
    · unfold f8_feed; simp (disch := omega) only [t2, ↓zneg1, zlit, zi_add, zi_le, h5, if_false]
    · unfold f9_feed; simp (disch := omega) only [zlet_e', zset_nj, t3, ↓zneg1', zlit', zi_add, zi_le, h5, if_false]
