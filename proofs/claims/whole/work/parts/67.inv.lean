/-! THE PURE SIDE, 8: what holds between the class and the reference; the checks of arguments -/
def WL (T W : zN2) : Prop := W 0 1 = tS T (W 0 0) ∧ W 0 2 = T 2 3 ∧ W 0 3 = T 2 1 ∧ ∀ p, p < T 2 1 → W 2 p = T 5 p
/-- ROWS, as the class writes them -/
def RB (T : zN2) (r : Nat) (R : Nat → Nat) : Prop := r ≤ 30 ∧ ∀ i, i < r → R i / 1000 ≤ 29 ∧ R i / 100 % 10 < T 2 2 ∧ R i / 10 % 10 < T 2 1 ∧ R i % 10 < T 2 1
def XR (r : Nat) (R : Nat → Nat) (k : Nat) (μ : zMem) : Prop := μ k 9 = zi r ∧ ∀ i, i < r → μ (k + 4) i = zi (R i)
def MR (r : Nat) (R : Nat → Nat) (μ : zMem) : Prop := μ 0 21 = zi r ∧ ∀ i, i < r → μ (61 + i) 0 = zi (R i / 1000) ∧ μ (61 + i) 1 = zi (R i / 100 % 10) ∧ μ (61 + i) 2 = zi (R i / 10 % 10) ∧ μ (61 + i) 3 = zi (R i % 10)
/-- an image of the reference -/
def KI (T W : zN2) (r : Nat) (R : Nat → Nat) (kt : Nat) (μ : zMem) : Prop :=
  μ kt 0 = zi (W 0 0) ∧ μ kt 1 = zi r ∧ (∀ p, p < W 0 3 → μ kt (38 + p) = zi (W 1 p) ∧ ∀ q, q < T 2 0 → μ kt (2 + 4 * p + q) = zi (W (4 + p) q))
  ∧ (∀ d, d < 10 → μ kt (47 + d) = zi (if (W 0 4).testBit d = true then 1 else 0))
  ∧ ∀ i, i < r → μ kt (57 + 4 * i + 0) = zi (R i / 1000) ∧ μ kt (57 + 4 * i + 1) = zi (R i / 100 % 10) ∧ μ kt (57 + 4 * i + 2) = zi (R i / 10 % 10) ∧ μ kt (57 + 4 * i + 3) = zi (R i % 10)
/-- the tape -/
def zTp (n : Nat) (μX μM : zMem) : Prop := n ≤ 500 ∧ μX 0 1 = zi n ∧ μM 0 1 = zi n ∧ ∀ j, j < n → ∃ c, c < 256 ∧ μX 1 j = zi c ∧ μM 1 j = zi c
/-- the images -/
def zIm (T : zN2) (m : Nat) (WI : Nat → zN2) (rI : Nat → Nat) (RI : Nat → Nat → Nat) (μX μM : zMem) : Prop :=
  m ≤ 3 ∧ μX 0 9 = zi m ∧ μM 0 22 = zi m ∧ ∀ i, i < m → WB T (WI i) ∧ WL T (WI i) ∧ RB T (rI i) (RI i) ∧ XS T (WI i) (34 + 5 * i) μX ∧ XR (rI i) (RI i) (34 + 5 * i) μX ∧ KI T (WI i) (rI i) (RI i) (94 + i) μM
/-- the live scene and the town -/
def zLv (T W : zN2) (r : Nat) (R : Nat → Nat) (μX μM : zMem) : Prop :=
  TB T ∧ WB T W ∧ WL T W ∧ XT T μX ∧ MT T μM ∧ XS T W 23 μX ∧ MS T W μM ∧ μM 0 30 = zN1 ∧ RB T r R ∧ XR r R 23 μX ∧ MR r R μM
def zInv (μX μM : zMem) : Prop := ∃ T W r R n m WI rI RI, zLv T W r R μX μM ∧ zTp n μX μM ∧ μX 0 2 = μM 0 3 ∧ zIm T m WI rI RI μX μM
/-- the class's scratch cells -/
def zsx (k : Nat) : Prop := (12 ≤ k ∧ k < 23) ∨ (28 ≤ k ∧ k < 34) ∨ 49 ≤ k
/-- the reference's keys that only town() changes, and images -/
def zmk (k : Nat) : Prop := k = 1 ∨ k = 4 ∨ (15 ≤ k ∧ k < 24) ∨ (36 ≤ k ∧ k < 46) ∨ k = 47 ∨ k = 49 ∨ (94 ≤ k ∧ k < 97)
/-- the reference's cells that count are as they were -/
def zmq (μ μ' : zMem) : Prop := (μ' 0 1 = μ 0 1 ∧ μ' 0 3 = μ 0 3 ∧ μ' 0 22 = μ 0 22 ∧ μ' 0 30 = μ 0 30) ∧ (∀ key j, kidx key j < 177 → μ' key j = μ key j) ∧ ∀ key, zmk key → μ' key = μ key
theorem zmq.refl {μ : zMem} : zmq μ μ := ⟨⟨rfl, rfl, rfl, rfl⟩, fun _ _ _ => rfl, fun _ _ => rfl⟩
theorem zmq.trans {μ μ' μ'' : zMem} (h : zmq μ μ') (h' : zmq μ' μ'') : zmq μ μ'' :=
  ⟨⟨h'.1.1.trans h.1.1, h'.1.2.1.trans h.1.2.1, h'.1.2.2.1.trans h.1.2.2.1, h'.1.2.2.2.trans h.1.2.2.2⟩, fun k j hk => (h'.2.1 k j hk).trans (h.2.1 k j hk), fun k hk => (h'.2.2 k hk).trans (h.2.2 k hk)⟩
theorem kidx_lt : kidx 0 20 = 0 ∧ kidx 0 21 = 1 ∧ (∀ p q, p < 9 → q < 4 → kidx (51 + p) q = 2 + 4 * p + q) ∧ (∀ p, p < 9 → kidx 91 p = 38 + p) ∧ (∀ d, d < 10 → kidx 92 d = 47 + d) ∧ ∀ i j, i < 30 → j < 4 → kidx (61 + i) j = 57 + 4 * i + j := by
  refine ⟨rfl, rfl, fun p q hp hq => ?_, fun p hp => ?_, fun d hd => ?_, fun i j hi hj => ?_⟩
  · unfold kidx; rw [if_neg (by omega), if_neg (by omega), if_pos (by omega)]; omega
  · unfold kidx; rw [if_neg (by omega), if_neg (by omega), if_neg (by omega), if_pos (by omega)]
  · unfold kidx; rw [if_neg (by omega), if_neg (by omega), if_neg (by omega), if_neg (by omega), if_pos (by omega)]
  · unfold kidx; rw [if_neg (by omega), if_neg (by omega), if_neg (by omega), if_neg (by omega), if_neg (by omega), if_pos (by omega)]; omega
theorem kidx_0 {j : Nat} (h : j ≠ 20) (h' : j ≠ 21) : kidx 0 j = 1000 := by
  unfold kidx; rw [if_neg (by omega), if_neg (by omega), if_neg (by omega), if_neg (by omega), if_neg (by omega), if_neg (by omega)]
theorem MT_q {T : zN2} {μ μ' : zMem} (h : ∀ key, zmk key → μ' key = μ key) (hT : TB T) (hM : MT T μ) : MT T μ' :=
  MT_at (fun j _ => congrFun (h 4 (by unfold zmk; omega)) j) (h 47 (by unfold zmk; omega)) (h 49 (by unfold zmk; omega)) (fun p hp => congrFun (h (15 + p) (by unfold zmk; omega)) 5) (fun d hd => h (36 + d) (by unfold zmk; omega)) hT hM
theorem MS_q {T W : zN2} {μ μ' : zMem} (h : zmq μ μ') (hT : TB T) (hW : WB T W) (hS : MS T W μ) : MS T W μ' := by
  have hP := hT.2.1
  have hP' := hW.2.2.2.1
  have hQ := hT.1
  obtain ⟨k1, k2, k3, k4, k5, k6⟩ := kidx_lt
  obtain ⟨⟨a1, a2, a3, a4⟩, b, c⟩ := h
  obtain ⟨m1, m2, m3, m4⟩ := hS
  unfold MS
  rw [b 0 20 (by omega), a4, c 4 (by unfold zmk; omega)]
  refine ⟨m1, fun p hp => ⟨?_, fun q hq => ?_⟩, fun p hp => ?_, fun d hd => ?_⟩
  · rw [b 91 p (by rw [k4 p (by omega)]; omega)]; exact (m2 p hp).1
  · rw [b (51 + p) q (by rw [k3 p q (by omega) (by omega)]; omega)]; exact (m2 p hp).2 q hq
  · rw [c (15 + p) (by unfold zmk; omega)]; exact m3 p hp
  · rw [b 92 d (by rw [k5 d (by omega)]; omega)]; exact m4 d hd
theorem MR_q {r : Nat} {R : Nat → Nat} {μ μ' : zMem} (h : zmq μ μ') (hr : r ≤ 30) (hR : MR r R μ) : MR r R μ' := by
  obtain ⟨k1, k2, k3, k4, k5, k6⟩ := kidx_lt
  refine ⟨?_, fun i hi => ?_⟩
  · rw [h.2.1 0 21 (by omega)]; exact hR.1
  · rw [h.2.1 (61 + i) 0 (by rw [k6 i 0 (by omega) (by omega)]; omega), h.2.1 (61 + i) 1 (by rw [k6 i 1 (by omega) (by omega)]; omega), h.2.1 (61 + i) 2 (by rw [k6 i 2 (by omega) (by omega)]; omega), h.2.1 (61 + i) 3 (by rw [k6 i 3 (by omega) (by omega)]; omega)]
    exact hR.2 i hi
/-- a call that asks only -/
theorem zInv_q {μX μM μX' μM' : zMem} (h : zInv μX μM) (hx : zfr zsx μX μX') (hm : zmq μM μM') : zInv μX' μM' := by
  obtain ⟨T, W, r, R, n, m, WI, rI, RI, ⟨hT, hW, hL, hX, hM, hS, hS', h30, hB, hR, hR'⟩, ⟨t1, t2, t3, t4⟩, hf, i1, i2, i3, i4⟩ := h
  refine ⟨T, W, r, R, n, m, WI, rI, RI, ⟨hT, hW, hL, XT_of (fun key hk => hx key (by unfold zsx; omega)) hX, MT_q hm.2.2 hT hM, XS_of (fun key h1 h2 => hx key (by unfold zsx; omega)) hS, MS_q hm hT hW hS', hm.1.2.2.2.trans h30, hB, ?_, MR_q hm hB.1 hR'⟩, ⟨t1, ?_, hm.1.1.trans t3, ?_⟩, ?_, i1, ?_, hm.1.2.2.1.trans i3, fun i hi => ?_⟩
  · unfold XR; rw [hx 23 (by unfold zsx; omega), hx (23 + 4) (by unfold zsx; omega)]; exact hR
  · rw [hx 0 (by unfold zsx; omega)]; exact t2
  · rw [hx 1 (by unfold zsx; omega), hm.2.2 1 (by unfold zmk; omega)]; exact t4
  · rw [hx 0 (by unfold zsx; omega), hm.1.2.1]; exact hf
  · rw [hx 0 (by unfold zsx; omega)]; exact i2
  · obtain ⟨j1, j2, j3, j4, j5, j6⟩ := i4 i hi
    refine ⟨j1, j2, j3, XS_of (fun key h1 h2 => hx key (by unfold zsx; omega)) j4, ?_, ?_⟩
    · unfold XR; rw [hx (34 + 5 * i) (by unfold zsx; omega), hx (34 + 5 * i + 4) (by unfold zsx; omega)]; exact j5
    · unfold KI; rw [hm.2.2 (94 + i) (by unfold zmk; omega)]; exact j6
/-- a call of the class and of the reference: c the law's numbers of the exceptions -/
def zPm (c : Nat → Nat) (r r' : zRes) : Prop := ∃ e v μX' w μM', r = some (e, v, μX') ∧ r' = some (0, w, μM') ∧ μM' 0 0 = zi (c e) ∧ (e = 0 → v = w) ∧ (e = 0 ∨ 0 < c e) ∧ zInv μX' μM'
theorem zPm_q {c : Nat → Nat} {r r' : zRes} {μX μM μX' μM' : zMem} {e : Nat} {v w : Int32} (h : zInv μX μM) (hr : r = some (e, v, μX')) (hr' : r' = some (0, w, μM')) (h0 : μM' 0 0 = zi (c e)) (hv : e = 0 → v = w) (he : e = 0 ∨ 0 < c e) (hx : zfr zsx μX μX') (hm : zmq μM μM') : zPm c r r' :=
  ⟨e, v, μX', w, μM', hr, hr', h0, hv, he, zInv_q h hx hm⟩
theorem zmq_thr {μ : zMem} {v : Int32} : zmq μ (zset μ 0 0 v) :=
  ⟨⟨zset_nj (by decide), zset_nj (by decide), zset_nj (by decide), zset_nj (by decide)⟩, fun key j hk => by
    rw [zset_at, if_neg]
    intro e
    rw [e.1, e.2] at hk
    exact absurd hk (by decide), fun key hk => zset_nk (by unfold zmk at hk; omega)⟩
/-! the checks -/
theorem zcase (x : Int32) (P : Nat) (hP : P < 2147483648) : (∃ p, p < P ∧ x = zi p) ∨ (x < zi 0 ∨ zi P ≤ x) := by
  by_cases h : x < zi 0
  · exact Or.inr (Or.inl h)
  · by_cases h' : zi P ≤ x
    · exact Or.inr (Or.inr h')
    · left
      rw [Int32.lt_iff_toInt_lt, zi_int (by decide)] at h
      rw [Int32.le_iff_toInt_le, zi_int hP] at h'
      have e := zi_of (x := x) (by omega)
      refine ⟨x.toNatClampNeg, ?_, e⟩
      have := Int32.toInt_eq_toNatClampNeg (a := x) (Int32.le_iff_toInt_le.mpr (by have : (0 : Int32).toInt = 0 := rfl; omega))
      omega
/-- the least number that isn't below P: x > P - 1 -/
theorem zsub1_lt {x : Int32} {P : Nat} (hP : P < 1000) : (zi P - zi 1 < x) = (zi P ≤ x) := by
  apply propext
  rw [Int32.lt_iff_toInt_lt, Int32.le_iff_toInt_le, zI_sub (by rw [zi_int (by omega), zi_int (by omega)]; omega) (by rw [zi_int (by omega), zi_int (by omega)]; omega), zi_int (by omega), zi_int (by omega)]
  omega
theorem m_in_ok {x lo hi : Int32} {μ : zMem} (h1 : ¬ x < lo) (h2 : ¬ hi < x) : f9_in x lo hi μ = some (0, zi 1, μ) := by
  unfold f9_in; simp only [zlet_e, zlit, if_neg h1, if_neg h2, zbl_1]
theorem m_in_no {x lo hi : Int32} {μ : zMem} (h : x < lo ∨ hi < x) : f9_in x lo hi μ = some (0, zi 0, μ) := by
  unfold f9_in
  by_cases h1 : x < lo
  · simp only [zlet_e, zlit, if_pos h1, zbl_0]
  · simp only [zlet_e, zlit, if_neg h1, if_pos (h.resolve_left h1), zbl_0]
theorem m_bad0 {x2 : Int32} {μ : zMem} (h0 : μ 0 0 = zi 0) : f9_bad (zi 0) x2 μ = some (0, zi 0, μ) := by
  unfold f9_bad; simp only [zlet_e, zlit, if_true, h0, zbl_0]
theorem m_bad1 {c : Nat} {μ : zMem} (h0 : μ 0 0 = zi 0) (hc : 0 < c) (hc' : c < 10) : f9_bad (zi 1) (zi c) μ = some (0, zi 1, zset μ 0 0 (zi c)) := by
  unfold f9_bad; simp (disch := omega) only [zlet_e, zlit, z10, if_true, if_false, h0, zset_eq, zi_eq, show ¬ c = 0 by omega, Nat.one_ne_zero, zbl_1]
