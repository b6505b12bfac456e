/-! THE PURE SIDE, 4: the class's scenes, on -/
theorem XT_of {T : zN2} {μ μ' : zMem} (h : ∀ key, key < 12 → μ' key = μ key) (hX : XT T μ) : XT T μ' := by
  unfold XT at *
  rw [h 2 (by decide), h 3 (by decide), h 5 (by decide), h 6 (by decide), h 7 (by decide), h 8 (by decide), h 9 (by decide), h 10 (by decide), h 11 (by decide)]
  exact hX
theorem XS_of {T W : zN2} {k : Nat} {μ μ' : zMem} (h : ∀ key, k ≤ key → key < k + 4 → μ' key = μ key) (hS : XS T W k μ) : XS T W k μ' := by
  unfold XS at *
  rw [h k (by omega) (by omega), h (k + 1) (by omega) (by omega), h (k + 2) (by omega) (by omega), h (k + 3) (by omega) (by omega)]
  exact hS
def zfil (μ : zMem) (k z : Nat) (x : Int32) : zMem := zup μ k (fun j => if j < z then x else μ k j)
theorem zfil_at {μ : zMem} {k z key j : Nat} {x : Int32} : zfil μ k z x key j = if key = k ∧ j < z then x else μ key j := by
  unfold zfil zup
  by_cases h : key = k
  · subst h
    rw [if_pos rfl]
    by_cases h' : j < z
    · rw [if_pos h', if_pos ⟨rfl, h'⟩]
    · rw [if_neg h', if_neg (fun q => h' q.2)]
  · rw [if_neg h, if_neg (fun q => h q.1)]
theorem zfil_nk {μ : zMem} {k z key : Nat} {x : Int32} (h : key ≠ k) : zfil μ k z x key = μ key := if_neg h
theorem zfil_0 {μ : zMem} {k : Nat} {x : Int32} : zfil μ k 0 x = μ := by
  funext key j; rw [zfil_at, if_neg (by omega)]
theorem zfil_set {μ : zMem} {k i : Nat} {x : Int32} : zset (zfil μ k i x) k i x = zfil μ k (i + 1) x := by
  funext key j
  rw [zset_at, zfil_at, zfil_at]
  repeat' split
  all_goals first | rfl | (exfalso; omega)
theorem x_fill {μ : zMem} {k z : Nat} {x : Int32} (hz : z < 999999) : fJ7_fill_53178 k z x μ = some (0, zi 0, zfil μ k z x) := by
  obtain ⟨s, h1, h2⟩ := zloopE (L := fun n i s => fJ7_fill_53178_L5 k z x (zi z) (fun m => some (0, zi 0, m)) n (zi i) s) (N := z) (o := fun s => some (0, zi 0, s)) (fun i s => s = zfil μ k i x)
    (fun n s _ => by simp (disch := omega) only [fJ7_fill_53178_L5, zi_le, Nat.le_refl, if_true])
    (fun n i s hi hs => ⟨zfil μ k (i + 1) x, by
      subst hs
      simp (disch := omega) only [fJ7_fill_53178_L5, zi_le, show ¬ z ≤ i by omega, if_false, zin_i, zi_cl, zlet_e, zfil_set, zlit, zi_add], rfl⟩)
    z 0 μ zF (by omega) (by unfold zF; omega) zfil_0.symm
  subst h2
  have e1 : Int32.ofNat z = zi z := rfl
  simp only [fJ7_fill_53178, zlet_e, e1, zlit]
  exact h1
theorem x_fill2 {μ : zMem} {k z e : Nat} {x : Int32} (hz : z < 999999) (he : e ≤ z) : fJ7_fill_fda19 k z (zi 0) (zi e) x μ = some (0, zi 0, zfil μ k e x) := by
  obtain ⟨s, h1, h2⟩ := zloopE (L := fun n i s => fJ7_fill_fda19_L10 k z (zi e) x (fun m => some (0, zi 0, m)) n (zi i) s) (N := e) (o := fun s => some (0, zi 0, s)) (fun i s => s = zfil μ k i x)
    (fun n s _ => by simp (disch := omega) only [fJ7_fill_fda19_L10, zi_le, Nat.le_refl, if_true])
    (fun n i s hi hs => ⟨zfil μ k (i + 1) x, by
      subst hs
      simp (disch := omega) only [fJ7_fill_fda19_L10, zi_le, show ¬ e ≤ i by omega, if_false, zin_i, zi_cl, zlet_e, zfil_set, zlit, zi_add], rfl⟩)
    e 0 μ zF (by omega) (by unfold zF; omega) zfil_0.symm
  subst h2
  unfold fJ7_fill_fda19 fJ7_rangeCheck_23922
  have e1 : Int32.ofNat z = zi z := rfl
  simp (disch := omega) only [e1, zlit, zi_le, Nat.zero_le, if_true, he, Nat.le_refl, bnd0_ok]
  exact h1
theorem x_slateOf {T : zN2} {μ : zMem} (hT : TB T) (hX : XT T μ) {day : Nat} (hd : day < 1000) : f7_slateOf (zi day) μ = some (0, zi (tS T day), μ) := by
  have hS := hT.2.2.2.2.2.1
  unfold f7_slateOf tS
  by_cases h : T 2 5 = 0
  · simp (disch := omega) only [zlet_e, hX.1.2.2.2.2.2, zlit, zi_le, h, Nat.le_refl, if_true]
  · have hm : day % T 2 5 < T 2 5 := Nat.mod_lt _ (by omega)
    simp (disch := omega) only [zlet_e, hX.1.2.2.2.2.2, zlit, zi_le, show ¬ T 2 5 ≤ 0 by omega, if_false, Nat.zero_le, if_true, znz_i, zrem_i, zin_i, zi_cl, hX.2.1 _ hm, h]
theorem tS_b {T : zN2} (hT : TB T) (day : Nat) : tS T day < T 2 0 ∨ tS T day = 0 := by
  unfold tS
  by_cases h : T 2 5 = 0
  · rw [if_pos h]; exact Or.inr rfl
  · rw [if_neg h]; exact tb_3 hT _
theorem tD_at {T W : zN2} {day k j : Nat} : tD T W day k j = if k = 0 ∧ j = 0 then day else if k = 0 ∧ j = 1 then tS T day else if k = 1 then T 2 4 else W k j := rfl
theorem wb_dawn {T W : zN2} {day : Nat} (hT : TB T) (hW : WB T W) (hd : day ≤ 29) : WB T (tD T W day) := by
  have h4 := hT.2.2.2.2.1
  refine ⟨hd, tS_b hT day, hW.2.2.1, hW.2.2.2.1, hW.2.2.2.2.1, ?_, ?_, ?_, hW.2.2.2.2.2.2.2.2⟩
  · intro p; rw [tD_at, if_neg (by omega), if_neg (by omega), if_pos rfl]; exact h4
  · intro p; rw [tD_at, if_neg (by omega), if_neg (by omega), if_neg (by omega)]; exact wb_2 hW p
  · intro p q; rw [tD_at, if_neg (by omega), if_neg (by omega), if_neg (by omega)]; exact wb_th hW p q
theorem x_beginDay {T W : zN2} {k : Nat} {μ : zMem} (hk : 12 < k) (hT : TB T) (hW : WB T W) (hX : XT T μ) (hS : XS T W k μ) {day : Nat} (hd : day < 1000) :
    ∃ μ', f5_beginDay k (zi day) μ = some (0, zi 0, μ') ∧ XS T (tD T W day) k μ' ∧ zfr (fun q => q = k ∨ q = k + 2) μ μ' ∧ μ' k 9 = μ k 9 := by
  have hP := hW.2.2.2.1
  have hX1 : XT T (zset μ k 1 (zi day)) := XT_of (fun key hkey => zset_nk (by omega)) hX
  unfold f5_beginDay
  simp (disch := omega) only [zlet_e, x_slateOf hT hX1 hd, bnd0_ok, x_fill, zset_nk]
  refine ⟨_, rfl, ?_, ?_, ?_⟩
  · refine ⟨⟨?_, ?_, ?_, ?_, ?_⟩, ?_⟩
    · simp (disch := omega) only [zfil_nk, zset_nj, zset_eq]; rfl
    · simp (disch := omega) only [zfil_nk, zset_nj, zset_eq]; rfl
    · simp (disch := omega) only [zfil_nk, zset_nj, hS.1.2.2.1]; rfl
    · simp (disch := omega) only [zfil_nk, zset_nj, hS.1.2.2.2.1]; rfl
    · simp (disch := omega) only [zfil_nk, zset_nj, hS.1.2.2.2.2]; rfl
    · intro p hp
      have hp : p < W 0 3 := hp
      refine ⟨?_, ?_, ?_⟩
      · rw [zfil_at, if_pos ⟨rfl, by omega⟩, tD_at, if_neg (by omega), if_neg (by omega), if_pos rfl]; exact hX.1.2.2.2.2.1
      · simp (disch := omega) only [zfil_nk, zset_nk, (hS.2 p hp).2.1]; rw [tD_at, if_neg (by omega), if_neg (by omega), if_neg (by omega)]
      · intro q hq
        simp (disch := omega) only [zfil_nk, zset_nk, (hS.2 p hp).2.2 q hq]; rw [tD_at, if_neg (by omega), if_neg (by omega), if_neg (by omega)]
  · intro key hkey
    simp (disch := omega) only [zfil_nk, zset_nk]
  · simp (disch := omega) only [zfil_nk, zset_nj]
theorem x_copyWorld {T W : zN2} {k k2 : Nat} {μ : zMem} (hkk : k2 + 4 < k ∨ k + 4 < k2) (hT : TB T) (hW : WB T W) (hS : XS T W k2 μ) :
    ∃ μ', f5_copyWorld k k2 μ = some (0, zi 0, μ') ∧ XS T W k μ' ∧ zfr (fun q => k ≤ q ∧ q < k + 4) μ μ' ∧ μ' k 9 = μ k 9 := by
  have hP := hW.2.2.2.1
  have hQ := hT.1
  unfold f5_copyWorld
  simp (disch := omega) only [zlet_e, zset_nk, zcpy_nk, zset_nj]
  refine ⟨_, rfl, ?_, ?_, ?_⟩
  · refine ⟨⟨?_, ?_, ?_, ?_, ?_⟩, ?_⟩
    · simp (disch := omega) only [zcpy_nk, zset_nj, zset_eq]; exact hS.1.1
    · simp (disch := omega) only [zcpy_nk, zset_nj, zset_eq]; exact hS.1.2.1
    · simp (disch := omega) only [zcpy_nk, zset_nj, zset_eq]; exact hS.1.2.2.1
    · simp (disch := omega) only [zcpy_nk, zset_nj, zset_eq]; exact hS.1.2.2.2.1
    · simp (disch := omega) only [zcpy_nk, zset_nj, zset_eq]; exact hS.1.2.2.2.2
    · intro p hp
      refine ⟨?_, ?_, ?_⟩
      · rw [zcpy_nk (by omega), zcpy_at, if_pos ⟨rfl, by omega⟩]
        simp (disch := omega) only [zcpy_nk, zset_nk]; exact (hS.2 p hp).1
      · rw [zcpy_at, if_pos ⟨rfl, by omega⟩]
        simp (disch := omega) only [zcpy_nk, zset_nk]; exact (hS.2 p hp).2.1
      · intro q hq
        rw [zcpy_nk (by omega), zcpy_nk (by omega), zcpy_at, if_pos ⟨rfl, by omega⟩]
        simp (disch := omega) only [zcpy_nk, zset_nk]; exact (hS.2 p hp).2.2 q hq
  · intro key hkey
    simp (disch := omega) only [zcpy_nk, zset_nk]
  · simp (disch := omega) only [zcpy_nk, zset_nj]
/-- a TALK -/
def tTv (x y : Nat) : Nat := if x < y then x + 1 else if y < x then x - 1 else x
def tTk (W : zN2) (a b q : Nat) : zN2 := nup W (4 + a) q (tTv (W (4 + a) q) (W (4 + b) q))
theorem tTv_le {x y : Nat} (hx : x ≤ 8) (hy : y ≤ 8) : tTv x y ≤ 8 := by unfold tTv; repeat' split
                                                                         all_goals omega
theorem wb_put {T W : zN2} {a q v : Nat} (hW : WB T W) (hv : v ≤ 8) : WB T (nup W (4 + a) q v) := by
  refine ⟨?_, ?_, ?_, ?_, ?_, ?_, ?_, ?_, ?_⟩
  · rw [nup_nk (by omega)]; exact hW.1
  · rw [nup_nk (by omega)]; exact hW.2.1
  · rw [nup_nk (by omega)]; exact hW.2.2.1
  · rw [nup_nk (by omega)]; exact hW.2.2.2.1
  · rw [nup_nk (by omega)]; exact hW.2.2.2.2.1
  · intro p; rw [nup_nk (by omega)]; exact wb_1 hW p
  · intro p; rw [nup_nk (by omega)]; exact wb_2 hW p
  · intro p q'; rw [nup_at]; have := wb_th hW p q'; split <;> omega
  · rw [nup_nk (by omega)]; exact hW.2.2.2.2.2.2.2.2
theorem wb_talk {T W : zN2} {a b q : Nat} (hW : WB T W) : WB T (tTk W a b q) := wb_put hW (tTv_le (wb_th hW a q) (wb_th hW b q))
theorem xs_put {T W : zN2} {k : Nat} {μ : zMem} (hT : TB T) (hS : XS T W k μ) {p q v : Nat} (hq : q < T 2 0) : XS T (nup W (4 + p) q v) k (zset μ (k + 1) (p * 4 + q) (zi v)) := by
  have hQ := hT.1
  refine ⟨⟨?_, ?_, ?_, ?_, ?_⟩, ?_⟩
  · rw [zset_nk (by omega), nup_nk (by omega)]; exact hS.1.1
  · rw [zset_nk (by omega), nup_nk (by omega)]; exact hS.1.2.1
  · rw [zset_nk (by omega), nup_nk (by omega)]; exact hS.1.2.2.1
  · rw [zset_nk (by omega), nup_nk (by omega)]; exact hS.1.2.2.2.1
  · rw [zset_nk (by omega), nup_nk (by omega)]; exact hS.1.2.2.2.2
  · intro p' hp'
    rw [nup_nk (by omega)] at hp'
    refine ⟨?_, ?_, ?_⟩
    · rw [zset_nk (by omega), nup_nk (by omega)]; exact (hS.2 p' hp').1
    · rw [zset_nk (by omega), nup_nk (by omega)]; exact (hS.2 p' hp').2.1
    · intro q' hq'
      rw [zset_at, nup_at]
      by_cases h : p' = p ∧ q' = q
      · rw [if_pos (by omega), if_pos (by omega)]
      · rw [if_neg (by omega), if_neg (by omega)]; exact (hS.2 p' hp').2.2 q' hq'
theorem x_step {T W : zN2} {k : Nat} {μ : zMem} (hT : TB T) (hW : WB T W) (hS : XS T W k μ) {a b q : Nat} (ha : a < W 0 3) (hb : b < W 0 3) (hq : q < T 2 0) :
    f5_stepTowards k (zi a) (zi b) (zi q) μ = some (0, zi 0, zset μ (k + 1) (a * 4 + q) (zi (tTv (W (4 + a) q) (W (4 + b) q)))) := by
  have h1 := wb_th hW a q
  have h2 := wb_th hW b q
  unfold f5_stepTowards f5_stepTo fJ6_compare_7cf53 tTv
  simp (disch := omega) only [x_thought hT hW hS ha hq, x_thought hT hW hS hb hq, bnd0_ok, zlet_e, zi_le, zi_eq, ↓zneg1, zlit]
  by_cases h : W (4 + a) q < W (4 + b) q
  · simp (disch := omega) only [if_pos h, if_pos (show W (4 + a) q ≤ W (4 + b) q by omega), if_neg (show ¬ W (4 + b) q = W (4 + a) q by omega), bnd0_ok, x_putThought hT hW ha hq, zi_add]
  · by_cases h' : W (4 + b) q < W (4 + a) q
    · simp (disch := omega) only [if_neg h, if_pos h', if_neg (show ¬ W (4 + a) q ≤ W (4 + b) q by omega), bnd0_ok, x_putThought hT hW ha hq, zi_pred]
    · simp (disch := omega) only [if_neg h, if_neg h', if_pos (show W (4 + a) q ≤ W (4 + b) q by omega), if_pos (show W (4 + b) q = W (4 + a) q by omega), bnd0_ok, x_putThought hT hW ha hq, zi_add, Nat.add_zero]
/-- the bits of those below n with f -/
def bset (f : Nat → Bool) : Nat → Nat
  | 0 => 0
  | n + 1 => bset f n ||| (if f n = true then 2 ^ n else 0)
theorem bset_lt (f : Nat → Bool) : ∀ n, bset f n < 2 ^ n
  | 0 => Nat.one_pos
  | n + 1 => by
    unfold bset
    apply Nat.or_lt_two_pow
    · exact Nat.lt_trans (bset_lt f n) (Nat.pow_lt_pow_right (by decide) (by omega))
    · split
      · exact Nat.pow_lt_pow_right (by decide) (by omega)
      · exact Nat.two_pow_pos _
theorem bset_bit (f : Nat → Bool) : ∀ n i, (bset f n).testBit i = (decide (i < n) && f i)
  | 0, i => by unfold bset; rw [Nat.zero_testBit]; simp
  | n + 1, i => by
    unfold bset
    rw [Nat.testBit_or, bset_bit f n i]
    by_cases h : i = n
    · subst h
      cases hf : f i
      · simp
      · simp [Nat.testBit_two_pow_self]
    · have : (if f n = true then 2 ^ n else 0).testBit i = false := by
        split
        · rw [Nat.testBit_two_pow]; exact decide_eq_false (fun e => h e.symm)
        · exact Nat.zero_testBit i
      rw [this, Bool.or_false]
      have : (i < n + 1) = (i < n) := by apply propext; omega
      simp only [this]
/-- whether one could work with another one about a QUESTION by a gap -/
def tV (T W : zN2) (q g a p : Nat) : Bool := decide (p ≠ a ∧ (T 7 p).testBit a = false ∧ g ≤ zd (W (4 + p) q) (W (4 + a) q))
theorem x_rivals {T W : zN2} {k : Nat} {μ : zMem} (hT : TB T) (hW : WB T W) (hX : XT T μ) (hS : XS T W k μ) {a q g : Nat} (ha : a < W 0 3) (hq : q < T 2 0) (hg : g < 1000) :
    f5_rivalsOf k (zi a) (zi q) (zi g) μ = some (0, zi (bset (tV T W q g a) (W 0 3)), μ) := by
  have hP := hW.2.2.2.1
  obtain ⟨s, h1, h2⟩ := zloopE (L := fun n i (s : Int32 × zMem) => f5_rivalsOf_L6 k (zi a) (zi q) (zi g) (fun v m => some (0, v, m)) n s.1 (zi i) s.2) (N := W 0 3) (o := fun s => some (0, s.1, s.2)) (fun i s => s = (zi (bset (tV T W q g a) i), μ))
    (fun n s hs => by subst hs; simp (disch := omega) only [f5_rivalsOf_L6, hS.1.2.2.2.1, zi_le, Nat.le_refl, if_true])
    (fun n i s hi hs => ⟨(zi (bset (tV T W q g a) (i + 1)), μ), by
      subst hs
      have hz : zd (W (4 + i) q) (W (4 + a) q) ≤ 8 := by
        have := wb_th hW a q
        have := wb_th hW i q
        unfold zd; omega
      simp (disch := omega) only [f5_rivalsOf_L6, hS.1.2.2.2.1, zi_le, show ¬ W 0 3 ≤ i by omega, if_false, zlet_e, zlit, zi_eq, x_areKin hT hX, bnd0_ok, zi_add, z10, z01, if_true, x_apart hT hW hS hi ha hq, zi_lt, zshl1]
      by_cases h1 : i = a
      · have e : tV T W q g a i = false := decide_eq_false (fun z => z.1 h1)
        rw [if_pos h1, zi_or, bset, e]; rfl
      · rw [if_neg h1]
        cases h2 : (T 7 i).testBit a
        · simp (disch := omega) only [if_true, if_false, ite_true, ite_false, Bool.false_eq_true, Bool.true_eq_false, reduceIte, z10, z01, zi_or]
          by_cases h3 : zd (W (4 + i) q) (W (4 + a) q) < g
          · have e : tV T W q g a i = false := decide_eq_false (fun z => by omega)
            rw [if_pos h3, bset, e]; rfl
          · have e : tV T W q g a i = true := decide_eq_true ⟨h1, h2, by omega⟩
            rw [if_neg h3, bset, e]; rfl
        · have e : tV T W q g a i = false := decide_eq_false (fun z => by rw [h2] at z; exact absurd z.2.1 (by decide))
          simp (disch := omega) only [if_true, if_false, ite_true, ite_false, Bool.false_eq_true, Bool.true_eq_false, reduceIte, z10, z01, zi_or, bset, e], rfl⟩)
    (W 0 3) 0 (zi 0, μ) zF (by omega) (by unfold zF; omega) rfl
  subst h2
  simp only [f5_rivalsOf, zlit]
  exact h1
