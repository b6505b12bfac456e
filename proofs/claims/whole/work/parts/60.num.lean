/-! THE PURE SIDE, 1: numbers, evaluation, loops -/
def zi (n : Nat) : Int32 := Int32.ofNat n
def zN1 : Int32 := -1
theorem zneg1 : (-1 : Int32) = zN1 := rfl
theorem zlit {n : Nat} : (no_index (OfNat.ofNat n) : Int32) = zi (OfNat.ofNat n) := rfl
theorem zi_int {n : Nat} (h : n < 2147483648) : (zi n).toInt = (n : Int) := Int32.toInt_ofNat_of_lt h
theorem zN1_int : zN1.toInt = -1 := by decide
theorem zi_cl {n : Nat} (h : n < 2147483648) : (zi n).toNatClampNeg = n := Int32.toNatClampNeg_ofNat_of_lt h
theorem zi_lt {a b : Nat} (ha : a < 2147483648) (hb : b < 2147483648) : (zi a < zi b) = (a < b) := by
  apply propext; rw [Int32.lt_iff_toInt_lt, zi_int ha, zi_int hb]; omega
theorem zi_le {a b : Nat} (ha : a < 2147483648) (hb : b < 2147483648) : (zi a ≤ zi b) = (a ≤ b) := by
  apply propext; rw [Int32.le_iff_toInt_le, zi_int ha, zi_int hb]; omega
theorem zi_eq {a b : Nat} (ha : a < 2147483648) (hb : b < 2147483648) : (zi a = zi b) = (a = b) := by
  apply propext; rw [← Int32.toInt_inj, zi_int ha, zi_int hb]; omega
theorem zi_inj {a b : Nat} (ha : a < 2147483648) (hb : b < 2147483648) (h : zi a = zi b) : a = b := by
  rw [zi_eq ha hb] at h; exact h
theorem zi_add (a b : Nat) : zi a + zi b = zi (a + b) := (Int32.ofNat_add a b).symm
theorem zi_mul (a b : Nat) : zi a * zi b = zi (a * b) := (Int32.ofNat_mul a b).symm
theorem zi_sub {a b : Nat} (h : b ≤ a) : zi a - zi b = zi (a - b) := (Int32.ofNat_sub a b h).symm
theorem zi_pred {a : Nat} (h : 1 ≤ a) : zi a + zN1 = zi (a - 1) := by
  have e : zi (a - 1) = zi a - zi 1 := (zi_sub h).symm
  rw [e, Int32.sub_eq_add_neg]; rfl
theorem zi_div {a b : Nat} (ha : a < 2147483648) (hb : b < 2147483648) : zi a / zi b = zi (a / b) := (Int32.ofNat_div ha hb).symm
theorem zi_of {x : Int32} (h : 0 ≤ x.toInt) : x = zi x.toNatClampNeg := (Int32.ofNat_toNatClampNeg x (Int32.le_iff_toInt_le.mpr h)).symm
theorem zi_ex {x : Int32} {n : Nat} (h0 : 0 ≤ x.toInt) (h1 : x.toInt ≤ n) : ∃ m, m ≤ n ∧ x = zi m := by
  have e := Int32.toInt_eq_toNatClampNeg (Int32.le_iff_toInt_le.mpr h0)
  exact ⟨x.toNatClampNeg, by omega, zi_of h0⟩
theorem zi_nneg {n : Nat} (h : n < 2147483648) : (zi n < zi 0) = False := by
  apply eq_false; rw [zi_lt h (by omega)]; omega
theorem zi_nN1 {n : Nat} (h : n < 2147483648) : (zi n = zN1) = False := by
  apply eq_false; rw [← Int32.toInt_inj, zi_int h, zN1_int]; omega
theorem zi_nN1' {n : Nat} (h : n < 2147483648) : (zN1 = zi n) = False := by
  apply eq_false; rw [← Int32.toInt_inj, zi_int h, zN1_int]; omega
theorem zN1_lt {n : Nat} (h : n < 2147483648) : (zN1 < zi n) = True := by
  apply eq_true; rw [Int32.lt_iff_toInt_lt, zi_int h, zN1_int]; omega
theorem zN1_le {n : Nat} (h : n < 2147483648) : (zN1 ≤ zi n) = True := by
  apply eq_true; rw [Int32.le_iff_toInt_le, zi_int h, zN1_int]; omega
theorem zlt_N1 {n : Nat} (h : n < 2147483648) : (zi n < zN1) = False := by
  apply eq_false; rw [Int32.lt_iff_toInt_lt, zi_int h, zN1_int]; omega
theorem zle_N1 {n : Nat} (h : n < 2147483648) : (zi n ≤ zN1) = False := by
  apply eq_false; rw [Int32.le_iff_toInt_le, zi_int h, zN1_int]; omega
theorem zI_ext {x y : Int32} (h : x.toInt = y.toInt) : x = y := Int32.toInt.inj h
theorem zI_bm {x : Int} (h1 : -2147483648 ≤ x) (h2 : x < 2147483648) : x.bmod (2 ^ 32) = x := Int.bmod_eq_of_le (by omega) (by omega)
theorem zI_add {x y : Int32} (h1 : -2147483648 ≤ x.toInt + y.toInt) (h2 : x.toInt + y.toInt < 2147483648) : (x + y).toInt = x.toInt + y.toInt := by rw [Int32.toInt_add, zI_bm h1 h2]
theorem zI_sub {x y : Int32} (h1 : -2147483648 ≤ x.toInt - y.toInt) (h2 : x.toInt - y.toInt < 2147483648) : (x - y).toInt = x.toInt - y.toInt := by rw [Int32.toInt_sub, zI_bm h1 h2]
/-- how far apart two small numbers are -/
def zd (a b : Nat) : Nat := (a - b) + (b - a)
theorem zabs_sub {a b : Nat} (ha : a < 1073741824) (hb : b < 1073741824) : zabs (zi a - zi b) = zi (zd a b) := by
  unfold zabs zd
  have e : (zi a - zi b).toInt = (a : Int) - b := by rw [zI_sub] <;> rw [zi_int (by omega), zi_int (by omega)] <;> omega
  have e0 : (0 : Int32).toInt = 0 := rfl
  by_cases h : b ≤ a
  · rw [if_pos (by rw [Int32.le_iff_toInt_le, e, e0]; omega), zi_sub h]; congr 1; omega
  · rw [if_neg (by rw [Int32.le_iff_toInt_le, e, e0]; omega)]
    apply zI_ext
    rw [zi_int (by omega), zI_sub] <;> rw [e, e0] <;> omega
theorem zmin_i {a b : Nat} (ha : a < 2147483648) (hb : b < 2147483648) : zmin (zi a) (zi b) = zi (min a b) := by
  unfold zmin; simp only [zi_lt hb ha]
  by_cases h : b < a
  · rw [if_pos h, Nat.min_eq_right (by omega)]
  · rw [if_neg h, Nat.min_eq_left (by omega)]
theorem zmax_i {a b : Nat} (ha : a < 2147483648) (hb : b < 2147483648) : zmax (zi a) (zi b) = zi (max a b) := by
  unfold zmax; simp only [zi_lt ha hb]
  by_cases h : a < b
  · rw [if_pos h, Nat.max_eq_right (by omega)]
  · rw [if_neg h, Nat.max_eq_left (by omega)]
theorem zrem_i {a b : Nat} (ha : a < 2147483648) (hb : b < 2147483648) : zrem (zi a) (zi b) = zi (a % b) := by
  unfold zrem
  have hle : a / b * b ≤ a := Nat.div_mul_le_self a b
  rw [zi_div ha hb, zi_mul, zi_sub hle]
  congr 1
  have := Nat.div_add_mod a b
  rw [Nat.mul_comm] at this
  omega
theorem zin_i {i N : Nat} {A : zRes} (h : i < N) (hi : i < 2147483648) : zin (zi i) N A = A := by
  unfold zin
  rw [if_neg]
  rw [zi_cl hi]
  intro hh
  rcases hh with hh | hh
  · have : (zi i < zi 0) = False := zi_nneg hi
    exact this ▸ hh
  · omega
theorem znz_i {i : Nat} {A : zRes} (h : 0 < i) (hi : i < 2147483648) : znz (zi i) A = A := by
  unfold znz
  rw [if_neg]
  intro hh
  have := zi_inj (a := i) (b := 0) hi (by decide) hh
  omega
theorem zbl_0 {A : zRes} : zbl (zi 0) A = A := if_pos (Or.inl rfl)
theorem zbl_1 {A : zRes} : zbl (zi 1) A = A := if_pos (Or.inr rfl)
theorem zlet_e {α : Type} {k : α} {b : α → zRes} : zlet k b = b k := rfl
theorem bnd0_ok {v : Int32} {μ : zMem} {k : Int32 → zMem → zRes} : bnd0 (some (0, v, μ)) k = k v μ := rfl
theorem bnd_ok {v : Int32} {μ : zMem} {k : Int32 → zMem → zRes} : bnd (some (0, v, μ)) k = k v μ := rfl
theorem bnd_ex {e : Nat} {v : Int32} {μ : zMem} {k : Int32 → zMem → zRes} : bnd (some (e + 1, v, μ)) k = some (e + 1, v, μ) := rfl
/-! memory -/
theorem zset_eq {μ : zMem} {k j : Nat} {v : Int32} : zset μ k j v k j = v := by unfold zset zup; rw [if_pos rfl, if_pos rfl]
theorem zset_nk {μ : zMem} {k j k' : Nat} {v : Int32} (h : k' ≠ k) : zset μ k j v k' = μ k' := by unfold zset zup; rw [if_neg h]
theorem zset_nj {μ : zMem} {k j j' : Nat} {v : Int32} (h : j' ≠ j) : zset μ k j v k j' = μ k j' := by unfold zset zup; rw [if_pos rfl, if_neg h]
theorem zset_at {μ : zMem} {k j k' j' : Nat} {v : Int32} : zset μ k j v k' j' = if k' = k ∧ j' = j then v else μ k' j' := by
  by_cases h : k' = k
  · subst h
    by_cases h' : j' = j
    · subst h'; rw [zset_eq, if_pos ⟨rfl, rfl⟩]
    · rw [zset_nj h', if_neg (fun q => h' q.2)]
  · rw [zset_nk h, if_neg (fun q => h q.1)]
theorem zcpy_at {μ : zMem} {a b N k j : Nat} : zcpy μ a b N k j = if k = b ∧ j < N then μ a j else μ k j := by
  unfold zcpy zup
  by_cases h : k = b
  · subst h
    rw [if_pos rfl]
    by_cases h' : j < N
    · rw [if_pos h', if_pos ⟨rfl, h'⟩]
    · rw [if_neg h', if_neg (fun q => h' q.2)]
  · rw [if_neg h, if_neg (fun q => h q.1)]
theorem zcpy_nk {μ : zMem} {a b N k : Nat} (h : k ≠ b) : zcpy μ a b N k = μ k := by unfold zcpy zup; rw [if_neg h]
/-- all but some keys are as they were -/
def zfr (S : Nat → Prop) (μ μ' : zMem) : Prop := ∀ k, ¬ S k → μ' k = μ k
theorem zfr.refl {S : Nat → Prop} {μ : zMem} : zfr S μ μ := fun _ _ => rfl
theorem zfr.trans {S : Nat → Prop} {μ μ' μ'' : zMem} (h : zfr S μ μ') (h' : zfr S μ' μ'') : zfr S μ μ'' := fun k hk => (h' k hk).trans (h k hk)
theorem zfr.mono {S S' : Nat → Prop} {μ μ' : zMem} (h : zfr S μ μ') (hs : ∀ k, S k → S' k) : zfr S' μ μ' := fun k hk => h k (fun q => hk (hs k q))
theorem zfr.set {S : Nat → Prop} {μ μ' : zMem} {k j : Nat} {v : Int32} (h : zfr S μ μ') (hk : S k) : zfr S μ (zset μ' k j v) := fun q hq => by
  have e : q ≠ k := fun e => hq (by rw [e]; exact hk)
  rw [zset_nk e]; exact h q hq
theorem zfr.cpy {S : Nat → Prop} {μ μ' : zMem} {a b N : Nat} (h : zfr S μ μ') (hk : S b) : zfr S μ (zcpy μ' a b N) := fun q hq => by
  have e : q ≠ b := fun e => hq (by rw [e]; exact hk)
  rw [zcpy_nk e]; exact h q hq
/-! loops -/
theorem zloopQ {σ : Type} {L : Nat → Nat → σ → zRes} {N : Nat} (Q : zRes → Prop) (I : Nat → σ → Prop)
    (hend : ∀ n s, I N s → Q (L (n + 1) N s))
    (hstep : ∀ n i s, i < N → I i s → Q (L (n + 1) i s) ∨ ∃ s', L (n + 1) i s = L n (i + 1) s' ∧ I (i + 1) s') :
    ∀ m i s n, i + m = N → m < n → I i s → Q (L n i s) := by
  intro m
  induction m with
  | zero =>
    intro i s n hi hn hs
    obtain ⟨n, rfl⟩ : ∃ k, n = k + 1 := ⟨n - 1, by omega⟩
    have e : i = N := by omega
    subst e
    exact hend n s hs
  | succ m ih =>
    intro i s n hi hn hs
    obtain ⟨n, rfl⟩ : ∃ k, n = k + 1 := ⟨n - 1, by omega⟩
    rcases hstep n i s (by omega) hs with h | ⟨s', h1, h2⟩
    · exact h
    · rw [h1]; exact ih (i + 1) s' n (by omega) (by omega) h2
theorem zloopE {σ : Type} {L : Nat → Nat → σ → zRes} {N : Nat} {o : σ → zRes} (I : Nat → σ → Prop)
    (hend : ∀ n s, I N s → L (n + 1) N s = o s)
    (hstep : ∀ n i s, i < N → I i s → ∃ s', L (n + 1) i s = L n (i + 1) s' ∧ I (i + 1) s') :
    ∀ m i s n, i + m = N → m < n → I i s → ∃ s', L n i s = o s' ∧ I N s' :=
  zloopQ (fun r => ∃ s', r = o s' ∧ I N s') I (fun n s h => ⟨s, hend n s h, h⟩) (fun n i s h1 h2 => Or.inr (hstep n i s h1 h2))
/-- steps i, i + 1, .. of a loop, m of them -/
def zit {σ : Type} (F : Nat → σ → σ) : Nat → Nat → σ → σ
  | 0, _, s => s
  | m + 1, i, s => zit F m (i + 1) (F i s)
theorem zit_succ {σ : Type} (F : Nat → σ → σ) : ∀ m i s, zit F (m + 1) i s = F (i + m) (zit F m i s)
  | 0, _, _ => rfl
  | m + 1, i, s => by
    show zit F (m + 1) (i + 1) (F i s) = F (i + (m + 1)) (zit F m (i + 1) (F i s))
    rw [zit_succ F m (i + 1) (F i s)]
    congr 1
    omega
theorem zit_id {σ : Type} {F : Nat → σ → σ} : ∀ m i s, (∀ j t, i ≤ j → j < i + m → F j t = t) → zit F m i s = s
  | 0, _, _, _ => rfl
  | m + 1, i, s, h => by
    show zit F m (i + 1) (F i s) = s
    rw [h i s (by omega) (by omega), zit_id m (i + 1) s (fun j t h1 h2 => h j t (by omega) (by omega))]
theorem zit_app {σ : Type} {F : Nat → σ → σ} : ∀ m m' i s, zit F (m + m') i s = zit F m' (i + m) (zit F m i s)
  | 0, m', i, s => by rw [Nat.zero_add]; rfl
  | m + 1, m', i, s => by
    rw [show m + 1 + m' = (m + m') + 1 by omega]
    show zit F (m + m') (i + 1) (F i s) = zit F m' (i + (m + 1)) (zit F m (i + 1) (F i s))
    rw [zit_app m m' (i + 1) (F i s), show i + 1 + m = i + (m + 1) by omega]
theorem zit_congr {σ : Type} {F G : Nat → σ → σ} : ∀ m i s, (∀ j t, i ≤ j → j < i + m → F j t = G j t) → zit F m i s = zit G m i s
  | 0, _, _, _ => rfl
  | m + 1, i, s, h => by
    show zit F m (i + 1) (F i s) = zit G m (i + 1) (G i s)
    rw [h i s (by omega) (by omega), zit_congr m (i + 1) _ (fun j t h1 h2 => h j t (by omega) (by omega))]
theorem zit_shift {σ : Type} {F : Nat → σ → σ} (c : Nat) : ∀ m i s, zit F m (c + i) s = zit (fun j => F (c + j)) m i s
  | 0, _, _ => rfl
  | m + 1, i, s => by
    show zit F m (c + i + 1) (F (c + i) s) = zit (fun j => F (c + j)) m (i + 1) (F (c + i) s)
    rw [← zit_shift c m (i + 1)]; rfl
theorem zit_mul {σ : Type} {F : Nat → σ → σ} (c : Nat) : ∀ m s, zit F (c * m) 0 s = zit (fun d => zit (fun j => F (c * d + j)) c 0) m 0 s
  | 0, s => by rw [Nat.mul_zero]; rfl
  | m + 1, s => by
    rw [Nat.mul_succ, zit_app, zit_succ, zit_mul c m s, Nat.zero_add, Nat.zero_add]
    exact zit_shift (c * m) c 0 _
theorem zloopF {σ : Type} {L : Nat → Nat → σ → zRes} {N : Nat} {F : Nat → σ → σ} {o : σ → zRes} (I : Nat → σ → Prop)
    (hend : ∀ n s, I N s → L (n + 1) N s = o s)
    (hstep : ∀ n i s, i < N → I i s → L (n + 1) i s = L n (i + 1) (F i s) ∧ I (i + 1) (F i s)) :
    ∀ m i s n, i + m = N → m < n → I i s → L n i s = o (zit F m i s) ∧ I N (zit F m i s) := by
  intro m
  induction m with
  | zero =>
    intro i s n hi hn hs
    obtain ⟨n, rfl⟩ : ∃ k, n = k + 1 := ⟨n - 1, by omega⟩
    have e : i = N := by omega
    subst e
    exact ⟨hend n s hs, hs⟩
  | succ m ih =>
    intro i s n hi hn hs
    obtain ⟨n, rfl⟩ : ∃ k, n = k + 1 := ⟨n - 1, by omega⟩
    obtain ⟨h1, h2⟩ := hstep n i s (by omega) hs
    rw [h1]
    exact ih (i + 1) (F i s) n (by omega) (by omega) h2
/-! bits -/
theorem zshl1 {d : Nat} (h : d < 31) : zshl (zi 1) (zi d) = zi (2 ^ d) := by
  have key : ∀ d : Fin 31, zshl (zi 1) (zi d.val) = zi (2 ^ d.val) := by decide +kernel
  exact key ⟨d, h⟩
theorem zi_bv {n : Nat} : (zi n).toBitVec = BitVec.ofNat 32 n := rfl
theorem zi_and (a b : Nat) : zi a &&& zi b = zi (a &&& b) := by
  apply Int32.toBitVec.inj
  show BitVec.ofNat 32 a &&& BitVec.ofNat 32 b = BitVec.ofNat 32 (a &&& b)
  rw [BitVec.ofNat_and]
theorem zi_or (a b : Nat) : zi a ||| zi b = zi (a ||| b) := by
  apply Int32.toBitVec.inj
  show BitVec.ofNat 32 a ||| BitVec.ofNat 32 b = BitVec.ofNat 32 (a ||| b)
  rw [BitVec.ofNat_or]
theorem zi_xor (a b : Nat) : zi a ^^^ zi b = zi (a ^^^ b) := by
  apply Int32.toBitVec.inj
  show BitVec.ofNat 32 a ^^^ BitVec.ofNat 32 b = BitVec.ofNat 32 (a ^^^ b)
  rw [BitVec.ofNat_xor]
theorem zshr_i {a d : Nat} (ha : a < 2147483648) (hd : d < 32) : zshr (zi a) (zi d) = zi (a / 2 ^ d) := by
  unfold zshr
  have e : zi d &&& (31 : Int32) = zi d := by
    have key : ∀ d : Fin 32, zi d.val &&& (31 : Int32) = zi d.val := by decide +kernel
    exact key ⟨d, hd⟩
  rw [e]
  apply Int32.toBitVec.inj
  have e1 : (zi a >>> zi d).toBitVec = (BitVec.ofNat 32 a).sshiftRight' ((BitVec.ofNat 32 d).smod 32) := rfl
  have e2 : (BitVec.ofNat 32 d).smod 32 = BitVec.ofNat 32 d := by
    have key : ∀ d : Fin 32, (BitVec.ofNat 32 d.val).smod 32 = BitVec.ofNat 32 d.val := by decide +kernel
    exact key ⟨d, hd⟩
  rw [e1, e2]
  show (BitVec.ofNat 32 a).sshiftRight (BitVec.ofNat 32 d).toNat = BitVec.ofNat 32 (a / 2 ^ d)
  rw [BitVec.sshiftRight_eq_of_msb_false]
  · apply BitVec.eq_of_toNat_eq
    rw [BitVec.toNat_ushiftRight, BitVec.toNat_ofNat, BitVec.toNat_ofNat, BitVec.toNat_ofNat, Nat.shiftRight_eq_div_pow, Nat.mod_eq_of_lt (show a < 2 ^ 32 by omega), Nat.mod_eq_of_lt (show d < 2 ^ 32 by omega)]
    have : a / 2 ^ d ≤ a := Nat.div_le_self a _
    rw [Nat.mod_eq_of_lt (by omega)]
  · rw [BitVec.msb_eq_decide, BitVec.toNat_ofNat, Nat.mod_eq_of_lt (show a < 2 ^ 32 by omega)]
    exact decide_eq_false (by omega)
theorem zbit {a d : Nat} (ha : a < 2147483648) (hd : d < 32) : zshr (zi a) (zi d) &&& zi 1 = zi (if a.testBit d then 1 else 0) := by
  rw [zshr_i ha hd, zi_and]
  congr 1
  rw [Nat.and_one_is_mod, Nat.testBit_eq_decide_div_mod_eq]
  have h := Nat.mod_two_eq_zero_or_one (a / 2 ^ d)
  rcases h with h | h
  · rw [h]; rfl
  · rw [h]; rfl
theorem zbit0 {a d : Nat} (ha : a < 2147483648) (hd : d < 32) : (zshr (zi a) (zi d) &&& zi 1 = zi 0) = (a.testBit d = false) := by
  rw [zbit ha hd]
  cases a.testBit d
  · exact eq_true (rfl) |>.trans (eq_true rfl).symm
  · apply propext
    constructor
    · intro h; exact absurd (zi_inj (by decide) (by decide) h) (by decide)
    · intro h; exact absurd h (by decide)
theorem zbit1 {a d : Nat} (ha : a < 2147483648) (hd : d < 32) : (zshr (zi a) (zi d) &&& zi 1 = zi 1) = (a.testBit d = true) := by
  rw [zbit ha hd]
  cases a.testBit d
  · apply propext
    constructor
    · intro h; exact absurd (zi_inj (by decide) (by decide) h) (by decide)
    · intro h; exact absurd h (by decide)
  · exact eq_true (rfl) |>.trans (eq_true rfl).symm
theorem z10 : (zi 1 = zi 0) = False := eq_false (by decide)
theorem z01 : (zi 0 = zi 1) = False := eq_false (by decide)
/-! the same, said so that simp writes them into its proofs (where a loop's fuel stands in the text) -/
theorem zneg1' : (-1 : Int32) = zN1 := id rfl
theorem zlit' {n : Nat} : (no_index (OfNat.ofNat n) : Int32) = zi (OfNat.ofNat n) := id rfl
theorem zlet_e' {α : Type} {k : α} {b : α → zRes} : zlet k b = b k := id rfl
theorem bnd0_ok' {v : Int32} {μ : zMem} {k : Int32 → zMem → zRes} : bnd0 (some (0, v, μ)) k = k v μ := id rfl
theorem bnd_ok' {v : Int32} {μ : zMem} {k : Int32 → zMem → zRes} : bnd (some (0, v, μ)) k = k v μ := id rfl
theorem bnd_ex' {e : Nat} {v : Int32} {μ : zMem} {k : Int32 → zMem → zRes} : bnd (some (e + 1, v, μ)) k = some (e + 1, v, μ) := id rfl
