/-! THE PURE SIDE, 24: family -/
def sub2 (a b : Nat) : Prop := ∀ i, a.testBit i = true → b.testBit i = true
theorem sub2_eq {a b : Nat} (h1 : sub2 a b) (h2 : sub2 b a) : a = b := by
  apply Nat.eq_of_testBit_eq
  intro i
  cases ha : a.testBit i
  · cases hb : b.testBit i
    · rfl
    · rw [h2 i hb] at ha; exact ha.symm
  · rw [h1 i ha]
/-- one step, by another set's bits -/
def fst (K : Nat → Nat) (w : Nat → Nat) (k s : Nat) : Nat := if (w s).testBit k = true then s ||| K k else s
/-- closed by kin -/
def clo (K : Nat → Nat) (n C : Nat) : Prop := ∀ k, k < n → C.testBit k = true → sub2 (K k) C
def fX (K : Nat → Nat) (n s : Nat) : Nat := zit (fst K (fun s => s)) n 0 s
def fM (K : Nat → Nat) (n s : Nat) : Nat := zit (fst K (fun _ => s)) n 0 s
theorem sub2_or {a b c : Nat} (h1 : sub2 a c) (h2 : sub2 b c) : sub2 (a ||| b) c := by
  intro i hi
  rw [Nat.testBit_or, Bool.or_eq_true] at hi
  exact hi.elim (h1 i) (h2 i)
theorem sub2_l {a b : Nat} : sub2 a (a ||| b) := fun i hi => by rw [Nat.testBit_or, hi]; rfl
theorem sub2_r {a b : Nat} : sub2 b (a ||| b) := fun i hi => by rw [Nat.testBit_or, hi, Bool.or_true]
theorem sub2_rf {a : Nat} : sub2 a a := fun _ h => h
theorem sub2_tr {a b c : Nat} (h1 : sub2 a b) (h2 : sub2 b c) : sub2 a c := fun i h => h2 i (h1 i h)
theorem zit_inv {σ : Type} {F : Nat → σ → σ} (I : σ → Prop) : ∀ m i s, I s → (∀ j t, i ≤ j → j < i + m → I t → I (F j t)) → I (zit F m i s)
  | 0, _, _, h, _ => h
  | m + 1, i, s, h, hF => zit_inv I m (i + 1) (F i s) (hF i s (by omega) (by omega) h) (fun j t h1 h2 h3 => hF j t (by omega) (by omega) h3)
theorem fX_sup {K : Nat → Nat} {n s : Nat} : sub2 s (fX K n s) := zit_inv (fun t => sub2 s t) n 0 s sub2_rf (fun j t _ _ h => by unfold fst; split; exact sub2_tr h sub2_l; exact h)
theorem fM_sup {K : Nat → Nat} {n s : Nat} : sub2 s (fM K n s) := zit_inv (fun t => sub2 s t) n 0 s sub2_rf (fun j t _ _ h => by unfold fst; split; exact sub2_tr h sub2_l; exact h)
theorem fX_in {K : Nat → Nat} {n s C : Nat} (hC : clo K n C) (h : sub2 s C) : sub2 (fX K n s) C := zit_inv (fun t => sub2 t C) n 0 s h (fun j t _ h2 h => by
  unfold fst; split
  · rename_i hb; exact sub2_or h (hC j (by omega) (h j hb))
  · exact h)
theorem fM_in {K : Nat → Nat} {n s C : Nat} (hC : clo K n C) (h : sub2 s C) : sub2 (fM K n s) C := zit_inv (fun t => sub2 t C) n 0 s h (fun j t _ h2 h' => by
  unfold fst; split
  · rename_i hb; exact sub2_or h' (hC j (by omega) (h j hb))
  · exact h')
theorem fX_lt {K : Nat → Nat} {n s : Nat} (hK : ∀ k, K k < 2 ^ n) (h : s < 2 ^ n) : fX K n s < 2 ^ n := zit_inv (fun t => t < 2 ^ n) n 0 s h (fun j t _ _ h => by
  unfold fst; split
  · exact Nat.or_lt_two_pow h (hK j)
  · exact h)
theorem fM_lt {K : Nat → Nat} {n s : Nat} (hK : ∀ k, K k < 2 ^ n) (h : s < 2 ^ n) : fM K n s < 2 ^ n := zit_inv (fun t => t < 2 ^ n) n 0 s h (fun j t _ _ h => by
  unfold fst; split
  · exact Nat.or_lt_two_pow h (hK j)
  · exact h)
/-- at step k the kin of k come in -/
theorem zit_grow {F : Nat → Nat → Nat} (hF : ∀ j t, sub2 t (F j t)) : ∀ m i s, sub2 s (zit F m i s)
  | 0, _, _ => sub2_rf
  | m + 1, i, s => sub2_tr (hF i s) (zit_grow hF m (i + 1) (F i s))
theorem fst_grow {K : Nat → Nat} {w : Nat → Nat} (j t : Nat) : sub2 t (fst K w j t) := by unfold fst; split; exact sub2_l; exact sub2_rf
theorem zit_kin {K : Nat → Nat} {w : Nat → Nat} {n s k : Nat} (hk : k < n) (hb : ∀ t, sub2 s t → (w t).testBit k = true) : sub2 (K k) (zit (fst K w) n 0 s) := by
  have e : n = k + (1 + (n - k - 1)) := by omega
  rw [e, zit_app, zit_app]
  have h1 : sub2 s (zit (fst K w) k 0 s) := zit_grow fst_grow k 0 s
  have h2 : sub2 (K k) (zit (fst K w) 1 (0 + k) (zit (fst K w) k 0 s)) := by
    show sub2 (K k) (fst K w (0 + k) (zit (fst K w) k 0 s))
    rw [Nat.zero_add, show fst K w k (zit (fst K w) k 0 s) = zit (fst K w) k 0 s ||| K k from if_pos (hb _ h1)]
    exact sub2_r
  exact sub2_tr h2 (zit_grow fst_grow _ _ _)
theorem fX_clo {K : Nat → Nat} {n s : Nat} (h : fX K n s = s) : clo K n s := by
  intro k hk hb
  have := zit_kin (K := K) (w := fun s => s) (n := n) (s := s) hk (fun t ht => ht k hb)
  unfold fX at h
  rw [h] at this; exact this
theorem fM_clo {K : Nat → Nat} {n s : Nat} (h : fM K n s = s) : clo K n s := by
  intro k hk hb
  have := zit_kin (K := K) (w := fun _ => s) (n := n) (s := s) hk (fun t _ => hb)
  unfold fM at h
  rw [h] at this; exact this
theorem clo_fX {K : Nat → Nat} {n s : Nat} (h : clo K n s) : fX K n s = s := sub2_eq (fX_in h sub2_rf) fX_sup
def popn (n s : Nat) : Nat := nsum (fun i => b01 (s.testBit i)) n
theorem popn_le {n s : Nat} : popn n s ≤ n := by
  have := nsum_le (f := fun i => b01 (s.testBit i)) (c := 1) n (fun i _ => by show b01 (s.testBit i) ≤ 1; unfold b01; split <;> omega)
  unfold popn; omega
theorem popn_mono {a b : Nat} (h : sub2 a b) : ∀ n, popn n a ≤ popn n b
  | 0 => Nat.le_refl _
  | n + 1 => by
    have h1 := popn_mono h n
    show popn n a + b01 (a.testBit n) ≤ popn n b + b01 (b.testBit n)
    have : b01 (a.testBit n) ≤ b01 (b.testBit n) := by
      unfold b01
      cases ha : a.testBit n
      · exact Nat.zero_le _
      · rw [h n ha]; exact Nat.le_refl _
    omega
theorem popn_eq {a b : Nat} (h : sub2 a b) : ∀ n, popn n a = popn n b → ∀ i, i < n → a.testBit i = b.testBit i
  | 0, _, i, hi => absurd hi (by omega)
  | n + 1, he, i, hi => by
    have h1 := popn_mono h n
    have he : popn n a + b01 (a.testBit n) = popn n b + b01 (b.testBit n) := he
    have h2 : b01 (a.testBit n) ≤ b01 (b.testBit n) := by
      unfold b01
      cases ha : a.testBit n
      · exact Nat.zero_le _
      · rw [h n ha]; exact Nat.le_refl _
    by_cases e : i = n
    · subst e
      have : b01 (a.testBit i) = b01 (b.testBit i) := by omega
      unfold b01 at this
      cases ha : a.testBit i
      · cases hb : b.testBit i
        · rfl
        · rw [ha, hb] at this; exact absurd this (by decide)
      · rw [h i ha]
    · exact popn_eq h n (by omega) i (by omega)
theorem popn_lt {n a b : Nat} (h : sub2 a b) (ha : a < 2 ^ n) (hb : b < 2 ^ n) (hne : a ≠ b) : popn n a < popn n b := by
  have h1 := popn_mono h n
  by_cases e : popn n a = popn n b
  · exfalso
    apply hne
    apply Nat.eq_of_testBit_eq
    intro i
    by_cases hi : i < n
    · exact popn_eq h n e i hi
    · rw [Nat.testBit_lt_two_pow (Nat.lt_of_lt_of_le ha (Nat.pow_le_pow_right (by decide) (by omega))), Nat.testBit_lt_two_pow (Nat.lt_of_lt_of_le hb (Nat.pow_le_pow_right (by decide) (by omega)))]
  · omega
/-- a family: closed, with p, and in every such one -/
def isFam (K : Nat → Nat) (n p F : Nat) : Prop := clo K n F ∧ F.testBit p = true ∧ F < 2 ^ n ∧ ∀ C, clo K n C → C.testBit p = true → sub2 F C
theorem fam_eq {K : Nat → Nat} {n p F G : Nat} (h1 : isFam K n p F) (h2 : isFam K n p G) : F = G := sub2_eq (h1.2.2.2 G h2.1 h2.2.1) (h2.2.2.2 F h1.1 h1.2.1)
theorem sub_pow {p C : Nat} (h : C.testBit p = true) : sub2 (2 ^ p) C := by
  intro i hi
  rw [Nat.testBit_two_pow] at hi
  have := of_decide_eq_true hi
  rw [← this]; exact h
theorem fX_fam {K : Nat → Nat} {n p : Nat} (hK : ∀ k, K k < 2 ^ n) (hp : p < n) : isFam K n p (zit (fun _ s => fX K n s) n 0 (2 ^ p)) := by
  have hpp : 2 ^ p < 2 ^ n := Nat.pow_lt_pow_right (by decide) hp
  have hbit : (2 ^ p).testBit p = true := Nat.testBit_two_pow_self
  have key : ∀ m, sub2 (2 ^ p) (zit (fun _ s => fX K n s) m 0 (2 ^ p)) ∧ zit (fun _ s => fX K n s) m 0 (2 ^ p) < 2 ^ n ∧ (∀ C, clo K n C → C.testBit p = true → sub2 (zit (fun _ s => fX K n s) m 0 (2 ^ p)) C) ∧ (clo K n (zit (fun _ s => fX K n s) m 0 (2 ^ p)) ∨ m + 1 ≤ popn n (zit (fun _ s => fX K n s) m 0 (2 ^ p))) := by
    intro m
    induction m with
    | zero =>
      refine ⟨sub2_rf, hpp, fun C _ h => sub_pow h, Or.inr ?_⟩
      show 0 + 1 ≤ popn n (2 ^ p)
      have : popn n 0 < popn n (2 ^ p) := popn_lt (fun i hi => by rw [Nat.zero_testBit] at hi; exact absurd hi (by decide)) (Nat.two_pow_pos n) hpp (by have := Nat.two_pow_pos p; omega)
      omega
    | succ m ih =>
      obtain ⟨i1, i2, i3, i4⟩ := ih
      rw [zit_succ]
      refine ⟨sub2_tr i1 fX_sup, fX_lt hK i2, fun C hC hb => fX_in hC (i3 C hC hb), ?_⟩
      rcases i4 with h | h
      · left; rw [clo_fX h]; exact h
      · by_cases e : fX K n (zit (fun _ s => fX K n s) m 0 (2 ^ p)) = zit (fun _ s => fX K n s) m 0 (2 ^ p)
        · left; rw [e]; exact fX_clo e
        · right
          have := popn_lt (fX_sup (K := K) (n := n)) i2 (fX_lt hK i2) (fun q => e q.symm)
          omega
  obtain ⟨i1, i2, i3, i4⟩ := key n
  refine ⟨?_, i1 p hbit, i2, i3⟩
  rcases i4 with h | h
  · exact h
  · exact absurd (popn_le (n := n) (s := zit (fun _ s => fX K n s) n 0 (2 ^ p))) (by omega)
/-- the family of the town -/
def tFm (T : zN2) (p : Nat) : Nat := zit (fun _ s => fX (T 7) (T 2 1) s) (T 2 1) 0 (2 ^ p)
theorem tFm_fam {T : zN2} (hT : TB T) {p : Nat} (hp : p < T 2 1) : isFam (T 7) (T 2 1) p (tFm T p) := fX_fam hT.2.2.2.2.2.2.2.2.2.2.1 hp
theorem x_fam17 {T : zN2} {μ : zMem} (hT : TB T) (hX : XT T μ) (K : Int32 → zRes) {s : Nat} (hs : s < 2 ^ T 2 1) : f7_familyOf_L17 μ K zF (zi s) (zi 0) = K (zi (fX (T 7) (T 2 1) s)) := by
  have hPP := hT.2.1
  obtain ⟨hp1, hp2⟩ := pow_p hT
  have hK := hT.2.2.2.2.2.2.2.2.2.2.1
  obtain ⟨e1, -⟩ := zloopF (L := fun n i (t : Nat) => f7_familyOf_L17 μ K n (zi t) (zi i)) (N := T 2 1) (F := fst (T 7) (fun s => s)) (o := fun t => K (zi t)) (fun _ t => t < 2 ^ T 2 1)
    (fun n t _ => by simp (disch := omega) only [f7_familyOf_L17, hX.1.2.1, zi_le, Nat.le_refl, if_true])
    (fun n i t hi ht => by
      refine ⟨?_, ?_⟩
      · simp (disch := omega) only [f7_familyOf_L17, hX.1.2.1, zi_le, show ¬ T 2 1 ≤ i by omega, if_false, zlet_e', zlit', zbit0, zin_i, zi_cl, hX.2.2.1 i (by omega), zi_or, zi_add]
        unfold fst
        cases t.testBit i
        · simp only [if_true, if_false, ite_true, ite_false, Bool.false_eq_true, Bool.true_eq_false, reduceIte, z10, z01, Nat.one_ne_zero, Nat.zero_ne_one, Nat.or_zero]
        · simp only [if_true, if_false, ite_true, ite_false, Bool.false_eq_true, Bool.true_eq_false, reduceIte, z10, z01, Nat.one_ne_zero, Nat.zero_ne_one]
      · unfold fst; split
        · exact Nat.or_lt_two_pow ht (hK i)
        · exact ht)
    (T 2 1) 0 s zF (by omega) (by unfold zF; omega) hs
  exact e1
theorem x_familyOf {T : zN2} {μ : zMem} (hT : TB T) (hX : XT T μ) {p : Nat} (hp : p < T 2 1) : f7_familyOf (zi p) μ = some (0, zi (tFm T p), μ) := by
  have hPP := hT.2.1
  have hK := hT.2.2.2.2.2.2.2.2.2.2.1
  obtain ⟨e1, -⟩ := zloopF (L := fun n i (t : Nat) => f7_familyOf_L6 μ (fun (x2_13 : Int32) => some (0, x2_13, μ)) n (zi t) (zi i)) (N := T 2 1) (F := fun _ s => fX (T 7) (T 2 1) s) (o := fun t => some (0, zi t, μ)) (fun _ t => t < 2 ^ T 2 1)
    (fun n t _ => by simp (disch := omega) only [f7_familyOf_L6, hX.1.2.1, zi_le, Nat.le_refl, if_true])
    (fun n i t hi ht => by
      refine ⟨?_, fX_lt hK ht⟩
      simp (disch := omega) only [f7_familyOf_L6, hX.1.2.1, zi_le, show ¬ T 2 1 ≤ i by omega, if_false, zlit', x_fam17 hT hX _ ht, zi_add])
    (T 2 1) 0 (2 ^ p) zF (by omega) (by unfold zF; omega) (Nat.pow_lt_pow_right (by decide) hp)
  unfold f7_familyOf
  simp (disch := omega) only [zlet_e', zlit', zshl1]
  exact e1
theorem m_fam16 {T : zN2} {μ : zMem} (hT : TB T) (hM : MT T μ) (K : Int32 → zRes) {s : Nat} (hs : s < 2 ^ T 2 1) : f9_familyOf_L16 (zi s) μ K zF (zi s) (zi 0) = K (zi (fM (T 7) (T 2 1) s)) := by
  have hPP := hT.2.1
  obtain ⟨hp1, hp2⟩ := pow_p hT
  have hK := hT.2.2.2.2.2.2.2.2.2.2.1
  obtain ⟨e1, -⟩ := zloopF (L := fun n i (t : Nat) => f9_familyOf_L16 (zi s) μ K n (zi t) (zi i)) (N := T 2 1) (F := fst (T 7) (fun _ => s)) (o := fun t => K (zi t)) (fun _ t => t < 2 ^ T 2 1)
    (fun n t _ => by simp (disch := omega) only [f9_familyOf_L16, zlit', zin_i, zi_cl, hM.1.2.1, zi_le, Nat.le_refl, if_true])
    (fun n i t hi ht => by
      refine ⟨?_, ?_⟩
      · simp (disch := omega) only [f9_familyOf_L16, zlit', zin_i, zi_cl, hM.1.2.1, zi_le, show ¬ T 2 1 ≤ i by omega, if_false, zlet_e', zbit1, hM.2.2.1 i (by omega), zi_or, zi_add]
        unfold fst
        cases s.testBit i
        · simp only [if_true, if_false, ite_true, ite_false, Bool.false_eq_true, Bool.true_eq_false, reduceIte, z10, z01, Nat.one_ne_zero, Nat.zero_ne_one, Nat.or_zero]
        · simp only [if_true, if_false, ite_true, ite_false, Bool.false_eq_true, Bool.true_eq_false, reduceIte, z10, z01, Nat.one_ne_zero, Nat.zero_ne_one]
      · unfold fst; split
        · exact Nat.or_lt_two_pow ht (hK i)
        · exact ht)
    (T 2 1) 0 s zF (by omega) (by unfold zF; omega) hs
  exact e1
theorem m_fam6 {T : zN2} {μ : zMem} (hT : TB T) (hM : MT T μ) (K : Int32 → zRes) {p : Nat} : ∀ m s w n, s < 2 ^ T 2 1 → w < 2 ^ T 2 1 → s ≠ w → T 2 1 - popn (T 2 1) s ≤ m → m + 2 < n → s.testBit p = true → (∀ C, clo (T 7) (T 2 1) C → C.testBit p = true → sub2 s C) →
    ∃ F, f9_familyOf_L6 μ K n (zi s) (zi w) = K (zi F) ∧ isFam (T 7) (T 2 1) p F := by
  have hPP := hT.2.1
  obtain ⟨hp1, hp2⟩ := pow_p hT
  have hK := hT.2.2.2.2.2.2.2.2.2.2.1
  intro m
  induction m with
  | zero =>
    intro s w n hs hw hne hm hn hb hC
    obtain ⟨n, rfl⟩ : ∃ k, n = k + 2 := ⟨n - 2, by omega⟩
    have e : fM (T 7) (T 2 1) s = s := by
      by_cases e : s = fM (T 7) (T 2 1) s
      · exact e.symm
      · have := popn_lt (fM_sup (K := T 7) (n := T 2 1)) hs (fM_lt hK hs) e
        have := popn_le (n := T 2 1) (s := fM (T 7) (T 2 1) s)
        omega
    refine ⟨s, ?_, fM_clo e, hb, hs, hC⟩
    simp (disch := omega) only [f9_familyOf_L6, zi_eq, hne, if_false, zlit', m_fam16 hT hM _ hs, e, if_true]
  | succ m ih =>
    intro s w n hs hw hne hm hn hb hC
    obtain ⟨n, rfl⟩ : ∃ k, n = k + 2 := ⟨n - 2, by omega⟩
    by_cases e : s = fM (T 7) (T 2 1) s
    · refine ⟨s, ?_, fM_clo e.symm, hb, hs, hC⟩
      simp (disch := omega) only [f9_familyOf_L6, zi_eq, hne, if_false, zlit', m_fam16 hT hM _ hs, ← e, if_true]
    · have hlt := popn_lt (fM_sup (K := T 7) (n := T 2 1)) hs (fM_lt hK hs) e
      obtain ⟨F, f1, f2⟩ := ih (fM (T 7) (T 2 1) s) s (n + 1) (fM_lt hK hs) hs (fun q => e q.symm) (by omega) (by omega) (fM_sup p hb) (fun C c1 c2 => fM_in c1 (hC C c1 c2))
      refine ⟨F, ?_, f2⟩
      have hflt : fM (T 7) (T 2 1) s < 2 ^ T 2 1 := fM_lt hK hs
      have one : f9_familyOf_L6 μ K (n + 2) (zi s) (zi w) = f9_familyOf_L6 μ K (n + 1) (zi (fM (T 7) (T 2 1) s)) (zi s) := by
        rw [show n + 2 = (n + 1) + 1 from rfl, f9_familyOf_L6]
        simp (disch := omega) only [zi_eq, hne, if_false, zlit', m_fam16 hT hM _ hs]
      rw [one, f1]
theorem m_familyOf {T : zN2} {μ : zMem} (hT : TB T) (hM : MT T μ) {p : Nat} (hp : p < T 2 1) : f9_familyOf (zi p) μ = some (0, zi (tFm T p), μ) := by
  have hPP := hT.2.1
  have hpp : 2 ^ p < 2 ^ T 2 1 := Nat.pow_lt_pow_right (by decide) hp
  have h2 := Nat.two_pow_pos p
  obtain ⟨F, f1, f2⟩ := m_fam6 hT hM (fun (x2_14 : Int32) => some (0, x2_14, μ)) (p := p) 8 (2 ^ p) 0 zF hpp (Nat.two_pow_pos _) (by omega) (by omega) (by unfold zF; omega) Nat.testBit_two_pow_self (fun C _ h => sub_pow h)
  rw [fam_eq f2 (tFm_fam hT hp)] at f1
  unfold f9_familyOf
  simp (disch := omega) only [zlet_e', zlit', zshl1]
  exact f1
/-- each family is counted at its least one -/
def fLt (T : zN2) (p : Nat) : Nat := if lowb (tFm T p) = p then 1 else 0
theorem fam_and {T : zN2} (hT : TB T) {p : Nat} (hp : p < T 2 1) : (tFm T p &&& (2 ^ p - 1) = 0) ↔ lowb (tFm T p) = p := by
  obtain ⟨hp1, hp2⟩ := pow_p hT
  obtain ⟨-, f2, f3, -⟩ := tFm_fam hT hp
  have hne : tFm T p ≠ 0 := fun e => by rw [e, Nat.zero_testBit] at f2; exact absurd f2 (by decide)
  obtain ⟨l1, l2, l3, l4⟩ := low_bits hne (by omega)
  rw [and_0]
  constructor
  · intro h
    by_cases e : lowb (tFm T p) < p
    · have := h (lowb (tFm T p))
      rw [l1, Nat.testBit_two_pow_sub_one, decide_eq_true e] at this
      exact absurd this (by decide)
    · by_cases e' : p < lowb (tFm T p)
      · rw [l2 p e'] at f2; exact absurd f2 (by decide)
      · omega
  · intro h i
    rw [Nat.testBit_two_pow_sub_one]
    by_cases hi : i < p
    · rw [l2 i (by omega)]; rfl
    · rw [decide_eq_false hi, Bool.and_false]
theorem x_families {T : zN2} {μ : zMem} (hT : TB T) (hX : XT T μ) : f7_families μ = some (0, zi (nsum (fLt T) (T 2 1)), μ) := by
  have hPP := hT.2.1
  obtain ⟨hp1, hp2⟩ := pow_p hT
  obtain ⟨s, h1, h2⟩ := zloopE (L := fun n i (s : Int32 × zMem) => f7_families_L4 (fun (x1_12 : Int32) (μ13 : zMem) => some (0, x1_12, μ13)) n s.1 (zi i) s.2) (N := T 2 1) (o := fun s => some (0, s.1, s.2)) (fun i s => s = (zi (nsum (fLt T) i), μ))
    (fun n s hs => by subst hs; simp (disch := omega) only [f7_families_L4, hX.1.2.1, zi_le, Nat.le_refl, if_true])
    (fun n i s hi hs => ⟨(zi (nsum (fLt T) (i + 1)), μ), by
      subst hs
      obtain ⟨-, f2, f3, -⟩ := tFm_fam hT hi
      have hne : tFm T i ≠ 0 := fun e => by rw [e, Nat.zero_testBit] at f2; exact absurd f2 (by decide)
      obtain ⟨l1, l2, l3, l4⟩ := low_bits hne (by omega)
      show _ = f7_families_L4 _ n (zi (nsum (fLt T) i + fLt T i)) (zi (i + 1)) μ
      simp (disch := omega) only [f7_families_L4, hX.1.2.1, zi_le, show ¬ T 2 1 ≤ i by omega, if_false, x_familyOf hT hX hi, bnd0_ok', x_ntz (show 0 < tFm T i by omega) (show tFm T i < 1024 by omega), zlet_e', zlit', zi_eq, zi_add]
      unfold fLt
      by_cases e : lowb (tFm T i) = i
      · simp only [e, if_true]
      · simp only [e, if_false, Nat.add_zero], rfl⟩)
    (T 2 1) 0 (zi 0, μ) zF (by omega) (by unfold zF; omega) rfl
  subst h2
  simp only [f7_families, zlit']
  exact h1
theorem m_family_L {T : zN2} {μ : zMem} (hT : TB T) (hM : MT T μ) : f9_family_L51 (fun (x2_20 : Int32) (μ21 : zMem) => some (0, x2_20, μ21)) zF (zi 0) (zi 0) μ = some (0, zi (nsum (fLt T) (T 2 1)), μ) := by
  have hPP := hT.2.1
  obtain ⟨hp1, hp2⟩ := pow_p hT
  obtain ⟨s, h1, h2⟩ := zloopE (L := fun n i (s : Int32 × zMem) => f9_family_L51 (fun (x1_12 : Int32) (μ13 : zMem) => some (0, x1_12, μ13)) n s.1 (zi i) s.2) (N := T 2 1) (o := fun s => some (0, s.1, s.2)) (fun i s => s = (zi (nsum (fLt T) i), μ))
    (fun n s hs => by subst hs; simp (disch := omega) only [f9_family_L51, zlit', zin_i, zi_cl, hM.1.2.1, zi_le, Nat.le_refl, if_true])
    (fun n i s hi hs => ⟨(zi (nsum (fLt T) (i + 1)), μ), by
      subst hs
      have hi2 := Nat.two_pow_pos i
      have hand : tFm T i &&& (2 ^ i - 1) < 1024 := Nat.lt_of_le_of_lt Nat.and_le_left (by have := (tFm_fam hT hi).2.2.1; omega)
      show _ = f9_family_L51 _ n (zi (nsum (fLt T) i + fLt T i)) (zi (i + 1)) μ
      simp (disch := omega) only [f9_family_L51, zlit', zin_i, zi_cl, hM.1.2.1, zi_le, show ¬ T 2 1 ≤ i by omega, if_false, m_familyOf hT hM hi, bnd0_ok', zlet_e', zshl1, zi_sub, zi_and, zi_eq, zi_add, fam_and hT hi]
      unfold fLt
      by_cases e : lowb (tFm T i) = i
      · simp only [e, if_true]
      · simp only [e, if_false, Nat.add_zero], rfl⟩)
    (T 2 1) 0 (zi 0, μ) zF (by omega) (by unfold zF; omega) rfl
  subst h2
  exact h1
theorem x_isPerson_ok {T : zN2} {μ : zMem} (hT : TB T) (hX : XT T μ) {p : Nat} (hp : p < T 2 1) : f8_isPerson (zi p) μ = some (0, zi 1, μ) := by
  have hP := hT.2.1
  unfold f8_isPerson
  simp (disch := omega) only [zlet_e, zlit, zi_lt, hX.1.2.1, Nat.not_lt_zero, if_false, if_true, hp, zi_le, show ¬ T 2 1 ≤ p by omega, zbl_1]
theorem x_isPerson_no {T : zN2} {μ : zMem} (hX : XT T μ) {x : Int32} (h : x < zi 0 ∨ zi (T 2 1) ≤ x) : f8_isPerson x μ = some (0, zi 0, μ) := by
  unfold f8_isPerson
  by_cases h1 : x < zi 0
  · simp (disch := omega) only [zlet_e, zlit, h1, if_true, zbl_0]
  · have h2 := h.resolve_left h1
    have h3 : ¬ x < zi (T 2 1) := fun q => absurd (Int32.lt_of_le_of_lt h2 q) Int32.lt_irrefl
    simp (disch := omega) only [zlet_e, zlit, h1, hX.1.2.1, h2, h3, if_true, if_false, zbl_0]
theorem P_family {x : Int32} {μX μM : zMem} (h : zInv μX μM) : zPm cI (f8_family x μX) (f9_family x μM) := by
  have h' := h
  obtain ⟨T, W, r, R, n, m, WI, rI, RI, ⟨hT, hW, hL, hX, hM, hS, hS', h30, hB, hR, hR'⟩, ht, hf, hi⟩ := h
  have hPP := hT.2.1
  obtain ⟨hp1, hp2⟩ := pow_p hT
  have hM0 := MT_0 (v := zi 0) hT hM
  have e00 : zset μM 0 0 (zi 0) 0 0 = zi 0 := zset_00
  by_cases hn : x = zN1
  · subst hn
    refine zPm_q h' (μX' := μX) (μM' := zset μM 0 0 (zi 0)) (e := 0) (v := zi (nsum (fLt T) (T 2 1))) (w := zi (nsum (fLt T) (T 2 1))) ?_ ?_ zset_00 (fun _ => rfl) (Or.inl rfl) zfr.refl zmq_0
    · unfold f8_family; simp (disch := omega) only [zlet_e', ↓zneg1', zlit', if_true, x_families hT hX, bnd0_ok']
    · unfold f9_family; simp (disch := omega) only [zlet_e', ↓zneg1', zlit', if_true, m_bad0 e00, bnd0_ok', m_family_L hT hM0]
  · rcases zcase x (T 2 1) (by omega) with ⟨p, hp, rfl⟩ | hx
    · have f3 := (tFm_fam hT hp).2.2.1
      refine zPm_q h' (μX' := μX) (μM' := zset μM 0 0 (zi 0)) (e := 0) (v := zi (popc (tFm T p))) (w := zi (popc (tFm T p))) ?_ ?_ zset_00 (fun _ => rfl) (Or.inl rfl) zfr.refl zmq_0
      · unfold f8_family; simp (disch := omega) only [zlet_e', ↓zneg1', zlit', hn, if_false, x_isPerson_ok hT hX hp, bnd0_ok', z10, x_familyOf hT hX hp, x_bitCount (show tFm T p < 1024 by omega)]
      · unfold f9_family; simp (disch := omega) only [zlet_e', ↓zneg1', zlit', hn, if_false, if_true, m_isP_ok hT hM0 hp, z10, m_bad0 e00, bnd0_ok', m_familyOf hT hM0 hp, m_ones]
    · refine zPm_q h' (μX' := μX) (μM' := zset (zset μM 0 0 (zi 0)) 0 0 (zi 1)) (e := 1) (v := zi 0) (w := zi 0) ?_ ?_ zset_00 (fun h => absurd h (by decide)) (Or.inr (by decide)) zfr.refl zmq_00
      · unfold f8_family; simp (disch := omega) only [zlet_e', ↓zneg1', zlit', hn, if_false, x_isPerson_no hX hx, bnd0_ok', if_true]
      · unfold f9_family; simp (disch := omega) only [zlet_e', ↓zneg1', zlit', hn, if_false, if_true, m_isP_no hT hM0 hx, m_bad1 e00, bnd0_ok', z10]
