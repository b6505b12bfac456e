/-! THE PURE SIDE, 28: a DAY of a RUN -/
/-- a RUN as it goes: the scene, WORTH, WORKS, the first one -/
abbrev rT : Type := zN2 × Nat × Nat × Int32
def rK (T : zN2) (c : Nat) (s : rT) : rT := (tK T s.1 (c / 100) (c / 10 % 10) (c % 10), s.2.1 + T 8 (c / 100), s.2.2.1 + 1, if s.2.2.2 = zN1 then zi c else s.2.2.2)
/-- WORK by WORK, n at most -/
def rD (T : zN2) (r : Nat) : Nat → rT → rT
  | 0, s => s
  | n + 1, s => match rC T s.1 r with
    | none => s
    | some c => rD T r n (rK T c s)
theorem zcand_inv {σ : Type} {D P : Nat} {G : Nat → σ → σ} (I : σ → Prop) {s : σ} (h : I s) (hG : ∀ d a b t, d < D → a < b → b < P → I t → I (G (100 * d + 10 * a + b) t)) : I (zcand D P G s) := by
  unfold zcand
  refine zit_inv I D 0 s h (fun d t _ hd ht => ?_)
  refine zit_inv I P 0 t ht (fun a u _ ha hu => ?_)
  exact zit_inv I (P - (a + 1)) (a + 1) u hu (fun b v h1 h2 hv => hG d a b v (by omega) (by omega) (by omega) hv)
theorem rC_ok {T W : zN2} (hT : TB T) {r c : Nat} (h : rC T W r = some c) : cok T c ∧ c < 1000 ∧ tE T W (c / 100) (c / 10 % 10) (c % 10) = 0 := by
  have hD := hT.2.2.1
  have hPP := hT.2.1
  have := zcand_inv (D := T 2 2) (P := T 2 1) (G := rS T W r) (fun b => ∀ c, b = some c → cok T c ∧ c < 1000 ∧ tE T W (c / 100) (c / 10 % 10) (c % 10) = 0) (s := none) (fun c hc => (nomatch hc)) (fun d a b t hd hab hb ht c hc => by
    have q1 : (100 * d + 10 * a + b) / 100 = d := by omega
    have q2 : (100 * d + 10 * a + b) / 10 % 10 = a := by omega
    have q3 : (100 * d + 10 * a + b) % 10 = b := by omega
    unfold rS at hc
    by_cases h2 : tE T W ((100 * d + 10 * a + b) / 100) ((100 * d + 10 * a + b) / 10 % 10) ((100 * d + 10 * a + b) % 10) = 0
    · rw [if_pos h2] at hc
      have hnew : cok T (100 * d + 10 * a + b) ∧ 100 * d + 10 * a + b < 1000 ∧ tE T W ((100 * d + 10 * a + b) / 100) ((100 * d + 10 * a + b) / 10 % 10) ((100 * d + 10 * a + b) % 10) = 0 := ⟨⟨by rw [q1]; exact hd, by rw [q2]; omega, by rw [q3]; exact hb⟩, by omega, h2⟩
      cases t with
      | none =>
        have hc : some (100 * d + 10 * a + b) = some c := hc
        rw [← Option.some.inj hc]; exact hnew
      | some e =>
        have hc : (if ahd T W r (100 * d + 10 * a + b) e = true then some (100 * d + 10 * a + b) else some e) = some c := hc
        split at hc
        · rw [← Option.some.inj hc]; exact hnew
        · exact ht c hc
    · rw [if_neg h2] at hc; exact ht c hc)
  exact this c h
theorem rC_none {T W : zN2} {r : Nat} (hT : TB T) (h : ∀ d a b, d < T 2 2 → tE T W d a b ≠ 0) : rC T W r = none := by
  have hPP := hT.2.1
  unfold rC
  refine zcand_inv (D := T 2 2) (P := T 2 1) (G := rS T W r) (fun b => b = none) rfl (fun d a b t hd hab hb ht => ?_)
  have q1 : (100 * d + 10 * a + b) / 100 = d := by omega
  unfold rS
  rw [q1, if_neg (h d _ _ hd)]
  exact ht
theorem popn_full {s : Nat} : ∀ n, n ≤ popn n s → ∀ i, i < n → s.testBit i = true
  | 0, _, i, hi => absurd hi (by omega)
  | n + 1, h, i, hi => by
    have h1 := popn_le (n := n) (s := s)
    have h : n + 1 ≤ popn n s + b01 (s.testBit n) := h
    have h2 : b01 (s.testBit n) ≤ 1 := by unfold b01; split <;> omega
    by_cases e : i = n
    · subst e
      have : b01 (s.testBit i) = 1 := by omega
      unfold b01 at this
      cases hb : s.testBit i
      · rw [hb] at this; exact absurd this (by decide)
      · rfl
    · exact popn_full n (by omega) i (by omega)
/-- what a RUN keeps -/
def rOK (T : zN2) (s : rT) : Prop := WB T s.1 ∧ s.1 0 3 = T 2 1
theorem rK_ok {T : zN2} {s : rT} {c : Nat} (hT : TB T) (h : rOK T s) (hc : cok T c) (he : tE T s.1 (c / 100) (c / 10 % 10) (c % 10) = 0) : rOK T (rK T c s) := by
  have hab := (tE_0 he).2.2.1
  exact ⟨wb_work hT h.1 hc.1 hab, (tK_0 hab (by decide)).trans h.2⟩
theorem rD_ok {T : zN2} {r : Nat} (hT : TB T) : ∀ n s, rOK T s → rOK T (rD T r n s)
  | 0, s, h => h
  | n + 1, s, h => by
    unfold rD
    cases e : rC T s.1 r with
    | none => exact h
    | some c =>
      obtain ⟨h1, -, h2⟩ := rC_ok hT e
      exact rD_ok hT n _ (rK_ok hT h h1 h2)
/-- the class's runner -/
def xRn (T : zN2) (s : rT) (μ : zMem) : Prop := XS T s.1 28 μ ∧ μ 57 2 = zi s.2.1 ∧ μ 57 3 = zi s.2.2.1 ∧ μ 57 4 = s.2.2.2
/-- only the trial and the runner have changed; the runner's slots 5 and 6 not -/
def rfr (μ μ' : zMem) : Prop := zfr (fun k => (28 ≤ k ∧ k < 32) ∨ k = 57) μ μ' ∧ μ' 57 5 = μ 57 5 ∧ μ' 57 6 = μ 57 6
theorem rfr.refl {μ : zMem} : rfr μ μ := ⟨zfr.refl, rfl, rfl⟩
theorem rfr.trans {μ μ' μ'' : zMem} (h : rfr μ μ') (h' : rfr μ' μ'') : rfr μ μ'' := ⟨h.1.trans h'.1, h'.2.1.trans h.2.1, h'.2.2.trans h.2.2⟩
theorem x_day {T : zN2} {μ : zMem} {s : rT} (hT : TB T) (hX : XT T μ) (h : rOK T s) (hs : xRn T s μ) {r : Nat} (hr : r < 4) :
    ∃ μ', f4_workAllDay (zi r) μ = some (0, zi 0, μ') ∧ xRn T (rD T r (T 2 2) s) μ' ∧ rfr μ μ' := by
  have hD := hT.2.2.1
  have key : ∀ m i n s μ1, i + m = T 2 2 → m < n → rOK T s → xRn T s μ1 → rfr μ μ1 → ∃ μ', f4_workAllDay_L2 (zi r) (fun (μ19 : zMem) => some (0, zi 0, μ19)) (fun (μ20 : zMem) => some (0, zi 0, μ20)) n (zi i) μ1 = some (0, zi 0, μ') ∧ xRn T (rD T r m s) μ' ∧ rfr μ μ' := by
    intro m
    induction m with
    | zero =>
      intro i n s μ1 h1 h2 h3 h4 h5
      obtain ⟨n, rfl⟩ : ∃ k, n = k + 1 := ⟨n - 1, by omega⟩
      have e2 : μ1 2 2 = zi (T 2 2) := by rw [h5.1 2 (by omega)]; exact hX.1.2.2.1
      refine ⟨μ1, ?_, h4, h5⟩
      simp (disch := omega) only [f4_workAllDay_L2, e2, zi_le, show T 2 2 ≤ i by omega, if_true]
    | succ m ih =>
      intro i n s μ1 h1 h2 h3 h4 h5
      obtain ⟨n, rfl⟩ : ∃ k, n = k + 1 := ⟨n - 1, by omega⟩
      have hX1 : XT T μ1 := XT_of (fun key hk => h5.1 key (by omega)) hX
      obtain ⟨μ2, p1, p2, p3⟩ := x_pick hT h3.1 h3.2 hX1 h4.1 hr
      have f2 : rfr μ1 μ2 := ⟨fun k hk => p3.1 k (by omega), p3.2 5 (by decide), p3.2 6 (by decide)⟩
      have hX2 : XT T μ2 := XT_of (fun key hk => p3.1 key (by omega)) hX1
      have hS2 : XS T s.1 28 μ2 := XS_of (fun key k1 k2 => p3.1 key (by omega)) h4.1
      have g2 : μ2 57 2 = zi s.2.1 := (p3.2 2 (by decide)).trans h4.2.1
      have g3 : μ2 57 3 = zi s.2.2.1 := (p3.2 3 (by decide)).trans h4.2.2.1
      have g4 : μ2 57 4 = s.2.2.2 := (p3.2 4 (by decide)).trans h4.2.2.2
      cases e : rC T s.1 r with
      | none =>
        rw [e] at p2
        have h7 : μ2 57 7 = zN1 := p2
        refine ⟨μ2, ?_, ?_, h5.trans f2⟩
        · simp (disch := omega) only [f4_workAllDay_L2, hX1.1.2.2.1, zi_le, show ¬ T 2 2 ≤ i by omega, if_false, p1, bnd0_ok', ↓zneg1', h7, if_true]
        · unfold rD; rw [e]; exact ⟨hS2, g2, g3, g4⟩
      | some c =>
        rw [e] at p2
        obtain ⟨h7, h8, h9, -⟩ := (p2 : μ2 57 7 = zi (c / 100) ∧ μ2 57 8 = zi (c / 10 % 10) ∧ μ2 57 9 = zi (c % 10) ∧ _)
        obtain ⟨ck, c1000, ce⟩ := rC_ok hT e
        obtain ⟨-, -, hab, -, l1, l2, -⟩ := tE_0 ce
        have hPP := hT.2.1
        obtain ⟨k1, k2, k3⟩ := ck
        obtain ⟨μ3, w1, w2, w3, -⟩ := x_doWork (k := 28) (by decide) hT h3.1 hX2 hS2 k1 (show c / 10 % 10 < s.1 0 3 by rw [h3.2]; exact k2) (show c % 10 < s.1 0 3 by rw [h3.2]; exact k3) hab l1 l2
        have e56 : μ3 57 = μ2 57 := w3 57 (by omega)
        have e8 : μ3 8 (c / 100) = zi (T 8 (c / 100)) := by rw [w3 8 (by omega)]; exact (hX2.2.2.2.2 _ k1).1
        have hXk : ∀ (v4 : Int32), xRn T (rK T c s) (zset (zset (zset μ3 57 2 (zi (s.2.1 + T 8 (c / 100)))) 57 3 (zi (s.2.2.1 + 1))) 57 4 (rK T c s).2.2.2) := by
          intro _
          refine ⟨XS_of (fun key q1 q2 => by simp (disch := omega) only [zset_nk]) w2, ?_, ?_, zset_eq⟩
          · simp (disch := omega) only [zset_nj, zset_eq]; rfl
          · simp (disch := omega) only [zset_nj, zset_eq]; rfl
        have f3 : rfr μ (zset (zset (zset μ3 57 2 (zi (s.2.1 + T 8 (c / 100)))) 57 3 (zi (s.2.2.1 + 1))) 57 4 (rK T c s).2.2.2) := by
          refine h5.trans (f2.trans ⟨fun k hk => ?_, ?_, ?_⟩)
          · simp (disch := omega) only [zset_nk]; exact w3 k (by omega)
          · simp (disch := omega) only [zset_nj]; rw [e56]
          · simp (disch := omega) only [zset_nj]; rw [e56]
        obtain ⟨μ', q1, q2, q3⟩ := ih (i + 1) n (rK T c s) _ (by omega) (by omega) (rK_ok hT h3 ⟨k1, k2, k3⟩ ce) (hXk 0) f3
        refine ⟨μ', ?_, ?_, q3⟩
        · simp (disch := omega) only [f4_workAllDay_L2, hX1.1.2.2.1, zi_le, show ¬ T 2 2 ≤ i by omega, if_false, p1, bnd0_ok', ↓zneg1', zlit', h7, h8, h9, zi_nN1, w1, e56, zin_i, zi_cl, g2, g3, e8, zi_add, zlet_e', zset_nj, g4, f8_workCode, zi_mul]
          have hcode : 100 * (c / 100) + 10 * (c / 10 % 10) + c % 10 = c := by omega
          have hq1 : (rK T c s).2.2.2 = if s.2.2.2 = zN1 then zi c else s.2.2.2 := rfl
          rw [hq1] at q1
          by_cases h0 : s.2.2.2 = zN1
          · simp (disch := omega) only [h0, if_true, zset_nj, h7, h8, h9, zi_mul, zi_add, hcode, e56] at q1 ⊢
            exact q1
          · simp only [h0, if_false] at q1 ⊢
            have : zset (zset (zset μ3 57 2 (zi (s.2.1 + T 8 (c / 100)))) 57 3 (zi (s.2.2.1 + 1))) 57 4 s.2.2.2 = zset (zset μ3 57 2 (zi (s.2.1 + T 8 (c / 100)))) 57 3 (zi (s.2.2.1 + 1)) := by
              funext key j
              rw [zset_at]
              by_cases hk : key = 57 ∧ j = 4
              · rw [if_pos hk, hk.1, hk.2, zset_nj (by decide), zset_nj (by decide), e56, g4]
              · rw [if_neg hk]
            rw [this] at q1
            exact q1
        · unfold rD; rw [e]; exact q2
  obtain ⟨μ', q1, q2, q3⟩ := key (T 2 2) 0 zF s μ (by omega) (by unfold zF; omega) h hs rfr.refl
  refine ⟨μ', ?_, q2, q3⟩
  unfold f4_workAllDay
  simp only [zlit']
  exact q1
