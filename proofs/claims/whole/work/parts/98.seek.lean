/-! THE PURE SIDE, 38: the class's seeker, on -/
/-- the scene behind a first WORK -/
def vB (T W : zN2) (nd c : Nat) : zN2 := if nd = 0 then tK T W (c / 100) (c / 10 % 10) (c % 10) else tD T (tK T W (c / 100) (c / 10 % 10) (c % 10)) (W 0 0 + 1)
def sS (T W : zN2) (nd c : Nat) (s : qT) : qT := if tE T W (c / 100) (c / 10 % 10) (c % 10) = 0 then qB T (vB T W nd c) (T 8 (c / 100)) (zi c) s else s
theorem vB_b {T W : zN2} (hT : TB T) (hW : WB T W) {nd c : Nat} (hn : nd = 0 ∨ W 0 0 < 29) (hc : cok T c) (he : tE T W (c / 100) (c / 10 % 10) (c % 10) = 0) : WB T (vB T W nd c) ∧ vB T W nd c 0 3 = W 0 3 := by
  have hab := (tE_0 he).2.2.1
  have h1 := wb_work hT hW hc.1 hab
  have h2 : tK T W (c / 100) (c / 10 % 10) (c % 10) 0 3 = W 0 3 := tK_0 hab (by decide)
  unfold vB
  by_cases h0 : nd = 0
  · rw [if_pos h0]; exact ⟨h1, h2⟩
  · rw [if_neg h0]; exact ⟨wb_dawn hT h1 (by omega), h2⟩
theorem x_goBehind {T W : zN2} {μ : zMem} (hT : TB T) (hW : WB T W) (hP : W 0 3 = T 2 1) (hX : XT T μ) (hS : XS T W 59 μ) {nd c : Nat} (hn : nd < 2) (hn' : nd = 0 ∨ W 0 0 < 29) (hc : cok T c) (he : tE T W (c / 100) (c / 10 % 10) (c % 10) = 0) :
    ∃ μ', f6_goBehind (zi (c / 100)) (zi (c / 10 % 10)) (zi (c % 10)) (zi nd) μ = some (0, zi 0, μ') ∧ XS T (vB T W nd c) 64 μ' ∧ zfr (fun k => 64 ≤ k ∧ k < 68) μ μ' := by
  obtain ⟨c1, c2, c3⟩ := hc
  obtain ⟨-, -, hab, -, l1, l2, -⟩ := tE_0 he
  have hN := hW.1
  obtain ⟨μ1, a1, a2, a3, -⟩ := x_copyWorld (T := T) (W := W) (k := 64) (k2 := 59) (μ := μ) (by omega) hT hW hS
  have hX1 : XT T μ1 := XT_of (fun key hk => a3 key (by omega)) hX
  obtain ⟨μ2, b1, b2, b3, -⟩ := x_doWork (k := 64) (by decide) hT hW hX1 a2 c1 (show c / 10 % 10 < W 0 3 by omega) (show c % 10 < W 0 3 by omega) hab l1 l2
  have hX2 : XT T μ2 := XT_of (fun key hk => b3 key (by omega)) hX1
  have f2 : zfr (fun k => 64 ≤ k ∧ k < 68) μ μ2 := a3.trans (b3.mono (fun q hq => by omega))
  unfold f6_goBehind vB
  rw [a1, bnd0_ok, b1, bnd0_ok, zlet_e]
  by_cases h0 : nd = 0
  · subst h0
    refine ⟨μ2, ?_, by rw [if_pos rfl]; exact b2, f2⟩
    rw [if_pos (show zi 0 = 0 from rfl)]; rfl
  · have h1 : nd = 1 := by omega
    subst h1
    have e58 : μ2 59 1 + (1 : Int32) = zi (W 0 0 + 1) := by rw [f2 59 (by omega), hS.1.1]; exact zi_add _ 1
    obtain ⟨μ3, d1, d2, d3, -⟩ := x_beginDay (k := 64) (day := W 0 0 + 1) (by decide) hT (wb_work hT hW c1 hab) hX2 b2 (by omega)
    refine ⟨μ3, ?_, by rw [if_neg (by decide)]; exact d2, f2.trans (d3.mono (fun q hq => by omega))⟩
    rw [if_neg (show ¬ zi 1 = 0 by decide), e58, d1]; rfl
def f63 (μ μ' : zMem) : Prop := zfr (fun k => k = 58 ∨ (64 ≤ k ∧ k < 68)) μ μ'
def sR (s : qT) (μ0 m : zMem) : Prop := xQ s m ∧ s.1 ≤ 200 ∧ f63 μ0 m
theorem x_two31 {T W : zN2} {μ0 : zMem} (hT : TB T) (hW : WB T W) (hP : W 0 3 = T 2 1) (hX : XT T μ0) (hS : XS T W 59 μ0) {nd d a : Nat} (hn : nd < 2) (hn' : nd = 0 ∨ W 0 0 < 29) (hd : d < T 2 2) (ha : a < T 2 1) (K : zMem → zRes) {m : zMem} {s : qT} (h : sR s μ0 m) :
    ∃ m', f6_seekTwo_L31 (zi nd) (zi d) (zi a) K zF (zi (a + 1)) m = K m' ∧ sR (zit (fun b => sS T W nd (100 * d + 10 * a + b)) (T 2 1 - (a + 1)) (a + 1) s) μ0 m' := by
  have hD := hT.2.2.1
  have hPP := hT.2.1
  exact zloopS (L := fun n i m => f6_seekTwo_L31 (zi nd) (zi d) (zi a) K n (zi i) m) (N := T 2 1) (o := K) (F := fun b => sS T W nd (100 * d + 10 * a + b)) (fun _ s m => sR s μ0 m)
    (fun n m s h => by
      have e4 : m 59 4 = zi (T 2 1) := by rw [h.2.2 59 (by omega), hS.1.2.2.2.1, hP]
      rw [f6_seekTwo_L31, if_pos (by rw [e4, zi_le (by omega) (by omega)]; exact Nat.le_refl _)])
    (fun n i m s hi h => by
      have e4 : m 59 4 = zi (T 2 1) := by rw [h.2.2 59 (by omega), hS.1.2.2.2.1, hP]
      obtain ⟨hq, hs1, hf⟩ := h
      have hX' : XT T m := XT_of (fun key hk => hf key (by omega)) hX
      have hS' : XS T W 59 m := XS_of (fun key h1 h2 => hf key (by omega)) hS
      have hle : ¬ m 59 4 ≤ zi i := by rw [e4, zi_le (by omega) (by omega)]; omega
      have z1 : zi i + (1 : Int32) = zi (i + 1) := zi_add i 1
      have q1 : (100 * d + 10 * a + i) / 100 = d := by omega
      have q2 : (100 * d + 10 * a + i) / 10 % 10 = a := by omega
      have q3 : (100 * d + 10 * a + i) % 10 = i := by omega
      have hlt := tE_lt (T := T) (W := W) (d := d) (a := a) (b := i)
      have hck : cok T (100 * d + 10 * a + i) := ⟨by rw [q1]; exact hd, by rw [q2]; exact ha, by rw [q3]; exact hi⟩
      have herr := x_errs hT hW hX' hS' hd (show a < W 0 3 by omega) (show i < W 0 3 by omega)
      unfold sS
      by_cases h0 : tE T W d a i = 0
      · have h0' : tE T W ((100 * d + 10 * a + i) / 100) ((100 * d + 10 * a + i) / 10 % 10) ((100 * d + 10 * a + i) % 10) = 0 := by rw [q1, q2, q3]; exact h0
        obtain ⟨v1, v2⟩ := vB_b (nd := nd) hT hW hn' hck h0'
        obtain ⟨m1, g1, g2, g3⟩ := x_goBehind hT hW hP hX' hS' hn hn' hck h0'
        have hX1 : XT T m1 := XT_of (fun key hk => g3 key (by omega)) hX'
        have k57 : m1 58 = m 58 := g3 58 (by omega)
        have hq1 : xQ s m1 := by unfold xQ; rw [k57]; exact hq
        obtain ⟨m2, t1, t2, t3, t4⟩ := x_seekSecond hT v1 (v2.trans hP) hX1 g2 hck.1 (show 100 * d + 10 * a + i < 1000 by omega) hs1 hq1
        have hcode : ∀ m, f8_workCode (zi d) (zi a) (zi i) m = some (0, zi (100 * d + 10 * a + i), m) := by
          intro m
          unfold f8_workCode
          rw [show (100 : Int32) = zi 100 from rfl, show (10 : Int32) = zi 10 from rfl, zi_mul, zi_mul, zi_add, zi_add]
        rw [q1, q2, q3] at g1
        refine ⟨m2, ?_, by rw [if_pos h0']; exact ⟨t2, t3, hf.trans ((g3.mono (fun q hq => Or.inr hq)).trans (t4.mono (fun q hq => Or.inl hq)))⟩⟩
        rw [f6_seekTwo_L31, if_neg hle, herr, bnd0_ok, zlet_e, if_pos (show zi (tE T W d a i) = 0 from by rw [h0]; rfl), g1, bnd0_ok, hcode, bnd0_ok, t1, bnd0_ok, z1]
      · have h0' : ¬ tE T W ((100 * d + 10 * a + i) / 100) ((100 * d + 10 * a + i) / 10 % 10) ((100 * d + 10 * a + i) % 10) = 0 := by rw [q1, q2, q3]; exact h0
        refine ⟨m, ?_, by rw [if_neg h0']; exact ⟨hq, hs1, hf⟩⟩
        rw [f6_seekTwo_L31, if_neg hle, herr, bnd0_ok, zlet_e, if_neg (show ¬ zi (tE T W d a i) = 0 from by rw [show (0 : Int32) = zi 0 from rfl, zi_eq (by omega) (by omega)]; exact h0), z1])
    (T 2 1 - (a + 1)) (a + 1) m s zF (by omega) (by unfold zF; omega) h
theorem x_two15 {T W : zN2} {μ0 : zMem} (hT : TB T) (hW : WB T W) (hP : W 0 3 = T 2 1) (hX : XT T μ0) (hS : XS T W 59 μ0) {nd d : Nat} (hn : nd < 2) (hn' : nd = 0 ∨ W 0 0 < 29) (hd : d < T 2 2) (K : zMem → zRes) {m : zMem} {s : qT} (h : sR s μ0 m) :
    ∃ m', f6_seekTwo_L15 (zi nd) (zi d) K zF (zi 0) m = K m' ∧ sR (zit (fun a => zit (fun b => sS T W nd (100 * d + 10 * a + b)) (T 2 1 - (a + 1)) (a + 1)) (T 2 1) 0 s) μ0 m' := by
  have hPP := hT.2.1
  exact zloopS (L := fun n i m => f6_seekTwo_L15 (zi nd) (zi d) K n (zi i) m) (N := T 2 1) (o := K) (F := fun a => zit (fun b => sS T W nd (100 * d + 10 * a + b)) (T 2 1 - (a + 1)) (a + 1)) (fun _ s m => sR s μ0 m)
    (fun n m s h => by
      have e4 : m 59 4 = zi (T 2 1) := by rw [h.2.2 59 (by omega), hS.1.2.2.2.1, hP]
      rw [f6_seekTwo_L15, if_pos (by rw [e4, zi_le (by omega) (by omega)]; exact Nat.le_refl _)])
    (fun n i m s hi h => by
      have e4 : m 59 4 = zi (T 2 1) := by rw [h.2.2 59 (by omega), hS.1.2.2.2.1, hP]
      have hle : ¬ m 59 4 ≤ zi i := by rw [e4, zi_le (by omega) (by omega)]; omega
      have z1 : zi i + (1 : Int32) = zi (i + 1) := zi_add i 1
      obtain ⟨m', p1, p2⟩ := x_two31 hT hW hP hX hS hn hn' hd hi (fun (μ20 : zMem) => f6_seekTwo_L15 (zi nd) (zi d) K n (zi (i + 1)) μ20) h
      refine ⟨m', ?_, p2⟩
      rw [f6_seekTwo_L15, if_neg hle, zlet_e, z1]
      exact p1)
    (T 2 1) 0 m s zF (by omega) (by unfold zF; omega) h
theorem x_seekTwo {T W : zN2} {μ : zMem} (hT : TB T) (hW : WB T W) (hP : W 0 3 = T 2 1) (hX : XT T μ) (hS : XS T W 59 μ) {nd : Nat} (hn : nd < 2) (hn' : nd = 0 ∨ W 0 0 < 29) {s : qT} (hq : xQ s μ) (hs : s.1 ≤ 200) :
    ∃ m', f6_seekTwo (zi nd) μ = some (0, zi 0, m') ∧ sR (zcand (T 2 2) (T 2 1) (sS T W nd) s) μ m' := by
  have hD := hT.2.2.1
  obtain ⟨m', p1, p2⟩ := zloopS (L := fun n i m => f6_seekTwo_L2 (zi nd) (fun (μ22 : zMem) => some (0, zi 0, μ22)) n (zi i) m) (N := T 2 2) (o := fun m => some (0, zi 0, m)) (F := fun d => zit (fun a => zit (fun b => sS T W nd (100 * d + 10 * a + b)) (T 2 1 - (a + 1)) (a + 1)) (T 2 1) 0) (fun _ s m => sR s μ m)
    (fun n m s h => by
      have e : m 2 2 = zi (T 2 2) := by rw [h.2.2 2 (by omega)]; exact hX.1.2.2.1
      rw [f6_seekTwo_L2, if_pos (by rw [e, zi_le (by omega) (by omega)]; exact Nat.le_refl _)])
    (fun n i m s hi h => by
      have e : m 2 2 = zi (T 2 2) := by rw [h.2.2 2 (by omega)]; exact hX.1.2.2.1
      have hle : ¬ m 2 2 ≤ zi i := by rw [e, zi_le (by omega) (by omega)]; omega
      have z1 : zi i + (1 : Int32) = zi (i + 1) := zi_add i 1
      obtain ⟨m', p1, p2⟩ := x_two15 hT hW hP hX hS hn hn' hi (fun (μ21 : zMem) => f6_seekTwo_L2 (zi nd) (fun (μ22 : zMem) => some (0, zi 0, μ22)) n (zi (i + 1)) μ21) h
      refine ⟨m', ?_, p2⟩
      rw [f6_seekTwo_L2, if_neg hle, z1]
      exact p1)
    (T 2 2) 0 μ s zF (by omega) (by unfold zF; omega) ⟨hq, hs, zfr.refl⟩
  refine ⟨m', ?_, p2⟩
  unfold f6_seekTwo
  simp only [zlit']
  exact p1
