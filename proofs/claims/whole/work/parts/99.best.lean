/-! THE PURE SIDE, 40: best -/
def b0S (T W : zN2) (c : Nat) (s : qT) : qT := if tE T W (c / 100) (c / 10 % 10) (c % 10) = 0 then (if s.1 < T 8 (c / 100) then (T 8 (c / 100), zi c, zN1) else s) else s
theorem b0_pB {T W : zN2} (hT : TB T) : zcand (T 2 2) (T 2 1) (b0S T W) (0, zN1, zN1) = pB T W := by
  have hPP := hT.2.1
  unfold pB bN zcand
  refine zit_rel (fun (s : qT) (b : Option Nat) => s = match b with
    | none => (0, zN1, zN1)
    | some c => (T 8 (c / 100), zi c, zN1)) (T 2 2) 0 (0, zN1, zN1) none rfl (fun d s b _ _ h => ?_)
  refine zit_rel (fun (s : qT) (b : Option Nat) => s = match b with
    | none => (0, zN1, zN1)
    | some c => (T 8 (c / 100), zi c, zN1)) (T 2 1) 0 s b h (fun a s b _ _ h => ?_)
  refine zit_rel (fun (s : qT) (b : Option Nat) => s = match b with
    | none => (0, zN1, zN1)
    | some c => (T 8 (c / 100), zi c, zN1)) (T 2 1 - (a + 1)) (a + 1) s b h (fun j s b _ _ h => ?_)
  have k8 := tb_8 hT ((100 * d + 10 * a + j) / 100)
  unfold b0S bS
  by_cases h0 : tE T W ((100 * d + 10 * a + j) / 100) ((100 * d + 10 * a + j) / 10 % 10) ((100 * d + 10 * a + j) % 10) = 0
  · simp only [h0, if_true]
    cases b with
    | none =>
      have h : s = (0, zN1, zN1) := h
      rw [h, if_pos (show 0 < T 8 ((100 * d + 10 * a + j) / 100) by omega)]
    | some e =>
      have h : s = (T 8 (e / 100), zi e, zN1) := h
      rw [h]
      by_cases hw : T 8 (e / 100) < T 8 ((100 * d + 10 * a + j) / 100)
      · simp only [hw, if_true]
      · simp only [hw, if_false]
  · simp only [h0, if_false]; exact h
def bQ (T W : zN2) (two c : Nat) (s : qT) : qT := if two = 0 then b0S T W c s else sS T W 0 c s
theorem bQ_le {T W : zN2} (hT : TB T) {two c : Nat} {s : qT} (h : s.1 ≤ 200) : (bQ T W two c s).1 ≤ 200 := by
  have k8 := tb_8 hT (c / 100)
  unfold bQ b0S sS qB
  repeat' split
  all_goals first | exact h | (show T 8 (c / 100) ≤ 200; omega) | (rename_i e _ _; have := tb_8 hT (e / 100); show T 8 (c / 100) + T 8 (e / 100) ≤ 200; omega)
/-- what the reference keeps of its best row -/
def mB (s : qT) (μ0 m : zMem) : Prop := m 1127 0 = s.2.1 ∧ m 1127 1 = s.2.2 ∧ s.1 ≤ 200 ∧ zmq μ0 m ∧ m 0 0 = zi 0
theorem mB_zmb {s : qT} {μ0 m m' : zMem} (h : mB s μ0 m) (h' : zmb m m') : mB s μ0 m' := by
  obtain ⟨h1, h2, h3, h4, h5⟩ := h
  exact ⟨by rw [h'.2.2]; exact h1, by rw [h'.2.2]; exact h2, h3, h4.trans h'.1, h'.2.1.trans h5⟩
theorem zmq_1127 {μ : zMem} {j : Nat} {v : Int32} : zmq μ (zset μ 1127 j v) :=
  ⟨⟨by rw [zset_nk (by decide)], by rw [zset_nk (by decide)], by rw [zset_nk (by decide)], by rw [zset_nk (by decide)]⟩, fun key j' hk => by
    rw [zset_nk]
    intro e
    rw [e, kidx_big (by unfold zsk; omega)] at hk
    omega, fun key hk => zset_nk (by unfold zmk at hk; omega)⟩
theorem m_best1 {T W : zN2} {μ0 m : zMem} (hT : TB T) (hW : WB T W) (hP : W 0 3 = T 2 1) (hM : MT T μ0) (hS : MS T W μ0) {two v n : Nat} (ht : two < 2) (hv : v < 64 * T 2 2) {s : qT} (h : mB s μ0 m) (K : Int32 → zMem → zRes) :
    ∃ m', f9_best_L55 (zi two) K (n + 1) (zi s.1) (zi v) m = f9_best_L55 (zi two) K n (zi (if v / 8 % 8 < v % 8 ∧ v % 8 < T 2 1 then bQ T W two (100 * (v / 64) + 10 * (v / 8 % 8) + v % 8) s else s).1) (zi (v + 1)) m' ∧ mB (if v / 8 % 8 < v % 8 ∧ v % 8 < T 2 1 then bQ T W two (100 * (v / 64) + 10 * (v / 8 % 8) + v % 8) s else s) μ0 m' := by
  have hD := hT.2.2.1
  have hPP := hT.2.1
  obtain ⟨h1, h2, h3, h4, h5⟩ := h
  have hM' : MT T m := MT_q h4.2.2 hT hM
  have hS' : MS T W m := MS_q h4 hT hW hS
  have z2 : ∀ A, zin (2 : Int32) 6 A = A := fun A => zin_i (i := 2) (by decide) (by decide)
  have z16 : ∀ A, zin (1 : Int32) 6 A = A := fun A => zin_i (i := 1) (by decide) (by decide)
  have z04 : ∀ A, zin (0 : Int32) 4 A = A := fun A => zin_i (i := 0) (by decide) (by decide)
  have z02 : ∀ A, zin (0 : Int32) 2 A = A := fun A => zin_i (i := 0) (by decide) (by decide)
  have z12 : ∀ A, zin (1 : Int32) 2 A = A := fun A => zin_i (i := 1) (by decide) (by decide)
  have n2 : (2 : Int32).toNatClampNeg = 2 := by decide
  have n1 : (1 : Int32).toNatClampNeg = 1 := by decide
  have n0 : (0 : Int32).toNatClampNeg = 0 := by decide
  have hle : ¬ (64 : Int32) * m 4 2 ≤ zi v := by rw [hM'.1.2.2.1, show (64 : Int32) = zi 64 from rfl, zi_mul, zi_le (by omega) (by omega)]; omega
  have e64 : zi v / (64 : Int32) = zi (v / 64) := zi_div (b := 64) (by omega) (by decide)
  have e8 : zrem (zi v / (8 : Int32)) (8 : Int32) = zi (v / 8 % 8) := by rw [show (8 : Int32) = zi 8 from rfl, zi_div (by omega) (by decide), zrem_i (by omega) (by decide)]
  have e88 : zrem (zi v) (8 : Int32) = zi (v % 8) := zrem_i (b := 8) (by omega) (by decide)
  have z1 : zi v + (1 : Int32) = zi (v + 1) := zi_add v 1
  have q1 : (100 * (v / 64) + 10 * (v / 8 % 8) + v % 8) / 100 = v / 64 := by omega
  have q2 : (100 * (v / 64) + 10 * (v / 8 % 8) + v % 8) / 10 % 10 = v / 8 % 8 := by omega
  have q3 : (100 * (v / 64) + 10 * (v / 8 % 8) + v % 8) % 10 = v % 8 := by omega
  have hvd : v / 64 < T 2 2 := by omega
  rw [f9_best_L55, z2, n2, if_neg hle, zlet_e, e64, zlet_e, e8, zlet_e, e88, zlet_e]
  by_cases ha : v % 8 ≤ v / 8 % 8
  · refine ⟨m, ?_, by rw [if_neg (by omega)]; exact ⟨h1, h2, h3, h4, h5⟩⟩
    rw [if_pos (show zi (v % 8) ≤ zi (v / 8 % 8) from by rw [zi_le (by omega) (by omega)]; exact ha), if_neg (by omega), z1]
  · rw [if_neg (show ¬ zi (v % 8) ≤ zi (v / 8 % 8) from by rw [zi_le (by omega) (by omega)]; exact ha), z16, n1]
    by_cases hb : T 2 1 ≤ v % 8
    · refine ⟨m, ?_, by rw [if_neg (by omega)]; exact ⟨h1, h2, h3, h4, h5⟩⟩
      rw [if_pos (show m 4 1 ≤ zi (v % 8) from by rw [hM'.1.2.1, zi_le (by omega) (by omega)]; exact hb), if_neg (by omega), z1]
    · have hcond : v / 8 % 8 < v % 8 ∧ v % 8 < T 2 1 := by omega
      rw [if_neg (show ¬ m 4 1 ≤ zi (v % 8) from by rw [hM'.1.2.1, zi_le (by omega) (by omega)]; exact hb), m_canBe hT hW hM' hS' hvd (show v / 8 % 8 < W 0 3 by omega) (show v % 8 < W 0 3 by omega), bnd0_ok]
      simp only [if_pos hcond]
      have hck : cok T (100 * (v / 64) + 10 * (v / 8 % 8) + v % 8) := ⟨by rw [q1]; exact hvd, by rw [q2]; omega, by rw [q3]; omega⟩
      by_cases h0 : tE T W (v / 64) (v / 8 % 8) (v % 8) = 0
      · have h0' : tE T W ((100 * (v / 64) + 10 * (v / 8 % 8) + v % 8) / 100) ((100 * (v / 64) + 10 * (v / 8 % 8) + v % 8) / 10 % 10) ((100 * (v / 64) + 10 * (v / 8 % 8) + v % 8) % 10) = 0 := by rw [q1, q2, q3]; exact h0
        have k8 := tb_8 hT (v / 64)
        have e36 : m (36 + (zi (v / 64)).toNatClampNeg) 0 = zi (T 8 (v / 64)) := by rw [zi_cl (by omega)]; exact (hM'.2.2.2.2 _ hvd).1
        -- the end: a row is kept if it is worth more
        have fin : ∀ (mm : zMem) (w : Nat) (y : Int32), w < 1000 → mB s μ0 mm → ∃ m', (if zi s.1 < zi w then bnd0 (f9_coded (zi (v / 64)) (zi (v / 8 % 8)) (zi (v % 8)) mm) (fun (v41 : Int32) (μ42 : zMem) => zin (0 : Int32) 2 (zlet (zset μ42 1127 0 v41) (fun (μ44 : zMem) => zin (1 : Int32) 2 (zlet (zset μ44 1127 1 y) (fun (μ46 : zMem) => f9_best_L55 (zi two) K n (zi w) (zi (v + 1)) μ46))))) else f9_best_L55 (zi two) K n (zi s.1) (zi (v + 1)) mm) = f9_best_L55 (zi two) K n (zi (if s.1 < w then (w, zi (100 * (v / 64) + 10 * (v / 8 % 8) + v % 8), y) else s).1) (zi (v + 1)) m' ∧ (w ≤ 200 → mB (if s.1 < w then (w, zi (100 * (v / 64) + 10 * (v / 8 % 8) + v % 8), y) else s) μ0 m') := by
          intro mm w y hw hmm
          by_cases hlt : s.1 < w
          · refine ⟨zset (zset mm 1127 0 (zi (100 * (v / 64) + 10 * (v / 8 % 8) + v % 8))) 1127 1 y, ?_, fun hw2 => ?_⟩
            · rw [if_pos (show zi s.1 < zi w from by rw [zi_lt (by omega) (by omega)]; exact hlt), if_pos hlt]
              have hcode : f9_coded (zi (v / 64)) (zi (v / 8 % 8)) (zi (v % 8)) mm = some (0, zi (100 * (v / 64) + 10 * (v / 8 % 8) + v % 8), mm) := by
                unfold f9_coded
                rw [show (100 : Int32) = zi 100 from rfl, show (10 : Int32) = zi 10 from rfl, zi_mul, zi_mul, zi_add, zi_add]
              rw [hcode, bnd0_ok, z02, zlet_e, z12, zlet_e]
            · rw [if_pos hlt]
              exact ⟨by rw [zset_nj (by decide), zset_eq], zset_eq, hw2, hmm.2.2.2.1.trans (zmq_1127.trans zmq_1127), by rw [zset_nk (by decide), zset_nk (by decide)]; exact hmm.2.2.2.2⟩
          · refine ⟨mm, ?_, fun _ => by rw [if_neg hlt]; exact hmm⟩
            rw [if_neg (show ¬ zi s.1 < zi w from by rw [zi_lt (by omega) (by omega)]; exact hlt), if_neg hlt]
        rw [if_neg (show ¬ zi (if tE T W (v / 64) (v / 8 % 8) (v % 8) = 0 then 1 else 0) = 0 from by rw [if_pos h0]; decide), zin_i (by omega) (by omega), z04, n0, e36, zlet_e, zlet_e]
        by_cases ht0 : two = 0
        · subst ht0
          have eb : bQ T W 0 (100 * (v / 64) + 10 * (v / 8 % 8) + v % 8) s = if s.1 < T 8 (v / 64) then (T 8 (v / 64), zi (100 * (v / 64) + 10 * (v / 8 % 8) + v % 8), zN1) else s := by
            unfold bQ b0S; rw [if_pos rfl, if_pos h0', q1]
          rw [eb, if_neg (show ¬ zi 0 = 1 by decide)]
          obtain ⟨m', f1, f2⟩ := fin m (T 8 (v / 64)) zN1 (by omega) ⟨h1, h2, h3, h4, h5⟩
          refine ⟨m', ?_, f2 (by omega)⟩
          rw [← f1, z1]; rfl
        · have ht1 : two = 1 := by omega
          subst ht1
          obtain ⟨m2, g1, g2⟩ := m_secondOf hT hW hP hM' hS' hck h0'
          rw [q1, q2, q3] at g1
          have hM2 : MT T m2 := MT_q g2.1.2.2 hT hM'
          have hmb := mB_zmb (μ0 := μ0) ⟨h1, h2, h3, h4, h5⟩ g2
          rw [if_pos (show zi 1 = 1 from rfl), g1, bnd0_ok]
          have eb : bQ T W 1 (100 * (v / 64) + 10 * (v / 8 % 8) + v % 8) s = qB T (vB T W 0 (100 * (v / 64) + 10 * (v / 8 % 8) + v % 8)) (T 8 (v / 64)) (zi (100 * (v / 64) + 10 * (v / 8 % 8) + v % 8)) s := by
            unfold bQ sS; rw [if_neg (by decide), if_pos h0', q1]
          rw [eb]
          unfold qB
          obtain ⟨v1, v2⟩ := vB_b (nd := 0) hT hW (Or.inl rfl) hck h0'
          cases hbn : bN T (vB T W 0 (100 * (v / 64) + 10 * (v / 8 % 8) + v % 8)) with
          | none =>
            refine ⟨m2, ?_, hmb⟩
            rw [if_pos (show oI none = -1 from rfl), z1]
          | some e =>
            have hbe : cok T e ∧ e < 1000 := by
              have := zcand_inv (D := T 2 2) (P := T 2 1) (G := bS T (vB T W 0 (100 * (v / 64) + 10 * (v / 8 % 8) + v % 8))) (fun b => ∀ c, b = some c → cok T c ∧ c < 1000) (s := none) (fun c hc => (nomatch hc)) (fun d a b t hd hab hb ht c hc => by
                have p1 : (100 * d + 10 * a + b) / 100 = d := by omega
                have p2 : (100 * d + 10 * a + b) / 10 % 10 = a := by omega
                have p3 : (100 * d + 10 * a + b) % 10 = b := by omega
                have hnew : cok T (100 * d + 10 * a + b) ∧ 100 * d + 10 * a + b < 1000 := ⟨⟨by rw [p1]; exact hd, by rw [p2]; omega, by rw [p3]; exact hb⟩, by omega⟩
                unfold bS at hc
                split at hc
                · cases t with
                  | none =>
                    have hc : some (100 * d + 10 * a + b) = some c := hc
                    rw [← Option.some.inj hc]; exact hnew
                  | some e =>
                    simp only at hc
                    split at hc
                    · rw [← Option.some.inj hc]; exact hnew
                    · exact ht c hc
                · exact ht c hc)
              exact this e hbn
            have ke := tb_8 hT (e / 100)
            have hee := hbe.1.1
            have e36' : m2 (36 + (zi (e / 100)).toNatClampNeg) 0 = zi (T 8 (e / 100)) := by rw [zi_cl (by omega)]; exact (hM2.2.2.2.2 _ hee).1
            have ediv : oI (some e) / (100 : Int32) = zi (e / 100) := zi_div (a := e) (b := 100) (by omega) (by decide)
            rw [if_neg (show ¬ oI (some e) = -1 from by show ¬ zi e = -1; rw [zneg1, zi_nN1 (by omega)]; exact id), ediv, zin_i (by omega) (by omega), z04, e36', zi_add, zlet_e]
            obtain ⟨m', f1, f2⟩ := fin m2 (T 8 (v / 64) + T 8 (e / 100)) (zi e) (by omega) hmb
            refine ⟨m', ?_, f2 (by omega)⟩
            rw [← f1, z1]; rfl
      · have h0' : ¬ tE T W ((100 * (v / 64) + 10 * (v / 8 % 8) + v % 8) / 100) ((100 * (v / 64) + 10 * (v / 8 % 8) + v % 8) / 10 % 10) ((100 * (v / 64) + 10 * (v / 8 % 8) + v % 8) % 10) = 0 := by rw [q1, q2, q3]; exact h0
        have eb : bQ T W two (100 * (v / 64) + 10 * (v / 8 % 8) + v % 8) s = s := by
          unfold bQ b0S sS
          by_cases ht0 : two = 0
          · rw [if_pos ht0, if_neg h0']
          · rw [if_neg ht0, if_neg h0']
        rw [eb]
        refine ⟨m, ?_, ⟨h1, h2, h3, h4, h5⟩⟩
        rw [if_pos (show zi (if tE T W (v / 64) (v / 8 % 8) (v % 8) = 0 then 1 else 0) = 0 from by rw [if_neg h0]; rfl), z1]
theorem m_best55 {T W : zN2} {μ0 m : zMem} (hT : TB T) (hW : WB T W) (hP : W 0 3 = T 2 1) (hM : MT T μ0) (hS : MS T W μ0) {two : Nat} (ht : two < 2) {s : qT} (h : mB s μ0 m) (K : Int32 → zMem → zRes) :
    ∃ m', f9_best_L55 (zi two) K zF (zi s.1) (zi 0) m = K (zi (zcand (T 2 2) (T 2 1) (bQ T W two) s).1) m' ∧ mB (zcand (T 2 2) (T 2 1) (bQ T W two) s) μ0 m' := by
  have hD := hT.2.2.1
  have hPP := hT.2.1
  rw [← zit_cand hPP]
  obtain ⟨x, p1, p2, p3⟩ := zloopS (L := fun n i (x : Int32 × zMem) => f9_best_L55 (zi two) K n x.1 (zi i) x.2) (N := 64 * T 2 2) (o := fun x => K x.1 x.2) (F := fun v s => if v / 8 % 8 < v % 8 ∧ v % 8 < T 2 1 then bQ T W two (100 * (v / 64) + 10 * (v / 8 % 8) + v % 8) s else s)
    (fun _ s x => x.1 = zi s.1 ∧ mB s μ0 x.2)
    (fun n x s hx => by
      have hM' : MT T x.2 := MT_q hx.2.2.2.2.1.2.2 hT hM
      have z2 : ∀ A, zin (2 : Int32) 6 A = A := fun A => zin_i (i := 2) (by decide) (by decide)
      have n2 : (2 : Int32).toNatClampNeg = 2 := by decide
      rw [f9_best_L55, z2, n2, if_pos (show (64 : Int32) * x.2 4 2 ≤ zi (64 * T 2 2) from by rw [hM'.1.2.2.1, show (64 : Int32) = zi 64 from rfl, zi_mul]; exact Int32.le_refl _)])
    (fun n i x s hi hx => by
      obtain ⟨x1, x2⟩ := x
      have e1 : x1 = zi s.1 := hx.1
      subst e1
      obtain ⟨m', a1, a2⟩ := m_best1 (n := n) hT hW hP hM hS ht hi hx.2 K
      exact ⟨(_, m'), a1, rfl, a2⟩)
    (64 * T 2 2) 0 (zi s.1, m) s zF (by omega) (by unfold zF; omega) ⟨rfl, h⟩
  refine ⟨x.2, ?_, p3⟩
  rw [← p2]
  exact p1
theorem bQ_0 {T W : zN2} : bQ T W 0 = b0S T W := by funext c s; unfold bQ; rw [if_pos rfl]
theorem bQ_1 {T W : zN2} : bQ T W 1 = sS T W 0 := by funext c s; unfold bQ; rw [if_neg (by decide)]
theorem x_answer6 {s : qT} {μ : zMem} (hs : xQ s μ) {w : Nat} (hw : w < 3) : f6_answer (zi w) μ = some (0, (if w = 0 then zi s.1 else if w = 1 then s.2.1 else s.2.2), μ) := by
  obtain ⟨h3, h4, h5⟩ := hs
  unfold f6_answer
  have hw3 : w = 0 ∨ w = 1 ∨ w = 2 := by omega
  rcases hw3 with rfl | rfl | rfl
  · simp only [zlit, if_true, h3]
  · simp only [zlit, if_true, if_false, ite_true, ite_false, Bool.false_eq_true, Bool.true_eq_false, reduceIte, z10, z01, Nat.one_ne_zero, Nat.zero_ne_one, h4]
  · simp (disch := omega) only [zlit, zi_eq, show ¬ 2 = 0 by decide, show ¬ 2 = 1 by decide, if_true, if_false, ite_true, ite_false, Bool.false_eq_true, Bool.true_eq_false, reduceIte, z10, z01, Nat.one_ne_zero, Nat.zero_ne_one, h5]
theorem P_best {x : Int32} {μX μM : zMem} (h : zInv μX μM) : zPm cI (f8_best x μX) (f9_best x μM) := by
  have h' := h
  obtain ⟨T, W, r, R, n, m, WI, rI, RI, ⟨hT, hW, hL, hX, hM, hS, hS', h30, hB, hR, hR'⟩, ht, hf, hi⟩ := h
  have hM0 := MT_0 (v := zi 0) hT hM
  have hS0 := MS_0 (v := zi 0) hT hW hS'
  have e00 : zset μM 0 0 (zi 0) 0 0 = zi 0 := zset_00
  rcases zcase x 3 (by omega) with ⟨w, hw, rfl⟩ | hx
  · obtain ⟨mx, a1, a2, a3⟩ := x_bestRow hT hW hL.2.2.1 hX hS
    have hm0 : mB (0, zN1, zN1) (zset μM 0 0 (zi 0)) (zset (zset (zset μM 0 0 (zi 0)) 1127 0 zN1) 1127 1 zN1) := ⟨by rw [zset_nj (by decide), zset_eq], zset_eq, Nat.zero_le _, zmq_1127.trans zmq_1127, by rw [zset_nk (by decide), zset_nk (by decide)]; exact e00⟩
    have z02 : ∀ A, zin (0 : Int32) 2 A = A := fun A => zin_i (i := 0) (by decide) (by decide)
    have z12 : ∀ A, zin (1 : Int32) 2 A = A := fun A => zin_i (i := 1) (by decide) (by decide)
    obtain ⟨n9, hn9⟩ : ∃ n, zF = n + 1 + 1 + 1 := ⟨999997, rfl⟩
    -- the end
    let KK : Int32 → zMem → zRes := fun (x2_59 : Int32) (μ60 : zMem) => zlet (fun (s61 : Int32) => some (0, s61, μ60)) (fun j62 => if zi w = 0 then j62 x2_59 else zin (zi w - (1 : Int32)) 2 (j62 (μ60 1127 (zi w - (1 : Int32)).toNatClampNeg)))
    obtain ⟨m1, b1, b2⟩ := m_best55 (two := 0) hT hW hL.2.2.1 hM0 hS0 (by decide) hm0 (fun (x2_57 : Int32) (μ58 : zMem) => f9_best_L47 KK (n9 + 1 + 1) x2_57 (zi 0 + (1 : Int32)) μ58)
    rw [bQ_0, b0_pB hT] at b1 b2
    obtain ⟨m2, c1, c2⟩ := m_best55 (two := 1) hT hW hL.2.2.1 hM0 hS0 (by decide) b2 (fun (x2_57 : Int32) (μ58 : zMem) => f9_best_L47 KK (n9 + 1) x2_57 (zi 1 + (1 : Int32)) μ58)
    rw [bQ_1] at c1 c2
    have c2 : mB (bestV T W) (zset μM 0 0 (zi 0)) m2 := c2
    have c1 : f9_best_L55 (zi 1) (fun (x2_57 : Int32) (μ58 : zMem) => f9_best_L47 KK (n9 + 1) x2_57 (zi 1 + (1 : Int32)) μ58) zF (zi (pB T W).1) (zi 0) m1 = f9_best_L47 KK (n9 + 1) (zi (bestV T W).1) (zi 1 + (1 : Int32)) m2 := c1
    have step0 : f9_best_L47 KK zF (zi 0) (zi 0) (zset (zset (zset μM 0 0 (zi 0)) 1127 0 zN1) 1127 1 zN1) = f9_best_L47 KK (n9 + 1 + 1) (zi (pB T W).1) (zi 0 + (1 : Int32)) m1 := by
      rw [hn9, f9_best_L47, if_neg (show ¬ (2 : Int32) ≤ zi 0 by decide)]
      exact b1
    have step1 : f9_best_L47 KK (n9 + 1 + 1) (zi (pB T W).1) (zi 0 + (1 : Int32)) m1 = f9_best_L47 KK (n9 + 1) (zi (bestV T W).1) (zi 1 + (1 : Int32)) m2 := by
      rw [show zi 0 + (1 : Int32) = zi 1 from zi_add 0 1, f9_best_L47, if_neg (show ¬ (2 : Int32) ≤ zi 1 by decide)]
      exact c1
    have step2 : f9_best_L47 KK (n9 + 1) (zi (bestV T W).1) (zi 1 + (1 : Int32)) m2 = KK (zi (bestV T W).1) m2 := by
      rw [show zi 1 + (1 : Int32) = zi 2 from zi_add 1 1, f9_best_L47, if_pos (show (2 : Int32) ≤ zi 2 by decide)]
    have hK : KK (zi (bestV T W).1) m2 = some (0, (if w = 0 then zi (bestV T W).1 else if w = 1 then (bestV T W).2.1 else (bestV T W).2.2), m2) := by
      show zlet _ _ = _
      rw [zlet_e]
      have hw3 : w = 0 ∨ w = 1 ∨ w = 2 := by omega
      rcases hw3 with rfl | rfl | rfl
      · rw [if_pos (show zi 0 = 0 from rfl), if_pos rfl]
      · rw [if_neg (show ¬ zi 1 = 0 by decide), show zi 1 - (1 : Int32) = zi 0 by decide, zin_i (by decide) (by decide), zi_cl (by decide), c2.1]; rfl
      · rw [if_neg (show ¬ zi 2 = 0 by decide), show zi 2 - (1 : Int32) = zi 1 by decide, zin_i (by decide) (by decide), zi_cl (by decide), c2.2.1]; rfl
    refine zPm_q h' (μX' := mx) (μM' := m2) (e := 0) (v := if w = 0 then zi (bestV T W).1 else if w = 1 then (bestV T W).2.1 else (bestV T W).2.2) (w := if w = 0 then zi (bestV T W).1 else if w = 1 then (bestV T W).2.1 else (bestV T W).2.2) ?_ ?_ c2.2.2.2.2 (fun _ => rfl) (Or.inl rfl) a3 (zmq_0.trans c2.2.2.2.1)
    · unfold f8_best
      simp (disch := omega) only [zlit, x_needW_ok, bnd_ok, a1, bnd0_ok, x_answer6 a2 hw]
    · have hin : f9_in (zi w) (0 : Int32) (2 : Int32) (zset μM 0 0 (zi 0)) = some (0, zi 1, zset μM 0 0 (zi 0)) := m_inn_o (n := 2) (by decide) (by omega)
      have hbad : f9_bad (0 : Int32) (1 : Int32) (zset μM 0 0 (zi 0)) = some (0, zi 0, zset μM 0 0 (zi 0)) := m_bad0 e00
      unfold f9_best
      rw [zlet_e]
      show bnd0 (f9_in (zi w) (0 : Int32) (2 : Int32) (zset μM 0 0 (zi 0))) _ = _
      rw [hin, bnd0_ok, zlet_e, if_neg (show ¬ zi 1 = 0 by decide)]
      show bnd0 (f9_bad (0 : Int32) (1 : Int32) (zset μM 0 0 (zi 0))) _ = _
      rw [hbad, bnd0_ok, if_pos (show zi 0 = 0 from rfl), z02, zlet_e, z12, zlet_e]
      exact step0.trans (step1.trans (step2.trans hK))
  · refine zPm_q h' (μX' := μX) (μM' := zset (zset μM 0 0 (zi 0)) 0 0 (zi 1)) (e := 1) (v := zi 0) (w := zi 0) ?_ ?_ zset_00 (fun h => absurd h (by decide)) (Or.inr (by decide)) zfr.refl zmq_00
    · unfold f8_best; simp (disch := omega) only [zlit, x_needW_no (show 2 < 1000 by decide) hx, bnd_ex (e := 0)]
    · have hin : f9_in x (0 : Int32) (2 : Int32) (zset μM 0 0 (zi 0)) = some (0, zi 0, zset μM 0 0 (zi 0)) := m_inn_c (n := 2) (by decide) hx
      have hbad : f9_bad (1 : Int32) (1 : Int32) (zset μM 0 0 (zi 0)) = some (0, zi 1, zset (zset μM 0 0 (zi 0)) 0 0 (zi 1)) := m_bad1 (c := 1) e00 (by decide) (by decide)
      unfold f9_best
      rw [zlet_e]
      show bnd0 (f9_in x (0 : Int32) (2 : Int32) (zset μM 0 0 (zi 0))) _ = _
      rw [hin, bnd0_ok, zlet_e, if_pos (show zi 0 = 0 from rfl)]
      show bnd0 (f9_bad (1 : Int32) (1 : Int32) (zset μM 0 0 (zi 0))) _ = _
      rw [hbad, bnd0_ok, if_neg (show ¬ zi 1 = 0 by decide)]; rfl
