/-! THE PURE SIDE, 25: all WORKS in their order; which one is ahead -/
theorem zit_tri {σ : Type} {G : Nat → Nat → σ → σ} {P : Nat} (hP : P ≤ 8) (s : σ) : zit (fun j s => if j / 8 < j % 8 ∧ j % 8 < P then G (j / 8) (j % 8) s else s) 64 0 s = zit (fun a => zit (fun b => G a b) (P - (a + 1)) (a + 1)) P 0 s := by
  rw [show (64 : Nat) = 8 * 8 from rfl, zit_mul 8 8 s]
  have inner : ∀ a t, a < 8 → zit (fun j s => if (8 * a + j) / 8 < (8 * a + j) % 8 ∧ (8 * a + j) % 8 < P then G ((8 * a + j) / 8) ((8 * a + j) % 8) s else s) 8 0 t = if a < P then zit (fun b => G a b) (P - (a + 1)) (a + 1) t else t := by
    intro a t ha
    by_cases h : a < P
    · rw [if_pos h]
      have e : (8 : Nat) = (a + 1) + ((P - (a + 1)) + (8 - P)) := by omega
      have e2 : ∀ (F : Nat → σ → σ), zit F 8 0 t = zit F ((a + 1) + ((P - (a + 1)) + (8 - P))) 0 t := fun F => by rw [← e]
      rw [e2, zit_app, zit_app, zit_id (a + 1) 0 t (fun j u h1 h2 => if_neg (by omega)), zit_id (8 - P) _ _ (fun j u h1 h2 => if_neg (by omega)), Nat.zero_add]
      apply zit_congr
      intro j u h1 h2
      have q1 : (8 * a + j) / 8 = a := by omega
      have q2 : (8 * a + j) % 8 = j := by omega
      rw [q1, q2, if_pos (by omega)]
    · rw [if_neg h]
      apply zit_id
      intro j u h1 h2
      rw [if_neg (by omega)]
  rw [show (8 : Nat) = P + (8 - P) by omega, zit_app]
  have hid : ∀ t, zit (fun d => zit (fun j s => if ((P + (8 - P)) * d + j) / (P + (8 - P)) < ((P + (8 - P)) * d + j) % (P + (8 - P)) ∧ ((P + (8 - P)) * d + j) % (P + (8 - P)) < P then G (((P + (8 - P)) * d + j) / (P + (8 - P))) (((P + (8 - P)) * d + j) % (P + (8 - P))) s else s) (P + (8 - P)) 0) (8 - P) (0 + P) t = t := by
    intro t
    apply zit_id
    intro d u h1 h2
    rw [show P + (8 - P) = 8 by omega]
    rw [inner d u (by omega), if_neg (by omega)]
  rw [hid]
  apply zit_congr
  intro a t h1 h2
  rw [show P + (8 - P) = 8 by omega]
  rw [inner a t (by omega), if_pos (by omega)]
/-- all WORKS, one behind the other: d a DOOR, a and b two -/
def zcand {σ : Type} (D P : Nat) (G : Nat → σ → σ) (s : σ) : σ := zit (fun d => zit (fun a => zit (fun b => G (100 * d + 10 * a + b)) (P - (a + 1)) (a + 1)) P 0) D 0 s
theorem zit_cand {σ : Type} {G : Nat → σ → σ} {D P : Nat} (hP : P ≤ 8) (s : σ) : zit (fun v s => if v / 8 % 8 < v % 8 ∧ v % 8 < P then G (100 * (v / 64) + 10 * (v / 8 % 8) + v % 8) s else s) (64 * D) 0 s = zcand D P G s := by
  rw [zit_mul 64 D s]
  unfold zcand
  apply zit_congr
  intro d t _ _
  rw [← zit_tri (G := fun a b => G (100 * d + 10 * a + b)) hP t]
  apply zit_congr
  intro j u h1 h2
  have q1 : (64 * d + j) / 64 = d := by omega
  have q2 : (64 * d + j) / 8 % 8 = j / 8 := by omega
  have q3 : (64 * d + j) % 8 = j % 8 := by omega
  rw [q1, q2, q3]
/-- how far apart the two of a WORK are -/
def aP (T W : zN2) (c : Nat) : Nat := zd (W (4 + c / 10 % 10) (tA T W (c / 100))) (W (4 + c % 10) (tA T W (c / 100)))
def aL (W : zN2) (c : Nat) : Nat := W 2 (c / 10 % 10) + W 2 (c % 10)
/-- what is compared: the one's, the other's -/
def aU (T W : zN2) (r c e : Nat) : Nat := if r = 0 then aP T W c else if r = 1 then aP T W e else if r = 2 then aL W e else T 8 (c / 100) * T 9 (e / 100)
def aV (T W : zN2) (r c e : Nat) : Nat := if r = 0 then aP T W e else if r = 1 then aP T W c else if r = 2 then aL W c else T 8 (e / 100) * T 9 (c / 100)
def ahd (T W : zN2) (r c e : Nat) : Bool := decide (aV T W r c e < aU T W r c e ∨ (aU T W r c e = aV T W r c e ∧ T 8 (e / 100) < T 8 (c / 100)))
/-- a WORK's code -/
def cok (T : zN2) (c : Nat) : Prop := c / 100 < T 2 2 ∧ c / 10 % 10 < T 2 1 ∧ c % 10 < T 2 1
theorem zsub_pos {a b : Nat} (ha : a < 1073741824) (hb : b < 1073741824) : (zi 0 < zi a - zi b) = (b < a) := by
  apply propext
  rw [Int32.lt_iff_toInt_lt, zI_sub (by rw [zi_int (by omega), zi_int (by omega)]; omega) (by rw [zi_int (by omega), zi_int (by omega)]; omega), zi_int (by omega), zi_int (by omega), zi_int (by omega)]
  omega
theorem zsub_0 {a b : Nat} (ha : a < 1073741824) (hb : b < 1073741824) : (zi a - zi b = zi 0) = (a = b) := by
  apply propext
  rw [← Int32.toInt_inj, zI_sub (by rw [zi_int (by omega), zi_int (by omega)]; omega) (by rw [zi_int (by omega), zi_int (by omega)]; omega), zi_int (by omega), zi_int (by omega), zi_int (by omega)]
  omega
theorem aP_le {T W : zN2} (hW : WB T W) (c : Nat) : aP T W c ≤ 8 := by
  have h1 := wb_th hW (c / 10 % 10) (tA T W (c / 100))
  have h2 := wb_th hW (c % 10) (tA T W (c / 100))
  unfold aP zd
  omega
theorem m_isAhead {T W : zN2} {μ : zMem} (hT : TB T) (hW : WB T W) (hP : W 0 3 = T 2 1) (hM : MT T μ) (hS : MS T W μ) {r c e : Nat} (hr : r < 4) (hc : cok T c) (he : cok T e) : f9_isAhead (zi r) (zi c) (zi e) μ = some (0, zi (b01 (ahd T W r c e)), μ) := by
  have hD := hT.2.2.1
  have hPP := hT.2.1
  have hA4 := hT.1
  obtain ⟨c1, c2, c3⟩ := hc
  obtain ⟨e1, e2, e3⟩ := he
  have hA := tA_lt hT hW c1
  have hA' := tA_lt hT hW e1
  obtain ⟨w1, m1, -, -⟩ := hM.2.2.2.2 _ c1
  obtain ⟨w2, m2, -, -⟩ := hM.2.2.2.2 _ e1
  have k1 := tb_8 hT (c / 100)
  have k2 := tb_8 hT (e / 100)
  have k3 := tb_9 hT (c / 100)
  have k4 := tb_9 hT (e / 100)
  have t1 := wb_th hW (c / 10 % 10) (tA T W (c / 100))
  have t2 := wb_th hW (c % 10) (tA T W (c / 100))
  have t3 := wb_th hW (e / 10 % 10) (tA T W (e / 100))
  have t4 := wb_th hW (e % 10) (tA T W (e / 100))
  have l1 := wb_2 hW (c / 10 % 10)
  have l2 := wb_2 hW (c % 10)
  have l3 := wb_2 hW (e / 10 % 10)
  have l4 := wb_2 hW (e % 10)
  have p1 := aP_le hW c
  have p2 := aP_le hW e
  have x1 : T 8 (c / 100) * T 9 (e / 100) ≤ 99 * 240 := Nat.mul_le_mul k1.2 k4.2
  have x2 : T 8 (e / 100) * T 9 (c / 100) ≤ 99 * 240 := Nat.mul_le_mul k2.2 k3.2
  have hc9 : c < 2147483648 := by omega
  have he9 : e < 2147483648 := by omega
  -- the end of it
  have fin : ∀ (u v : Nat), u < 100000 → v < 100000 → (if v < u then zbl (zi 1) (some (0, zi 1, μ)) else if u = v then if T 8 (c / 100) ≤ T 8 (e / 100) then zbl (zi 0) (some (0, zi 0, μ)) else zbl (zi 1) (some (0, zi 1, μ)) else zbl (zi 0) (some (0, zi 0, μ))) = some (0, zi (b01 (decide (v < u ∨ (u = v ∧ T 8 (e / 100) < T 8 (c / 100))))), μ) := by
    intro u v hu hv
    by_cases h1 : v < u
    · rw [if_pos h1, decide_eq_true (Or.inl h1)]; exact zbl_1
    · rw [if_neg h1]
      by_cases h2 : u = v
      · rw [if_pos h2]
        by_cases h3 : T 8 (c / 100) ≤ T 8 (e / 100)
        · rw [if_pos h3, decide_eq_false (by omega)]; exact zbl_0
        · rw [if_neg h3, decide_eq_true (by omega)]; exact zbl_1
      · rw [if_neg h2, decide_eq_false (by omega)]; exact zbl_0
  unfold f9_isAhead
  have hr4 : r = 0 ∨ r = 1 ∨ r = 2 ∨ r = 3 := by omega
  rcases hr4 with rfl | rfl | rfl | rfl
  · have g := fin (aP T W c) (aP T W e) (by omega) (by omega)
    have q1 : f9_amount (zi (W (4 + c / 10 % 10) (tA T W (c / 100))) - zi (W (4 + c % 10) (tA T W (c / 100)))) μ = some (0, zi (aP T W c), μ) := m_amount (by omega) (by omega)
    have q2 : f9_amount (zi (W (4 + e / 10 % 10) (tA T W (e / 100))) - zi (W (4 + e % 10) (tA T W (e / 100)))) μ = some (0, zi (aP T W e), μ) := m_amount (by omega) (by omega)
    simp (disch := omega) only [zlet_e', zlit', zi_div, zrem_i, zin_i, zi_cl, w1, w2, zi_le, show ¬ 2 ≤ 0 by decide, if_false, if_true, m_asked hT hW hM hS c1, m_asked hT hW hM hS e1, bnd0_ok', (hS.2.1 (c / 10 % 10) (by omega)).2 _ hA, (hS.2.1 (c % 10) (by omega)).2 _ hA, (hS.2.1 (e / 10 % 10) (by omega)).2 _ hA', (hS.2.1 (e % 10) (by omega)).2 _ hA', q1, q2, zi_eq, show ¬ 0 = 1 by decide, show ¬ 0 = 2 by decide, zsub_pos, zsub_0]
    exact g
  · have g := fin (aP T W e) (aP T W c) (by omega) (by omega)
    have q1 : f9_amount (zi (W (4 + c / 10 % 10) (tA T W (c / 100))) - zi (W (4 + c % 10) (tA T W (c / 100)))) μ = some (0, zi (aP T W c), μ) := m_amount (by omega) (by omega)
    have q2 : f9_amount (zi (W (4 + e / 10 % 10) (tA T W (e / 100))) - zi (W (4 + e % 10) (tA T W (e / 100)))) μ = some (0, zi (aP T W e), μ) := m_amount (by omega) (by omega)
    simp (disch := omega) only [zlet_e', zlit', zi_div, zrem_i, zin_i, zi_cl, w1, w2, zi_le, show ¬ 2 ≤ 1 by decide, if_false, if_true, m_asked hT hW hM hS c1, m_asked hT hW hM hS e1, bnd0_ok', (hS.2.1 (c / 10 % 10) (by omega)).2 _ hA, (hS.2.1 (c % 10) (by omega)).2 _ hA, (hS.2.1 (e / 10 % 10) (by omega)).2 _ hA', (hS.2.1 (e % 10) (by omega)).2 _ hA', q1, q2, zsub_pos, zsub_0]
    exact g
  · have g := fin (aL W e) (aL W c) (by unfold aL; omega) (by unfold aL; omega)
    unfold aL at g
    simp (disch := omega) only [zlet_e', zlit', zi_div, zrem_i, zin_i, zi_cl, w1, w2, zi_le, Nat.le_refl, if_false, if_true, hS.2.2.1 _ c2, hS.2.2.1 _ c3, hS.2.2.1 _ e2, hS.2.2.1 _ e3, zi_add, zi_eq, show ¬ 2 = 1 by decide, zsub_pos, zsub_0]
    exact g
  · have g := fin (T 8 (c / 100) * T 9 (e / 100)) (T 8 (e / 100) * T 9 (c / 100)) (by omega) (by omega)
    simp (disch := omega) only [zlet_e', zlit', zi_div, zrem_i, zin_i, zi_cl, w1, w2, m1, m2, zi_le, show 2 ≤ 3 by decide, if_false, if_true, zi_eq, show ¬ 3 = 2 by decide, show ¬ 3 = 1 by decide, zi_mul, zsub_pos, zsub_0]
    exact g
/-- one more WORK is looked at -/
def rS (T W : zN2) (r c : Nat) (b : Option Nat) : Option Nat := if tE T W (c / 100) (c / 10 % 10) (c % 10) = 0 then (match b with
  | none => some c
  | some e => if ahd T W r c e = true then some c else some e) else b
def rC (T W : zN2) (r : Nat) : Option Nat := zcand (T 2 2) (T 2 1) (rS T W r) none
def oI (b : Option Nat) : Int32 := match b with
  | none => zN1
  | some c => zi c
theorem m_chosen {T W : zN2} {μ : zMem} (hT : TB T) (hW : WB T W) (hP : W 0 3 = T 2 1) (hM : MT T μ) (hS : MS T W μ) {r : Nat} (hr : r < 4) : f9_chosen (zi r) μ = some (0, oI (rC T W r), μ) ∧ ∀ c, rC T W r = some c → cok T c ∧ c < 1000 ∧ tE T W (c / 100) (c / 10 % 10) (c % 10) = 0 := by
  have hD := hT.2.2.1
  have hPP := hT.2.1
  obtain ⟨e1, e2⟩ := zloopF (L := fun n i (b : Option Nat) => f9_chosen_L4 (zi r) (fun (x2_31 : Int32) (μ32 : zMem) => some (0, x2_31, μ32)) n (oI b) (zi i) μ) (N := 64 * T 2 2)
    (F := fun v s => if v / 8 % 8 < v % 8 ∧ v % 8 < T 2 1 then rS T W r (100 * (v / 64) + 10 * (v / 8 % 8) + v % 8) s else s) (o := fun b => some (0, oI b, μ)) (fun _ b => ∀ c, b = some c → cok T c ∧ c < 1000 ∧ tE T W (c / 100) (c / 10 % 10) (c % 10) = 0)
    (fun n b _ => by simp (disch := omega) only [f9_chosen_L4, zlit', zin_i, zi_cl, hM.1.2.2.1, zi_mul, zi_le, Nat.le_refl, if_true])
    (fun n v b hv hb => by
      have q1 : (100 * (v / 64) + 10 * (v / 8 % 8) + v % 8) / 100 = v / 64 := by omega
      have q2 : (100 * (v / 64) + 10 * (v / 8 % 8) + v % 8) / 10 % 10 = v / 8 % 8 := by omega
      have q3 : (100 * (v / 64) + 10 * (v / 8 % 8) + v % 8) % 10 = v % 8 := by omega
      have hvd : v / 64 < T 2 2 := by omega
      by_cases h1 : v / 8 % 8 < v % 8 ∧ v % 8 < T 2 1
      · simp only [if_pos h1]
        have hck : cok T (100 * (v / 64) + 10 * (v / 8 % 8) + v % 8) := ⟨by rw [q1]; exact hvd, by rw [q2]; omega, by rw [q3]; omega⟩
        have hcan := m_canBe hT hW hM hS hvd (show v / 8 % 8 < W 0 3 by omega) (show v % 8 < W 0 3 by omega)
        refine ⟨?_, ?_⟩
        · simp (disch := omega) only [f9_chosen_L4, f9_coded, ↓zneg1', zlit', zin_i, zi_cl, hM.1.2.2.1, hM.1.2.1, zi_mul, zi_le, show ¬ 64 * T 2 2 ≤ v by omega, if_false, zlet_e', zi_div, zrem_i, show ¬ v % 8 ≤ v / 8 % 8 by omega, show ¬ T 2 1 ≤ v % 8 by omega, hcan, bnd0_ok', zi_add]
          unfold rS
          rw [q1, q2, q3]
          by_cases h2 : tE T W (v / 64) (v / 8 % 8) (v % 8) = 0
          · simp only [h2, if_true, if_false, ite_true, ite_false, Bool.false_eq_true, Bool.true_eq_false, reduceIte, z10, z01, Nat.one_ne_zero, Nat.zero_ne_one]
            cases b with
            | none => simp only [oI, if_true]
            | some e =>
              obtain ⟨k1, k2, k3⟩ := hb e rfl
              simp (disch := omega) only [oI, zi_nN1, if_false, m_isAhead hT hW hP hM hS hr hck k1, bnd0_ok']
              unfold b01
              cases ahd T W r (100 * (v / 64) + 10 * (v / 8 % 8) + v % 8) e
              · simp only [if_true, if_false, ite_true, ite_false, Bool.false_eq_true, Bool.true_eq_false, reduceIte, z10, z01, Nat.one_ne_zero, Nat.zero_ne_one]
              · simp only [if_true, if_false, ite_true, ite_false, Bool.false_eq_true, Bool.true_eq_false, reduceIte, z10, z01, Nat.one_ne_zero, Nat.zero_ne_one]
          · simp only [h2, if_true, if_false, ite_true, ite_false, Bool.false_eq_true, Bool.true_eq_false, reduceIte, z10, z01, Nat.one_ne_zero, Nat.zero_ne_one]
        · intro c hc
          unfold rS at hc
          rw [q1, q2, q3] at hc
          by_cases h2 : tE T W (v / 64) (v / 8 % 8) (v % 8) = 0
          · rw [if_pos h2] at hc
            have hnew : cok T (100 * (v / 64) + 10 * (v / 8 % 8) + v % 8) ∧ 100 * (v / 64) + 10 * (v / 8 % 8) + v % 8 < 1000 ∧ tE T W ((100 * (v / 64) + 10 * (v / 8 % 8) + v % 8) / 100) ((100 * (v / 64) + 10 * (v / 8 % 8) + v % 8) / 10 % 10) ((100 * (v / 64) + 10 * (v / 8 % 8) + v % 8) % 10) = 0 := ⟨hck, by omega, by rw [q1, q2, q3]; exact h2⟩
            cases b with
            | none =>
              have hc : some (100 * (v / 64) + 10 * (v / 8 % 8) + v % 8) = some c := hc
              rw [← Option.some.inj hc]; exact hnew
            | some e =>
              have hc : (if ahd T W r (100 * (v / 64) + 10 * (v / 8 % 8) + v % 8) e = true then some (100 * (v / 64) + 10 * (v / 8 % 8) + v % 8) else some e) = some c := hc
              split at hc
              · rw [← Option.some.inj hc]; exact hnew
              · exact hb c hc
          · rw [if_neg h2] at hc; exact hb c hc
      · simp only [if_neg h1]
        refine ⟨?_, hb⟩
        by_cases h2 : v % 8 ≤ v / 8 % 8
        · simp (disch := omega) only [f9_chosen_L4, zlit', zin_i, zi_cl, hM.1.2.2.1, zi_mul, zi_le, show ¬ 64 * T 2 2 ≤ v by omega, if_false, zlet_e', zi_div, zrem_i, h2, if_true, zi_add]
        · simp (disch := omega) only [f9_chosen_L4, zlit', zin_i, zi_cl, hM.1.2.2.1, hM.1.2.1, zi_mul, zi_le, show ¬ 64 * T 2 2 ≤ v by omega, if_false, zlet_e', zi_div, zrem_i, h2, show T 2 1 ≤ v % 8 by omega, if_true, zi_add])
    (64 * T 2 2) 0 none zF (by omega) (by unfold zF; omega) (fun c hc => by cases hc)
  rw [zit_cand hPP] at e1 e2
  refine ⟨?_, e2⟩
  unfold f9_chosen
  simp only [↓zneg1', zlit']
  exact e1
