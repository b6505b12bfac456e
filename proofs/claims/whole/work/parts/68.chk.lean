/-! THE PURE SIDE, 9: the checks of arguments, on -/
theorem x_needP_ok {T : zN2} {μ : zMem} (hT : TB T) (hX : XT T μ) {p : Nat} (hp : p < T 2 1) : f8_needPerson (zi p) μ = some (0, zi 0, μ) := by
  have hP := hT.2.1
  unfold f8_needPerson f8_isPerson
  simp (disch := omega) only [zlet_e, zlit, zi_lt, hX.1.2.1, zi_le, Nat.not_lt_zero, if_false, if_true, show ¬ T 2 1 ≤ p by omega, hp, zbl_1, bnd0_ok, z10]
theorem x_needP_no {T : zN2} {μ : zMem} (hX : XT T μ) {x : Int32} (h : x < zi 0 ∨ zi (T 2 1) ≤ x) : f8_needPerson x μ = some (2, zi 0, μ) := by
  unfold f8_needPerson f8_isPerson
  by_cases h1 : x < zi 0
  · simp (disch := omega) only [zlet_e, zlit, h1, if_true, zbl_0, bnd0_ok]
  · have h2 := h.resolve_left h1
    have h3 : ¬ x < zi (T 2 1) := fun q => absurd (Int32.lt_of_le_of_lt h2 q) Int32.lt_irrefl
    simp (disch := omega) only [zlet_e, zlit, h1, hX.1.2.1, h2, h3, if_true, if_false, zbl_0, bnd0_ok]
theorem x_needD_ok {T : zN2} {μ : zMem} (hT : TB T) (hX : XT T μ) {p : Nat} (hp : p < T 2 2) : f8_needDoor (zi p) μ = some (0, zi 0, μ) := by
  have hP := hT.2.2.1
  unfold f8_needDoor
  simp (disch := omega) only [zlet_e, zlit, zi_lt, hX.1.2.2.1, Nat.not_lt_zero, if_false, if_true, hp]
theorem x_needD_no {T : zN2} {μ : zMem} (hX : XT T μ) {x : Int32} (h : x < zi 0 ∨ zi (T 2 2) ≤ x) : f8_needDoor x μ = some (3, zi 0, μ) := by
  unfold f8_needDoor
  by_cases h1 : x < zi 0
  · simp (disch := omega) only [zlet_e, zlit, h1, if_true]
  · have h2 := h.resolve_left h1
    have h3 : ¬ x < zi (T 2 2) := fun q => absurd (Int32.lt_of_le_of_lt h2 q) Int32.lt_irrefl
    simp (disch := omega) only [zlet_e, zlit, h1, hX.1.2.2.1, h3, if_false]
theorem x_needQ_ok {T : zN2} {μ : zMem} (hT : TB T) (hX : XT T μ) {p : Nat} (hp : p < T 2 0) : f8_needQuestion (zi p) μ = some (0, zi 0, μ) := by
  have hP := hT.1
  unfold f8_needQuestion
  simp (disch := omega) only [zlet_e, zlit, zi_lt, hX.1.1, Nat.not_lt_zero, if_false, if_true, hp]
theorem x_needQ_no {T : zN2} {μ : zMem} (hX : XT T μ) {x : Int32} (h : x < zi 0 ∨ zi (T 2 0) ≤ x) : f8_needQuestion x μ = some (1, zi 0, μ) := by
  unfold f8_needQuestion
  by_cases h1 : x < zi 0
  · simp (disch := omega) only [zlet_e, zlit, h1, if_true]
  · have h2 := h.resolve_left h1
    have h3 : ¬ x < zi (T 2 0) := fun q => absurd (Int32.lt_of_le_of_lt h2 q) Int32.lt_irrefl
    simp (disch := omega) only [zlet_e, zlit, h1, hX.1.1, h3, if_false]
theorem x_needW_ok {μ : zMem} {p n : Nat} (hp : p < n + 1) (hn : n < 1000) : f8_needWhat (zi p) (zi n) μ = some (0, zi 0, μ) := by
  unfold f8_needWhat
  simp (disch := omega) only [zlet_e, zlit, zi_lt, zi_le, Nat.not_lt_zero, if_false, if_true, show p ≤ n by omega]
theorem x_needW_no {μ : zMem} {x : Int32} {n : Nat} (hn : n < 1000) (h : x < zi 0 ∨ zi (n + 1) ≤ x) : f8_needWhat x (zi n) μ = some (1, zi 0, μ) := by
  unfold f8_needWhat
  by_cases h1 : x < zi 0
  · simp (disch := omega) only [zlet_e, zlit, h1, if_true]
  · have h2 := h.resolve_left h1
    have h3 : ¬ x ≤ zi n := fun q => by
      have := Int32.le_trans h2 q
      rw [zi_le (by omega) (by omega)] at this
      omega
    simp (disch := omega) only [zlet_e, zlit, h1, h3, if_false]
theorem x_needDay_ok {μ : zMem} {p : Nat} (hp : p < 30) : f8_needDay (zi p) μ = some (0, zi 0, μ) := by
  unfold f8_needDay
  simp (disch := omega) only [zlet_e, zlit, zi_lt, Nat.not_lt_zero, if_false, if_true, hp]
theorem x_needDay_no {μ : zMem} {x : Int32} (h : x < zi 0 ∨ zi 30 ≤ x) : f8_needDay x μ = some (1, zi 0, μ) := by
  unfold f8_needDay
  by_cases h1 : x < zi 0
  · simp (disch := omega) only [zlet_e, zlit, h1, if_true]
  · have h2 := h.resolve_left h1
    have h3 : ¬ x < zi 30 := fun q => absurd (Int32.lt_of_le_of_lt h2 q) Int32.lt_irrefl
    simp (disch := omega) only [zlet_e, zlit, h1, h3, if_false]
theorem x_needRule_ok {μ : zMem} {p : Nat} (hp : p < 4) : f8_needRule (zi p) μ = some (0, zi 0, μ) := by
  unfold f8_needRule
  simp (disch := omega) only [zlet_e, zlit, zi_lt, Nat.not_lt_zero, if_false, if_true, hp]
theorem x_needRule_no {μ : zMem} {x : Int32} (h : x < zi 0 ∨ zi 4 ≤ x) : f8_needRule x μ = some (1, zi 0, μ) := by
  unfold f8_needRule
  by_cases h1 : x < zi 0
  · simp (disch := omega) only [zlet_e, zlit, h1, if_true]
  · have h2 := h.resolve_left h1
    have h3 : ¬ x < zi 4 := fun q => absurd (Int32.lt_of_le_of_lt h2 q) Int32.lt_irrefl
    simp (disch := omega) only [zlet_e, zlit, h1, h3, if_false]
/-- what in() says of a number below P -/
theorem m_in_c {x : Int32} {P : Nat} {μ : zMem} (hP : P < 1000) (hx : x < zi 0 ∨ zi P ≤ x) : f9_in x (zi 0) (zi P - zi 1) μ = some (0, zi 0, μ) := by
  apply m_in_no
  rcases hx with h | h
  · exact Or.inl h
  · exact Or.inr (by rw [zsub1_lt hP]; exact h)
theorem m_in_o {p P : Nat} {μ : zMem} (hP : P < 1000) (hp : p < P) : f9_in (zi p) (zi 0) (zi P - zi 1) μ = some (0, zi 1, μ) := by
  apply m_in_ok
  · rw [zi_lt (by omega) (by omega)]; omega
  · rw [zsub1_lt hP, zi_le (by omega) (by omega)]; omega
/-- .. and of one up to n -/
theorem m_inn_c {x : Int32} {n : Nat} {μ : zMem} (hn : n < 1000) (hx : x < zi 0 ∨ zi (n + 1) ≤ x) : f9_in x (zi 0) (zi n) μ = some (0, zi 0, μ) := by
  apply m_in_no
  rcases hx with h | h
  · exact Or.inl h
  · refine Or.inr (Int32.lt_of_lt_of_le ?_ h)
    rw [zi_lt (by omega) (by omega)]; omega
theorem m_inn_o {p n : Nat} {μ : zMem} (hn : n < 1000) (hp : p < n + 1) : f9_in (zi p) (zi 0) (zi n) μ = some (0, zi 1, μ) := by
  apply m_in_ok
  · rw [zi_lt (by omega) (by omega)]; omega
  · rw [zi_lt (by omega) (by omega)]; omega
theorem m_isP_ok {T : zN2} {μ : zMem} (hT : TB T) (hM : MT T μ) {p : Nat} (hp : p < T 2 1) : f9_isPerson (zi p) μ = some (0, zi 1, μ) := by
  have hP := hT.2.1
  unfold f9_isPerson
  simp (disch := omega) only [zlit, zin_i, zi_cl, hM.1.2.1, m_in_o, bnd0_ok, zbl_1]
theorem m_isP_no {T : zN2} {μ : zMem} (hT : TB T) (hM : MT T μ) {x : Int32} (h : x < zi 0 ∨ zi (T 2 1) ≤ x) : f9_isPerson x μ = some (0, zi 0, μ) := by
  have hP := hT.2.1
  unfold f9_isPerson
  simp (disch := omega) only [zlit, zin_i, zi_cl, hM.1.2.1, m_in_c (show T 2 1 < 1000 by omega) h, bnd0_ok, zbl_0]
theorem m_isQ_ok {T : zN2} {μ : zMem} (hT : TB T) (hM : MT T μ) {p : Nat} (hp : p < T 2 0) : f9_isAsked (zi p) μ = some (0, zi 1, μ) := by
  have hP := hT.1
  unfold f9_isAsked
  simp (disch := omega) only [zlit, zin_i, zi_cl, hM.1.1, m_in_o, bnd0_ok, zbl_1]
theorem m_isQ_no {T : zN2} {μ : zMem} (hT : TB T) (hM : MT T μ) {x : Int32} (h : x < zi 0 ∨ zi (T 2 0) ≤ x) : f9_isAsked x μ = some (0, zi 0, μ) := by
  have hP := hT.1
  unfold f9_isAsked
  simp (disch := omega) only [zlit, zin_i, zi_cl, hM.1.1, m_in_c (show T 2 0 < 1000 by omega) h, bnd0_ok, zbl_0]
theorem m_isD_ok {T : zN2} {μ : zMem} (hT : TB T) (hM : MT T μ) {p : Nat} (hp : p < T 2 2) : f9_isDoor (zi p) μ = some (0, zi 1, μ) := by
  have hP := hT.2.2.1
  unfold f9_isDoor
  simp (disch := omega) only [zlit, zin_i, zi_cl, hM.1.2.2.1, m_in_o, bnd0_ok, zbl_1]
theorem m_isD_no {T : zN2} {μ : zMem} (hT : TB T) (hM : MT T μ) {x : Int32} (h : x < zi 0 ∨ zi (T 2 2) ≤ x) : f9_isDoor x μ = some (0, zi 0, μ) := by
  have hP := hT.2.2.1
  unfold f9_isDoor
  simp (disch := omega) only [zlit, zin_i, zi_cl, hM.1.2.2.1, m_in_c (show T 2 2 < 1000 by omega) h, bnd0_ok, zbl_0]
theorem m_badWork_ok {T : zN2} {μ : zMem} (hT : TB T) (hM : MT T μ) (h0 : μ 0 0 = zi 0) {d a b : Nat} (hd : d < T 2 2) (ha : a < T 2 1) (hb : b < T 2 1) : f9_badWork (zi d) (zi a) (zi b) μ = some (0, zi 0, μ) := by
  unfold f9_badWork
  simp (disch := omega) only [m_isD_ok hT hM hd, m_isP_ok hT hM ha, m_isP_ok hT hM hb, bnd0_ok, zlet_e, zlit, if_true, if_false, ite_true, ite_false, Bool.false_eq_true, Bool.true_eq_false, reduceIte, z10, z01, m_bad0 h0, zbl_0]
theorem m_badWork_d {T : zN2} {μ : zMem} (hT : TB T) (hM : MT T μ) (h0 : μ 0 0 = zi 0) {x y z : Int32} (hd : x < zi 0 ∨ zi (T 2 2) ≤ x) : f9_badWork x y z μ = some (0, zi 1, zset μ 0 0 (zi 1)) := by
  unfold f9_badWork
  simp (disch := omega) only [m_isD_no hT hM hd, bnd0_ok, zlet_e, zlit, if_true, if_false, ite_true, ite_false, Bool.false_eq_true, Bool.true_eq_false, reduceIte, z10, z01, m_bad1 h0, zbl_1]
theorem m_badWork_p {T : zN2} {μ : zMem} (hT : TB T) (hM : MT T μ) (h0 : μ 0 0 = zi 0) {d : Nat} {y z : Int32} (hd : d < T 2 2) (hp : (y < zi 0 ∨ zi (T 2 1) ≤ y) ∨ (z < zi 0 ∨ zi (T 2 1) ≤ z)) : f9_badWork (zi d) y z μ = some (0, zi 1, zset μ 0 0 (zi 2)) := by
  have hP := hT.2.1
  unfold f9_badWork
  rcases zcase y (T 2 1) (by omega) with ⟨a, ha, rfl⟩ | hy
  · have hz : z < zi 0 ∨ zi (T 2 1) ≤ z := by
      rcases hp with hp | hp
      · rw [zi_lt (by omega) (by omega), zi_le (by omega) (by omega)] at hp; omega
      · exact hp
    simp (disch := omega) only [m_isD_ok hT hM hd, m_isP_ok hT hM ha, m_isP_no hT hM hz, bnd0_ok, zlet_e, zlit, if_true, if_false, ite_true, ite_false, Bool.false_eq_true, Bool.true_eq_false, reduceIte, z10, z01, m_bad0 h0, m_bad1 h0, zbl_1]
  · simp (disch := omega) only [m_isD_ok hT hM hd, m_isP_no hT hM hy, bnd0_ok, zlet_e, zlit, if_true, if_false, ite_true, ite_false, Bool.false_eq_true, Bool.true_eq_false, reduceIte, z10, z01, m_bad0 h0, m_bad1 h0, zbl_1]
/-- the reference's memory at a call's beginning -/
theorem MT_0 {T : zN2} {μ : zMem} {v : Int32} (hT : TB T) (hM : MT T μ) : MT T (zset μ 0 0 v) := MT_q zmq_thr.2.2 hT hM
theorem MS_0 {T W : zN2} {μ : zMem} {v : Int32} (hT : TB T) (hW : WB T W) (hS : MS T W μ) : MS T W (zset μ 0 0 v) := MS_q zmq_thr hT hW hS
theorem zmq_0 {μ : zMem} {v : Int32} : zmq μ (zset μ 0 0 v) := zmq_thr
theorem zmq_00 {μ : zMem} {v w : Int32} : zmq μ (zset (zset μ 0 0 v) 0 0 w) := zmq_thr.trans zmq_thr
theorem zset_00 {μ : zMem} {v : Int32} : zset μ 0 0 v 0 0 = v := zset_eq
