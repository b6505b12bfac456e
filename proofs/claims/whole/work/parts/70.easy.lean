/-! THE PURE SIDE, 10: the calls that are alike nearly as they stand -/
def c0 : Nat → Nat := fun _ => 0
def cI : Nat → Nat := fun e => if e = 1 then 1 else 0
def cNI : Nat → Nat := fun e => if e = 2 then 1 else if e = 1 then 2 else 0
def cBI : Nat → Nat := fun e => if e = 3 then 1 else if e = 1 then 2 else 0
def cBN : Nat → Nat := fun e => if e = 3 then 1 else if e = 2 then 2 else 0
def cS : Nat → Nat := fun e => if e = 4 then 1 else 0
def cBNI : Nat → Nat := fun e => if e = 3 then 1 else if e = 2 then 2 else if e = 1 then 3 else 0
def cIB : Nat → Nat := fun e => if e = 1 then 1 else if e = 3 then 2 else 0
theorem P_fault {μX μM : zMem} (h : zInv μX μM) : zPm c0 (f8_fault μX) (f9_fault μM) := by
  have h' := h
  obtain ⟨T, W, r, R, n, m, WI, rI, RI, hL, ht, hf, hi⟩ := h
  refine zPm_q h' rfl rfl zset_00 (fun _ => ?_) (Or.inl rfl) zfr.refl zmq_0
  rw [zset_nj (by decide)]; exact hf
theorem P_thinks {x y : Int32} {μX μM : zMem} (h : zInv μX μM) : zPm cNI (f8_thinks x y μX) (f9_thinks x y μM) := by
  have h' := h
  obtain ⟨T, W, r, R, n, m, WI, rI, RI, ⟨hT, hW, hL, hX, hM, hS, hS', -⟩, -⟩ := h
  have hP := hT.2.1
  have hQ := hT.1
  have hM0 := MT_0 (v := zi 0) hT hM
  have e00 : zset μM 0 0 (zi 0) 0 0 = zi 0 := zset_00
  rcases zcase x (T 2 1) (by omega) with ⟨p, hp, rfl⟩ | hx
  · rcases zcase y (T 2 0) (by omega) with ⟨q, hq, rfl⟩ | hy
    · have hpW : p < W 0 3 := by rw [hL.2.2.1]; exact hp
      refine zPm_q h' (μX' := μX) (μM' := zset μM 0 0 (zi 0)) (e := 0) (v := zi (W (4 + p) q)) (w := zi (W (4 + p) q)) ?_ ?_ zset_00 (fun _ => rfl) (Or.inl rfl) zfr.refl zmq_0
      · unfold f8_thinks
        simp only [x_needP_ok hT hX hp, x_needQ_ok hT hX hq, bnd_ok, x_thought hT hW hS hpW hq, bnd0_ok]
      · unfold f9_thinks
        simp (disch := omega) only [zlet_e, zlit, m_isP_ok hT hM0 hp, m_isQ_ok hT hM0 hq, bnd0_ok, m_bad0 e00, if_true, if_false, ite_true, ite_false, Bool.false_eq_true, Bool.true_eq_false, reduceIte, z10, z01, Nat.one_ne_zero, Nat.zero_ne_one, zin_i, zi_cl, zset_nk, (hS'.2.1 p hpW).2 q hq]
    · refine zPm_q h' (μX' := μX) (μM' := zset (zset μM 0 0 (zi 0)) 0 0 (zi 2)) (e := 1) (v := zi 0) (w := zi 0) ?_ ?_ zset_00 (fun _ => rfl) (Or.inr (by decide)) zfr.refl zmq_00
      · unfold f8_thinks
        simp only [x_needP_ok hT hX hp, x_needQ_no hX hy, bnd_ok, bnd_ex (e := 0)]
      · unfold f9_thinks
        simp (disch := omega) only [zlet_e, zlit, m_isP_ok hT hM0 hp, m_isQ_no hT hM0 hy, bnd0_ok, m_bad0 e00, m_bad1 e00, if_true, if_false, ite_true, ite_false, Bool.false_eq_true, Bool.true_eq_false, reduceIte, z10, z01, Nat.one_ne_zero, Nat.zero_ne_one]
  · refine zPm_q h' (μX' := μX) (μM' := zset (zset μM 0 0 (zi 0)) 0 0 (zi 1)) (e := 2) (v := zi 0) (w := zi 0) ?_ ?_ zset_00 (fun h => absurd h (by decide)) (Or.inr (by decide)) zfr.refl zmq_00
    · unfold f8_thinks
      simp only [x_needP_no hX hx, bnd_ex (e := 1)]
    · unfold f9_thinks
      simp (disch := omega) only [zlet_e, zlit, m_isP_no hT hM0 hx, bnd0_ok, m_bad1 e00, if_true, if_false, ite_true, ite_false, Bool.false_eq_true, Bool.true_eq_false, reduceIte, z10, z01, Nat.one_ne_zero, Nat.zero_ne_one]
theorem P_slate {x : Int32} {μX μM : zMem} (h : zInv μX μM) : zPm cI (f8_slate x μX) (f9_slate x μM) := by
  have h' := h
  obtain ⟨T, W, r, R, n, m, WI, rI, RI, ⟨hT, hW, hL, hX, hM, hS, hS', h30, -⟩, -⟩ := h
  have hM0 := MT_0 (v := zi 0) hT hM
  have hSl := hT.2.2.2.2.2.1
  have e00 : zset μM 0 0 (zi 0) 0 0 = zi 0 := zset_00
  rcases zcase x 30 (by omega) with ⟨p, hp, rfl⟩ | hx
  · refine zPm_q h' (μX' := μX) (μM' := zset μM 0 0 (zi 0)) (e := 0) (v := zi (tS T p)) (w := zi (tS T p)) ?_ ?_ zset_00 (fun _ => rfl) (Or.inl rfl) zfr.refl zmq_0
    · unfold f8_slate
      simp (disch := omega) only [x_needDay_ok hp, bnd_ok, x_slateOf hT hX, bnd0_ok]
    · unfold f9_slate f9_slateOf tS
      simp (disch := omega) only [zlet_e, zlit, ↓zneg1, m_inn_o, bnd0_ok, m_bad0 e00, if_true, if_false, ite_true, ite_false, Bool.false_eq_true, Bool.true_eq_false, reduceIte, z10, z01, Nat.one_ne_zero, Nat.zero_ne_one, zset_nj, h30, zin_i, zi_cl, zset_nk, hM.1.2.2.2.2, zi_eq]
      by_cases hz : T 2 5 = 0
      · simp (disch := omega) only [hz, if_true, bnd0_ok]
      · have hm : p % T 2 5 < T 2 5 := Nat.mod_lt _ (by omega)
        simp (disch := omega) only [hz, if_false, znz_i, zrem_i, zin_i, zi_cl, hM.2.1 _ hm, bnd0_ok]
  · refine zPm_q h' (μX' := μX) (μM' := zset (zset μM 0 0 (zi 0)) 0 0 (zi 1)) (e := 1) (v := zi 0) (w := zi 0) ?_ ?_ zset_00 (fun h => absurd h (by decide)) (Or.inr (by decide)) zfr.refl zmq_00
    · unfold f8_slate
      simp only [x_needDay_no hx, bnd_ex (e := 0)]
    · unfold f9_slate
      simp (disch := omega) only [zlet_e, zlit, m_inn_c (show 29 < 1000 by decide) hx, bnd0_ok, m_bad1 e00, if_true, if_false, ite_true, ite_false, Bool.false_eq_true, Bool.true_eq_false, reduceIte, z10, z01, Nat.one_ne_zero, Nat.zero_ne_one]
theorem tE_lt {T W : zN2} {d a b : Nat} : tE T W d a b < 6 := by
  unfold tE; repeat' split
  all_goals decide
theorem P_may {x y z : Int32} {μX μM : zMem} (h : zInv μX μM) : zPm cBN (f8_may x y z μX) (f9_may x y z μM) := by
  have h' := h
  obtain ⟨T, W, r, R, n, m, WI, rI, RI, ⟨hT, hW, hL, hX, hM, hS, hS', h30, -⟩, -⟩ := h
  have hP := hT.2.1
  have hD := hT.2.2.1
  have hM0 := MT_0 (v := zi 0) hT hM
  have hS0 := MS_0 (v := zi 0) hT hW hS'
  have e00 : zset μM 0 0 (zi 0) 0 0 = zi 0 := zset_00
  rcases zcase x (T 2 2) (by omega) with ⟨d, hd, rfl⟩ | hx
  · rcases zcase y (T 2 1) (by omega) with ⟨a, ha, rfl⟩ | hy
    · rcases zcase z (T 2 1) (by omega) with ⟨b, hb, rfl⟩ | hz
      · have haW : a < W 0 3 := by rw [hL.2.2.1]; exact ha
        have hbW : b < W 0 3 := by rw [hL.2.2.1]; exact hb
        refine zPm_q h' (μX' := μX) (μM' := zset μM 0 0 (zi 0)) (e := 0) (v := zi (tE T W d a b)) (w := zi (tE T W d a b)) ?_ ?_ zset_00 (fun _ => rfl) (Or.inl rfl) zfr.refl zmq_0
        · unfold f8_may
          simp only [x_needD_ok hT hX hd, x_needP_ok hT hX ha, x_needP_ok hT hX hb, bnd_ok, x_errs hT hW hX hS hd haW hbW, bnd0_ok]
        · unfold f9_may
          simp (disch := omega) only [zlet_e, zlit, m_badWork_ok hT hM0 e00 hd ha hb, bnd0_ok, if_true, if_false, ite_true, ite_false, Bool.false_eq_true, Bool.true_eq_false, reduceIte, z10, z01, Nat.one_ne_zero, Nat.zero_ne_one, m_errs hT hW hM0 hS0 hd haW hbW]
      · refine zPm_q h' (μX' := μX) (μM' := zset (zset μM 0 0 (zi 0)) 0 0 (zi 2)) (e := 2) (v := zi 0) (w := zi 0) ?_ ?_ zset_00 (fun h => absurd h (by decide)) (Or.inr (by decide)) zfr.refl zmq_00
        · unfold f8_may
          simp only [x_needD_ok hT hX hd, x_needP_ok hT hX ha, x_needP_no hX hz, bnd_ok, bnd_ex (e := 1)]
        · unfold f9_may
          simp (disch := omega) only [zlet_e, zlit, m_badWork_p hT hM0 e00 hd (Or.inr hz), bnd0_ok, if_true, if_false, ite_true, ite_false, Bool.false_eq_true, Bool.true_eq_false, reduceIte, z10, z01, Nat.one_ne_zero, Nat.zero_ne_one]
    · refine zPm_q h' (μX' := μX) (μM' := zset (zset μM 0 0 (zi 0)) 0 0 (zi 2)) (e := 2) (v := zi 0) (w := zi 0) ?_ ?_ zset_00 (fun h => absurd h (by decide)) (Or.inr (by decide)) zfr.refl zmq_00
      · unfold f8_may
        simp only [x_needD_ok hT hX hd, x_needP_no hX hy, bnd_ok, bnd_ex (e := 1)]
      · unfold f9_may
        simp (disch := omega) only [zlet_e, zlit, m_badWork_p hT hM0 e00 hd (Or.inl hy), bnd0_ok, if_true, if_false, ite_true, ite_false, Bool.false_eq_true, Bool.true_eq_false, reduceIte, z10, z01, Nat.one_ne_zero, Nat.zero_ne_one]
  · refine zPm_q h' (μX' := μX) (μM' := zset (zset μM 0 0 (zi 0)) 0 0 (zi 1)) (e := 3) (v := zi 0) (w := zi 0) ?_ ?_ zset_00 (fun h => absurd h (by decide)) (Or.inr (by decide)) zfr.refl zmq_00
    · unfold f8_may
      simp only [x_needD_no hX hx, bnd_ex (e := 2)]
    · unfold f9_may
      simp (disch := omega) only [zlet_e, zlit, m_badWork_d hT hM0 e00 hx, bnd0_ok, if_true, if_false, ite_true, ite_false, Bool.false_eq_true, Bool.true_eq_false, reduceIte, z10, z01, Nat.one_ne_zero, Nat.zero_ne_one]
