/-! THE PURE SIDE, 37: the class's seeker -/
def xQ (s : qT) (μ : zMem) : Prop := μ 58 3 = zi s.1 ∧ μ 58 4 = s.2.1 ∧ μ 58 5 = s.2.2
def f57 (μ μ' : zMem) : Prop := zfr (fun k => k = 58) μ μ'
theorem x_second {T V : zN2} {μ : zMem} (hT : TB T) (hW : WB T V) (hP : V 0 3 = T 2 1) (hX : XT T μ) (hS : XS T V 64 μ) {had : Nat} {fw : Int32} {s : qT} (hh : had ≤ 99) (hs1 : s.1 ≤ 200) (hs : xQ s μ) (K : zMem → zRes) :
    ∃ μ', f6_seekSecond_L24 fw (zi had) K zF (zi 0) μ = K μ' ∧ xQ (qB T V had fw s) μ' ∧ (qB T V had fw s).1 ≤ 200 ∧ f57 μ μ' := by
  have hD := hT.2.2.1
  rw [← qS_qB hT]
  obtain ⟨μ', a1, a2, a3, a4⟩ := zloopS (L := fun n i m => f6_seekSecond_L24 fw (zi had) K n (zi i) m) (N := T 2 2) (o := K) (F := qS T V had fw) (fun _ s m => xQ s m ∧ s.1 ≤ 200 ∧ f57 μ m)
    (fun n m s h => by
      have e : m 2 2 = zi (T 2 2) := by rw [h.2.2 2 (by decide)]; exact hX.1.2.2.1
      rw [f6_seekSecond_L24, if_pos (by rw [e, zi_le (by omega) (by omega)]; exact Nat.le_refl _)])
    (fun n i m s hi h => by
      obtain ⟨⟨h3, h4, h5⟩, hs2, hf⟩ := h
      have hX' : XT T m := XT_of (fun key hk => hf key (by omega)) hX
      have hS' : XS T V 64 m := XS_of (fun key h1 h2 => hf key (by omega)) hS
      have k8 := tb_8 hT i
      have e8 : m 8 (zi i).toNatClampNeg = zi (T 8 i) := by rw [zi_cl (by omega)]; exact (hX'.2.2.2.2 i hi).1
      have hle : ¬ m 2 2 ≤ zi i := by rw [hX'.1.2.2.1, zi_le (by omega) (by omega)]; omega
      have z1 : zi i + (1 : Int32) = zi (i + 1) := zi_add i 1
      unfold qS
      by_cases hc : had + T 8 i ≤ s.1
      · refine ⟨m, ?_, by rw [if_pos hc]; exact ⟨⟨h3, h4, h5⟩, hs2, hf⟩⟩
        rw [f6_seekSecond_L24, if_neg hle, zin_i (by omega) (by omega), zlet_e, if_pos (by rw [e8, h3, zi_add, zi_le (by omega) (by omega)]; exact hc)]
        show zlet _ _ = _
        rw [zlet_e, if_pos rfl, z1]
      · simp only [if_neg hc]
        have hft := x_firstTwo hT hW hP hX' hS' hi
        cases hf2 : fT T V i with
        | none =>
          rw [hf2] at hft
          refine ⟨m, ?_, ⟨h3, h4, h5⟩, hs2, hf⟩
          rw [f6_seekSecond_L24, if_neg hle, zin_i (by omega) (by omega), zlet_e, if_neg (by rw [e8, h3, zi_add, zi_le (by omega) (by omega)]; exact hc), hft, bnd0_ok]
          show zlet _ _ = _
          rw [zlet_e, if_pos (show zN1 = -1 from rfl), z1]
        | some c =>
          rw [hf2] at hft
          obtain ⟨f1, f2, f3⟩ := fT_ok hT hi hf2
          have ecode : (100 : Int32) * zi i + zi (c % 100) = zi c := by rw [show (100 : Int32) = zi 100 from rfl, zi_mul, zi_add, show 100 * i + c % 100 = c by omega]
          refine ⟨zset (zset (zset m 58 3 (zi (had + T 8 i))) 58 4 fw) 58 5 (zi c), ?_, ⟨?_, ?_, zset_eq⟩, ?_, ?_⟩
          · rw [f6_seekSecond_L24, if_neg hle, zin_i (by omega) (by omega), zlet_e, if_neg (by rw [e8, h3, zi_add, zi_le (by omega) (by omega)]; exact hc), hft, bnd0_ok]
            show zlet _ _ = _
            rw [zlet_e, if_neg (show ¬ zi (c % 100) = -1 from by rw [zneg1, zi_nN1 (by omega)]; exact id), zin_i (by omega) (by omega), e8, zi_add, zlet_e, zlet_e, ecode, zlet_e, z1]
          · rw [zset_nj (by decide), zset_nj (by decide), zset_eq]
          · rw [zset_nj (by decide), zset_eq]
          · show had + T 8 i ≤ 200; omega
          · exact ((hf.set rfl).set rfl).set rfl)
    (T 2 2) 0 μ s zF (by omega) (by unfold zF; omega) ⟨hs, hs1, zfr.refl⟩
  exact ⟨μ', a1, a2, a3, a4⟩
theorem x_seekSecond {T V : zN2} {μ : zMem} (hT : TB T) (hW : WB T V) (hP : V 0 3 = T 2 1) (hX : XT T μ) (hS : XS T V 64 μ) {c : Nat} {s : qT} (hc : c / 100 < T 2 2) (hc' : c < 1000) (hs1 : s.1 ≤ 200) (hs : xQ s μ) :
    ∃ μ', f6_seekSecond (zi c) μ = some (0, zi 0, μ') ∧ xQ (qB T V (T 8 (c / 100)) (zi c) s) μ' ∧ (qB T V (T 8 (c / 100)) (zi c) s).1 ≤ 200 ∧ f57 μ μ' := by
  have hD := hT.2.2.1
  obtain ⟨μ', a1, a2, a3, a4⟩ := x_second (had := T 8 (c / 100)) (fw := zi c) hT hW hP hX hS (tb_8 hT _).2 hs1 hs (fun (μ21 : zMem) => some (0, zi 0, μ21))
  refine ⟨μ', ?_, a2, a3, a4⟩
  have hdr : f8_doorOfRow (zi c) μ = some (0, zi (c / 100), μ) := by
    unfold f8_doorOfRow
    simp (disch := omega) only [zlit, zi_div, zrem_i]
    rw [show c / 100 % 10 = c / 100 by omega]
  unfold f6_seekSecond
  rw [zlet_e, if_neg (show ¬ zi c = -1 from by rw [zneg1, zi_nN1 (by omega)]; exact id), hdr, bnd0_ok, zin_i (by omega) (by omega), zi_cl (by omega), (hX.2.2.2.2 _ hc).1]
  exact a1
theorem x_seekSecond0 {T V : zN2} {μ : zMem} (hT : TB T) (hW : WB T V) (hP : V 0 3 = T 2 1) (hX : XT T μ) (hS : XS T V 64 μ) {s : qT} (hs1 : s.1 ≤ 200) (hs : xQ s μ) :
    ∃ μ', f6_seekSecond zN1 μ = some (0, zi 0, μ') ∧ xQ (qB T V 0 zN1 s) μ' ∧ (qB T V 0 zN1 s).1 ≤ 200 ∧ f57 μ μ' := by
  obtain ⟨μ', a1, a2, a3, a4⟩ := x_second (had := 0) (fw := zN1) hT hW hP hX hS (by decide) hs1 hs (fun (μ21 : zMem) => some (0, zi 0, μ21))
  refine ⟨μ', ?_, a2, a3, a4⟩
  unfold f6_seekSecond
  rw [zlet_e, if_pos (show zN1 = -1 from rfl)]
  exact a1
/-- the first WORK -/
def pS (T W : zN2) (d : Nat) (s : qT) : qT := if T 8 d ≤ s.1 then s else (match fT T W d with
  | none => s
  | some c => (T 8 d, zi c, s.2.2))
def pB (T W : zN2) : qT := match bN T W with
  | none => (0, zN1, zN1)
  | some c => (T 8 (c / 100), zi c, zN1)
theorem pS_pB {T W : zN2} (hT : TB T) : zit (pS T W) (T 2 2) 0 (0, zN1, zN1) = pB T W := by
  have key := zit_rel (F := pS T W) (G := dS T W) (fun (s' : qT) (b : Option Nat) => s' = match b with
    | none => (0, zN1, zN1)
    | some c => (T 8 (c / 100), zi c, zN1)) (T 2 2) 0 (0, zN1, zN1) none rfl
    (fun d s' b _ hd h => by
      have k8 := tb_8 hT d
      unfold pS dS
      cases hf : fT T W d with
      | none =>
        simp only
        split <;> exact h
      | some c =>
        have hcd := (fT_ok hT (by omega) hf).1
        cases b with
        | none =>
          have h : s' = (0, zN1, zN1) := h
          rw [h, if_neg (show ¬ T 8 d ≤ 0 by omega)]
          show _ = (T 8 (c / 100), zi c, zN1)
          rw [hcd]
        | some e =>
          have h : s' = (T 8 (e / 100), zi e, zN1) := h
          rw [h]
          by_cases hw : T 8 (e / 100) < T 8 d
          · simp only [hw, if_true]
            rw [if_neg (show ¬ T 8 d ≤ T 8 (e / 100) by omega), hcd]
          · simp only [hw, if_false]
            rw [if_pos (show T 8 d ≤ T 8 (e / 100) by omega)])
  unfold pB
  rw [bN_doors hT]
  exact key
theorem x_seekFirst {T W : zN2} {μ : zMem} (hT : TB T) (hW : WB T W) (hP : W 0 3 = T 2 1) (hX : XT T μ) (hS : XS T W 59 μ) (hs : xQ (0, zN1, zN1) μ) :
    ∃ μ', f6_seekFirst μ = some (0, zi 0, μ') ∧ xQ (pB T W) μ' ∧ (pB T W).1 ≤ 200 ∧ f57 μ μ' := by
  have hD := hT.2.2.1
  rw [← pS_pB hT]
  obtain ⟨μ', a1, a2, a3, a4⟩ := zloopS (L := fun n i m => f6_seekFirst_L2 (fun (μ18 : zMem) => some (0, zi 0, μ18)) n (zi i) m) (N := T 2 2) (o := fun m => some (0, zi 0, m)) (F := pS T W) (fun _ s m => xQ s m ∧ s.1 ≤ 200 ∧ f57 μ m)
    (fun n m s h => by
      have e : m 2 2 = zi (T 2 2) := by rw [h.2.2 2 (by decide)]; exact hX.1.2.2.1
      rw [f6_seekFirst_L2, if_pos (by rw [e, zi_le (by omega) (by omega)]; exact Nat.le_refl _)])
    (fun n i m s hi h => by
      obtain ⟨⟨h3, h4, h5⟩, hs2, hf⟩ := h
      have hX' : XT T m := XT_of (fun key hk => hf key (by omega)) hX
      have hS' : XS T W 59 m := XS_of (fun key h1 h2 => hf key (by omega)) hS
      have k8 := tb_8 hT i
      have e8 : m 8 (zi i).toNatClampNeg = zi (T 8 i) := by rw [zi_cl (by omega)]; exact (hX'.2.2.2.2 i hi).1
      have hle : ¬ m 2 2 ≤ zi i := by rw [hX'.1.2.2.1, zi_le (by omega) (by omega)]; omega
      have z1 : zi i + (1 : Int32) = zi (i + 1) := zi_add i 1
      unfold pS
      by_cases hc : T 8 i ≤ s.1
      · refine ⟨m, ?_, by rw [if_pos hc]; exact ⟨⟨h3, h4, h5⟩, hs2, hf⟩⟩
        rw [f6_seekFirst_L2, if_neg hle, zin_i (by omega) (by omega), zlet_e, if_pos (by rw [e8, h3, zi_le (by omega) (by omega)]; exact hc)]
        show zlet _ _ = _
        rw [zlet_e, if_pos rfl, z1]
      · simp only [if_neg hc]
        have hft := x_firstTwo hT hW hP hX' hS' hi
        cases hf2 : fT T W i with
        | none =>
          rw [hf2] at hft
          refine ⟨m, ?_, ⟨h3, h4, h5⟩, hs2, hf⟩
          rw [f6_seekFirst_L2, if_neg hle, zin_i (by omega) (by omega), zlet_e, if_neg (by rw [e8, h3, zi_le (by omega) (by omega)]; exact hc), hft, bnd0_ok]
          show zlet _ _ = _
          rw [zlet_e, if_pos (show zN1 = -1 from rfl), z1]
        | some c =>
          rw [hf2] at hft
          obtain ⟨f1, f2, f3⟩ := fT_ok hT hi hf2
          have ecode : (100 : Int32) * zi i + zi (c % 100) = zi c := by rw [show (100 : Int32) = zi 100 from rfl, zi_mul, zi_add, show 100 * i + c % 100 = c by omega]
          refine ⟨zset (zset m 58 3 (zi (T 8 i))) 58 4 (zi c), ?_, ⟨?_, zset_eq, ?_⟩, ?_, ?_⟩
          · rw [f6_seekFirst_L2, if_neg hle, zin_i (by omega) (by omega), zlet_e, if_neg (by rw [e8, h3, zi_le (by omega) (by omega)]; exact hc), hft, bnd0_ok]
            show zlet _ _ = _
            rw [zlet_e, if_neg (show ¬ zi (c % 100) = -1 from by rw [zneg1, zi_nN1 (by omega)]; exact id), zin_i (by omega) (by omega), e8, zlet_e, ecode, zlet_e, z1]
          · rw [zset_nj (by decide), zset_eq]
          · rw [zset_nj (by decide), zset_nj (by decide)]; exact h5
          · show T 8 i ≤ 200; omega
          · exact (hf.set rfl).set rfl)
    (T 2 2) 0 μ (0, zN1, zN1) zF (by omega) (by unfold zF; omega) ⟨hs, Nat.zero_le _, zfr.refl⟩
  refine ⟨μ', ?_, a2, a3, a4⟩
  unfold f6_seekFirst
  simp only [zlit']
  exact a1
