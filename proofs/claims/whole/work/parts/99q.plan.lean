/-! THE PURE SIDE, 56: bound -/
theorem tE_sym {T W : zN2} (hT : TB T) (d a b : Nat) : tE T W d a b = tE T W d b a := by
  unfold tE
  rw [tb_sym hT a b, zd_comm]
  simp only [Or.comm, eq_comm]
/-- whether some two can open a DOOR -/
def mayB (T W : zN2) (d : Nat) : Bool := !(ball (fun a => decide (bset (fO T W d a) (W 0 3) = 0)) (W 0 3))
theorem mayB_iff {T W : zN2} {d : Nat} : mayB T W d = true ↔ ∃ a b, tO T W d a b := by
  unfold mayB
  rw [Bool.not_eq_true', ← Bool.not_eq_true, ball_iff]
  constructor
  · intro h
    apply Classical.byContradiction
    intro hno
    apply h
    intro a _
    apply decide_eq_true
    apply bset_0
    intro b _
    cases hf : fO T W d a b
    · rfl
    · exact absurd ⟨a, b, fO_iff.1 hf⟩ hno
  · rintro ⟨a, b, hO⟩ h
    have h1 := of_decide_eq_true (h a (Nat.lt_trans hO.1 hO.2.1))
    have h2 := bset_bit (fO T W d a) (W 0 3) b
    rw [h1, Nat.zero_testBit, fO_iff.2 hO, decide_eq_true hO.2.1] at h2
    exact absurd h2 (by decide)
theorem fnd_b01 {v : Int32} {b : Bool} {p : Prop} (h : fnd v p) (hb : b = true ↔ p) : v = zi (b01 b) := by
  rcases h with ⟨h1, h2⟩ | ⟨h1, h2⟩
  · rw [hb.2 h2]; exact h1
  · cases b
    · exact h1
    · exact absurd (hb.1 rfl) h2
theorem mayB_cn {T W : zN2} (hW : WB T W) {d : Nat} : mayB T W d = true ↔ 0 < cn (pO T W d) 90 := by
  rw [mayB_iff]
  constructor
  · rintro ⟨a, b, hO⟩
    have hp := pO_of hW hO
    have := cn_lt hp (pO_bd hW hp).2.2.2
    omega
  · intro h
    obtain ⟨c, -, c2, -⟩ := cn_ex 90 h
    exact ⟨_, _, pO_tO c2⟩
/-- the DOOR of the greatest WORTH that isn't taken -/
def gwM (T : zN2) (d : Nat) (o : Option Nat) : Option Nat := match o with
  | none => some d
  | some e => if T 8 e < T 8 d then some d else some e
def gwS (T : zN2) (mb : Nat → Bool) (tk d : Nat) (o : Option Nat) : Option Nat := if mb d = true ∧ tk.testBit d = false then gwM T d o else o
def gwP (T : zN2) (mb : Nat → Bool) (tk : Nat) : Option Nat := zit (gwS T mb tk) (T 2 2) 0 none
def gwO (T : zN2) (mb : Nat → Bool) (_ : Nat) (s : Nat × Nat) : Nat × Nat := match gwP T mb s.1 with
  | none => s
  | some d => (s.1 ||| 2 ^ d, s.2 + T 8 d)
theorem gwS_lt {T : zN2} {mb : Nat → Bool} {tk d N : Nat} {o : Option Nat} (hd : d < N) (h : ∀ e, o = some e → e < N) : ∀ e, gwS T mb tk d o = some e → e < N := by
  intro e he
  unfold gwS at he
  split at he
  · unfold gwM at he
    cases o with
    | none => injection he with he; omega
    | some c =>
      dsimp only at he
      split at he
      · injection he with he; omega
      · injection he with he; rw [← he]; exact h c rfl
  · exact h e he
theorem x_gw19 {T W : zN2} {tk : Nat} {μ : zMem} (hT : TB T) (hW : WB T W) (hX : XT T μ) (hV : xV T W (T 2 2) μ) (htk : tk < 1024) (K : Int32 → zRes) :
    f2_greatestWorths_L19 (zi tk) μ K zF zN1 (zi 0) = K (oI (gwP T (mayB T W) tk)) ∧ ∀ e, gwP T (mayB T W) tk = some e → e < T 2 2 := by
  have hD := hT.2.2.1
  obtain ⟨e1, e2⟩ := zloopF (L := fun n i (o : Option Nat) => f2_greatestWorths_L19 (zi tk) μ K n (oI o) (zi i)) (N := T 2 2) (F := gwS T (mayB T W) tk) (o := fun o => K (oI o)) (fun _ o => ∀ e, o = some e → e < T 2 2)
    (fun n o _ => by
      show f2_greatestWorths_L19 (zi tk) μ K (n + 1) (oI o) (zi (T 2 2)) = _
      rw [f2_greatestWorths_L19, hX.1.2.2.1, if_pos (Int32.le_refl _)])
    (fun n i o hi ho => by
      have z1 : zi i + (1 : Int32) = zi (i + 1) := zi_add i 1
      refine ⟨?_, gwS_lt hi ho⟩
      show f2_greatestWorths_L19 (zi tk) μ K (n + 1) (oI o) (zi i) = f2_greatestWorths_L19 (zi tk) μ K n (oI (gwS T (mayB T W) tk i o)) (zi (i + 1))
      have hbit : (zshr (zi tk) (zi i) &&& (1 : Int32) = 0) = (tk.testBit i = false) := zbit0 (by omega) (by omega)
      rw [f2_greatestWorths_L19, hX.1.2.2.1, if_neg (show ¬ zi (T 2 2) ≤ zi i from by rw [zi_le (by omega) (by omega)]; omega), zlet_e, zlet_e, z1]
      by_cases c1 : tk.testBit i = false
      · rw [if_pos (by rw [hbit]; exact c1), zin_i (by omega) (by omega), zi_cl (n := i) (by omega), (hV.2.1 i hi).1]
        have hcn := mayB_cn hW (d := i)
        have h36 := pO_36 hW (d := i)
        cases c2 : mayB T W i
        · rw [if_pos (show zi (cn (pO T W i) 90) ≤ (0 : Int32) from by
            have : ¬ 0 < cn (pO T W i) 90 := fun q => by rw [hcn.2 q] at c2; exact absurd c2 (by decide)
            rw [show (0 : Int32) = zi 0 from rfl, zi_le (by omega) (by omega)]; omega)]
          show zlet _ _ = _
          rw [zlet_e, if_pos (show (0 : Int32) = 0 from rfl), show gwS T (mayB T W) tk i o = o from if_neg (fun q => by rw [c2] at q; exact absurd q.1 (by decide))]
        · rw [if_neg (show ¬ zi (cn (pO T W i) 90) ≤ (0 : Int32) from by
            have := hcn.1 c2
            rw [show (0 : Int32) = zi 0 from rfl, zi_le (by omega) (by omega)]; omega)]
          show zlet _ _ = _
          rw [zlet_e, if_neg (show ¬ (1 : Int32) = 0 from by decide), zlet_e]
          have hg : gwS T (mayB T W) tk i o = gwM T i o := if_pos ⟨c2, c1⟩
          rw [hg]
          cases o with
          | none => rw [if_pos (show oI none = (-1 : Int32) from rfl)]; rfl
          | some e =>
            have he := ho e rfl
            have k1 := tb_8 hT i
            have k2 := tb_8 hT e
            rw [if_neg (show ¬ oI (some e) = (-1 : Int32) from by show ¬ zi e = zN1; rw [zi_nN1 (by omega)]; exact fun q => q)]
            rw [zin_i (by omega) (by omega), show zin (oI (some e)) 10 = zin (zi e) 10 from rfl, zin_i (by omega) (by omega), show (oI (some e)).toNatClampNeg = e from zi_cl (by omega), (hX.2.2.2.2 i hi).1, (hX.2.2.2.2 e he).1]
            by_cases c3 : T 8 e < T 8 i
            · rw [if_neg (show ¬ zi (T 8 i) ≤ zi (T 8 e) from by rw [zi_le (by omega) (by omega)]; omega)]
              show _ = f2_greatestWorths_L19 (zi tk) μ K n (oI (if T 8 e < T 8 i then some i else some e)) (zi (i + 1))
              rw [if_pos c3]; rfl
            · rw [if_pos (show zi (T 8 i) ≤ zi (T 8 e) from by rw [zi_le (by omega) (by omega)]; omega)]
              show _ = f2_greatestWorths_L19 (zi tk) μ K n (oI (if T 8 e < T 8 i then some i else some e)) (zi (i + 1))
              rw [if_neg c3]
      · rw [if_neg (by rw [hbit]; exact c1)]
        show zlet _ _ = _
        rw [zlet_e, if_pos (show (0 : Int32) = 0 from rfl), show gwS T (mayB T W) tk i o = o from if_neg (fun q => c1 q.2)])
    (T 2 2) 0 none zF (by omega) (by unfold zF; omega) (fun e he => (by cases he))
  exact ⟨e1, e2⟩
def gwOk (T : zN2) (i : Nat) (s : Nat × Nat) : Prop := s.1 < 2 ^ T 2 2 ∧ s.2 ≤ 99 * i
theorem gwO_ok {T : zN2} {mb : Nat → Bool} {i : Nat} {s : Nat × Nat} (hT : TB T) (h : gwOk T i s) (hg : ∀ e, gwP T mb s.1 = some e → e < T 2 2) : gwOk T (i + 1) (gwO T mb i s) := by
  unfold gwO gwOk at *
  cases e : gwP T mb s.1 with
  | none => dsimp only; exact ⟨h.1, by omega⟩
  | some d =>
    have := tb_8 hT d
    exact ⟨bor_lt h.1 (hg d e), by show s.2 + T 8 d ≤ _; omega⟩
theorem x_greatest {T W : zN2} {μ : zMem} (hT : TB T) (hW : WB T W) (hX : XT T μ) (hV : xV T W (T 2 2) μ) {h : Nat} (hh : h < 1000) : f2_greatestWorths (zi h) μ = some (0, zi (zit (gwO T (mayB T W)) h 0 (0, 0)).2, μ) := by
  have hD := hT.2.2.1
  have hN : 2 ^ T 2 2 ≤ 1024 := pw10 hD
  obtain ⟨e1, -⟩ := zloopF (L := fun n i (s : Nat × Nat) => f2_greatestWorths_L7 (zi h) μ (fun (x3_33 : Int32) => some (0, x3_33, μ)) n (zi s.1) (zi s.2) (zi i)) (N := h) (F := gwO T (mayB T W)) (o := fun s => some (0, zi s.2, μ)) (fun i s => gwOk T i s)
    (fun n s _ => by
      show f2_greatestWorths_L7 _ _ _ (n + 1) (zi s.1) (zi s.2) (zi h) = _
      rw [f2_greatestWorths_L7, if_pos (Int32.le_refl _)])
    (fun n i s hi hs => by
      have z1 : zi i + (1 : Int32) = zi (i + 1) := zi_add i 1
      have hs1 := hs.1
      obtain ⟨g1, g2⟩ := x_gw19 hT hW hX hV (tk := s.1) (by omega) (fun (x5_24 : Int32) => zlet (fun (x2_25 : Int32) (x3_26 : Int32) => f2_greatestWorths_L7 (zi h) μ (fun (x3_33 : Int32) => some (0, x3_33, μ)) n x2_25 x3_26 (zi i + (1 : Int32))) (fun j27 => if x5_24 = (-1 : Int32) then j27 (zi s.1) (zi s.2) else zlet (zi s.1 ||| (zshl (1 : Int32) x5_24)) (fun (v30 : Int32) => zin x5_24 10 (zlet (zi s.2 + (μ 8 x5_24.toNatClampNeg)) (fun (v32 : Int32) => j27 v30 v32)))))
      refine ⟨?_, gwO_ok hT hs g2⟩
      show f2_greatestWorths_L7 _ _ _ (n + 1) (zi s.1) (zi s.2) (zi i) = f2_greatestWorths_L7 _ _ _ n (zi (gwO T (mayB T W) i s).1) (zi (gwO T (mayB T W) i s).2) (zi (i + 1))
      rw [f2_greatestWorths_L7, if_neg (show ¬ zi h ≤ zi i from by rw [zi_le (by omega) (by omega)]; omega)]
      refine g1.trans ?_
      show zlet _ _ = _
      rw [zlet_e, z1]
      unfold gwO
      cases e : gwP T (mayB T W) s.1 with
      | none => rw [if_pos (show oI none = (-1 : Int32) from rfl)]
      | some d =>
        have hd := g2 d e
        rw [if_neg (show ¬ oI (some d) = (-1 : Int32) from by show ¬ zi d = zN1; rw [zi_nN1 (by omega)]; exact fun q => q)]
        show zlet (zi s.1 ||| zshl (1 : Int32) (zi d)) _ = _
        rw [zlet_e]
        show zin (zi d) 10 _ = _
        rw [zin_i (by omega) (by omega), zlet_e]
        show f2_greatestWorths_L7 _ _ _ n (zi s.1 ||| zshl (1 : Int32) (zi d)) (zi s.2 + μ 8 (zi d).toNatClampNeg) _ = _
        rw [zi_cl (by omega), (hX.2.2.2.2 d hd).1, show zshl (1 : Int32) (zi d) = zi (2 ^ d) from zshl1 (by omega), zi_or, zi_add])
    h 0 (0, 0) zF (by omega) (by unfold zF; omega) ⟨Nat.two_pow_pos _, Nat.zero_le _⟩
  unfold f2_greatestWorths
  exact e1
/-! the reference -/
theorem m_bound81 {T W : zN2} {d a : Nat} (hT : TB T) (hW : WB T W) (hd : d < T 2 2) (ha : a < W 0 3) {p : Prop} (K : zMem → zRes) {μ : zMem} (hM : MT T μ) (hS : MS T W μ) (hp : fnd (μ 1125 d) p) :
    ∃ μ', f9_bound_L81 (zi d) (zi a) K zF (zi 0) μ = K μ' ∧ fnd (μ' 1125 d) (p ∨ ∃ b, tO T W d b a) ∧ (∀ j, j ≠ d → μ' 1125 j = μ 1125 j) ∧ zfr (fun k => k = 1125) μ μ' := by
  have hP := hW.2.2.2.1
  have hD := hT.2.2.1
  obtain ⟨μ', e1, e2, e3, e4⟩ := zloopE (L := fun n i (x : zMem) => f9_bound_L81 (zi d) (zi a) K n (zi i) x) (N := a) (o := fun x => K x)
    (fun i x => fnd (x 1125 d) (p ∨ ∃ b, b < i ∧ tO T W d b a) ∧ (∀ j, j ≠ d → x 1125 j = μ 1125 j) ∧ zfr (fun k => k = 1125) μ x)
    (fun n x _ => by
      show f9_bound_L81 (zi d) (zi a) K (n + 1) (zi a) x = _
      rw [f9_bound_L81, if_pos (Int32.le_refl _)])
    (fun n i x hi hx => by
      obtain ⟨x1, x2, x3⟩ := hx
      have z1 : zi i + (1 : Int32) = zi (i + 1) := zi_add i 1
      have b0 : ∀ A, zbl (0 : Int32) A = A := fun A => zbl_0
      have b1 : ∀ A, zbl (1 : Int32) A = A := fun A => zbl_1
      have hM' : MT T x := MT_fr x3 (by decide) (by decide) (by decide) (fun p _ => by omega) (fun d _ => by omega) hT hM
      have hS' : MS T W x := MS_at (congrFun (x3 0 (by decide)) 20) (congrFun (x3 0 (by decide)) 30) (congrFun (x3 4 (by decide)) 3) (x3 91 (by decide)) (x3 92 (by decide)) (fun p _ => x3 (51 + p) (by omega)) (fun p _ => congrFun (x3 (15 + p) (by omega)) 4) hT hW hS
      have hzd : ∀ A, zin (zi d) 10 A = A := fun A => zin_i (by omega) (by omega)
      have hle : ¬ zi a ≤ zi i := by rw [zi_le (by omega) (by omega)]; omega
      have set : ∀ (v : Int32) (q : Prop), fnd v q → (q ↔ (p ∨ ∃ b, b < i + 1 ∧ tO T W d b a)) → fnd (zset x 1125 d v 1125 d) (p ∨ ∃ b, b < i + 1 ∧ tO T W d b a) ∧ (∀ j, j ≠ d → zset x 1125 d v 1125 j = μ 1125 j) ∧ zfr (fun k => k = 1125) μ (zset x 1125 d v) := fun v q h1 h2 => ⟨by rw [zset_eq]; exact fnd_iff h1 h2, fun j hj => by rw [zset_nj hj]; exact x2 j hj, x3.set rfl⟩
      rcases x1 with ⟨h1, h2⟩ | ⟨h1, h2⟩
      · refine ⟨zset x 1125 d (zi 1), ?_, set (zi 1) _ (Or.inl ⟨rfl, h2⟩) ?_⟩
        · show f9_bound_L81 (zi d) (zi a) K (n + 1) (zi i) x = _
          rw [f9_bound_L81, if_neg hle, hzd, zlet_e, zlet_e, zi_cl (by omega), h1, if_neg (show ¬ zi 1 = (0 : Int32) from by decide)]
          show zbl (1 : Int32) _ = _
          rw [b1, hzd, zlet_e, z1]; rfl
        · constructor
          · rintro (q | ⟨b, q1, q2⟩)
            · exact Or.inl q
            · exact Or.inr ⟨b, by omega, q2⟩
          · exact fun _ => h2
      · have hO : tO T W d i a ↔ tE T W d a i = 0 := by
          rw [tE_sym hT d a i]
          exact ⟨fun q => q.2.2, fun q => ⟨hi, ha, q⟩⟩
        by_cases c : tE T W d a i = 0
        · refine ⟨zset x 1125 d (zi 1), ?_, set (zi 1) True (Or.inl ⟨rfl, trivial⟩) ⟨fun _ => Or.inr ⟨i, by omega, hO.2 c⟩, fun _ => trivial⟩⟩
          show f9_bound_L81 (zi d) (zi a) K (n + 1) (zi i) x = _
          rw [f9_bound_L81, if_neg hle, hzd, zlet_e, zlet_e, zi_cl (by omega), h1, if_pos (show zi 0 = (0 : Int32) from rfl), m_canBe hT hW hM' hS' hd ha (by omega), if_pos c, bnd0_ok, if_neg (show ¬ zi 1 = (0 : Int32) from by decide)]
          show zbl (1 : Int32) _ = _
          rw [b1, hzd, zlet_e, z1]; rfl
        · refine ⟨zset x 1125 d (zi 0), ?_, set (zi 0) False (Or.inr ⟨rfl, fun q => q⟩) ⟨fun q => q.elim, fun q => ?_⟩⟩
          · show f9_bound_L81 (zi d) (zi a) K (n + 1) (zi i) x = _
            rw [f9_bound_L81, if_neg hle, hzd, zlet_e, zlet_e, zi_cl (by omega), h1, if_pos (show zi 0 = (0 : Int32) from rfl), m_canBe hT hW hM' hS' hd ha (by omega), if_neg c, bnd0_ok, if_pos (show zi 0 = (0 : Int32) from rfl)]
            show zbl (0 : Int32) _ = _
            rw [b0, hzd, zlet_e, z1]; rfl
          · rcases q with q | ⟨b, q1, q2⟩
            · exact h2 (Or.inl q)
            · by_cases eb : b = i
              · exact c (hO.1 (eb ▸ q2))
              · exact h2 (Or.inr ⟨b, by omega, q2⟩))
    a 0 μ zF (by omega) (by unfold zF; omega) ⟨fnd_iff hp ⟨Or.inl, fun q => q.elim id (fun r => by obtain ⟨b, q1, -⟩ := r; omega)⟩, fun _ _ => rfl, fun _ _ => rfl⟩
  exact ⟨μ', e1, fnd_iff e2 ⟨fun q => q.elim Or.inl (fun r => by obtain ⟨b, -, q2⟩ := r; exact Or.inr ⟨b, q2⟩), fun q => q.elim Or.inl (fun r => by obtain ⟨b, q2⟩ := r; exact Or.inr ⟨b, q2.1, q2⟩)⟩, e3, e4⟩
theorem m_bound67 {T W : zN2} {d : Nat} (hT : TB T) (hW : WB T W) (hP : W 0 3 = T 2 1) (hd : d < T 2 2) (K : zMem → zRes) {μ : zMem} (hM : MT T μ) (hS : MS T W μ) (hp : μ 1125 d = zi 0) :
    ∃ μ', f9_bound_L67 (zi d) K zF (zi 0) μ = K μ' ∧ μ' 1125 d = zi (b01 (mayB T W d)) ∧ (∀ j, j ≠ d → μ' 1125 j = μ 1125 j) ∧ zfr (fun k => k = 1125) μ μ' := by
  have hPP := hT.2.1
  have z1' : ∀ A, zin (1 : Int32) 6 A = A := fun A => zin_i (i := 1) (by decide) (by decide)
  have n1 : (1 : Int32).toNatClampNeg = 1 := by decide
  obtain ⟨μ', e1, e2, e3, e4⟩ := zloopE (L := fun n i (x : zMem) => f9_bound_L67 (zi d) K n (zi i) x) (N := T 2 1) (o := fun x => K x)
    (fun i x => fnd (x 1125 d) (∃ b a, a < i ∧ tO T W d b a) ∧ (∀ j, j ≠ d → x 1125 j = μ 1125 j) ∧ zfr (fun k => k = 1125) μ x)
    (fun n x hx => by
      show f9_bound_L67 (zi d) K (n + 1) (zi (T 2 1)) x = _
      rw [f9_bound_L67, z1', n1, hx.2.2 4 (by decide), hM.1.2.1, if_pos (Int32.le_refl _)])
    (fun n i x hi hx => by
      obtain ⟨x1, x2, x3⟩ := hx
      have z1 : zi i + (1 : Int32) = zi (i + 1) := zi_add i 1
      have hM' : MT T x := MT_fr x3 (by decide) (by decide) (by decide) (fun p _ => by omega) (fun d _ => by omega) hT hM
      have hS' : MS T W x := MS_at (congrFun (x3 0 (by decide)) 20) (congrFun (x3 0 (by decide)) 30) (congrFun (x3 4 (by decide)) 3) (x3 91 (by decide)) (x3 92 (by decide)) (fun p _ => x3 (51 + p) (by omega)) (fun p _ => congrFun (x3 (15 + p) (by omega)) 4) hT hW hS
      obtain ⟨y, a1, a2, a3, a4⟩ := m_bound81 hT hW hd (a := i) (by omega) (fun (μ34 : zMem) => f9_bound_L67 (zi d) K n (zi i + (1 : Int32)) μ34) hM' hS' x1
      refine ⟨y, ?_, fnd_iff a2 ?_, fun j hj => (a3 j hj).trans (x2 j hj), x3.trans a4⟩
      · show f9_bound_L67 (zi d) K (n + 1) (zi i) x = _
        rw [f9_bound_L67, z1', n1, x3 4 (by decide), hM.1.2.1, if_neg (show ¬ zi (T 2 1) ≤ zi i from by rw [zi_le (by omega) (by omega)]; omega), ← z1]
        exact a1
      · constructor
        · rintro (⟨b, a, q1, q2⟩ | ⟨b, q2⟩)
          · exact ⟨b, a, by omega, q2⟩
          · exact ⟨b, i, by omega, q2⟩
        · rintro ⟨b, a, q1, q2⟩
          by_cases ea : a = i
          · exact Or.inr ⟨b, ea ▸ q2⟩
          · exact Or.inl ⟨b, a, by omega, q2⟩)
    (T 2 1) 0 μ zF (by omega) (by unfold zF; omega) ⟨Or.inr ⟨hp, fun q => by obtain ⟨b, a, q1, -⟩ := q; omega⟩, fun _ _ => rfl, fun _ _ => rfl⟩
  refine ⟨μ', e1, fnd_b01 e2 (mayB_iff.trans ⟨fun q => ?_, fun q => ?_⟩), e3, e4⟩
  · obtain ⟨a, b, hO⟩ := q
    exact ⟨a, b, by have := hO.2.1; omega, hO⟩
  · obtain ⟨b, a, -, hO⟩ := q
    exact ⟨b, a, hO⟩
theorem m_bound45 {T W : zN2} (hT : TB T) (hW : WB T W) (hP : W 0 3 = T 2 1) (K : zMem → zRes) {μ : zMem} (hM : MT T μ) (hS : MS T W μ) :
    ∃ μ', f9_bound_L45 K zF (zi 0) μ = K μ' ∧ (∀ d, d < T 2 2 → μ' 1125 d = zi (b01 (mayB T W d))) ∧ zfr (fun k => k = 1125) μ μ' := by
  have hD := hT.2.2.1
  have z2' : ∀ A, zin (2 : Int32) 6 A = A := fun A => zin_i (i := 2) (by decide) (by decide)
  have n2 : (2 : Int32).toNatClampNeg = 2 := by decide
  obtain ⟨μ', e1, e2, e3⟩ := zloopE (L := fun n i (x : zMem) => f9_bound_L45 K n (zi i) x) (N := T 2 2) (o := fun x => K x)
    (fun i x => (∀ d, d < i → x 1125 d = zi (b01 (mayB T W d))) ∧ zfr (fun k => k = 1125) μ x)
    (fun n x hx => by
      show f9_bound_L45 K (n + 1) (zi (T 2 2)) x = _
      rw [f9_bound_L45, z2', n2, hx.2 4 (by decide), hM.1.2.2.1, if_pos (Int32.le_refl _)])
    (fun n i x hi hx => by
      obtain ⟨x1, x3⟩ := hx
      have z1 : zi i + (1 : Int32) = zi (i + 1) := zi_add i 1
      have f1 : zfr (fun k => k = 1125) μ (zset x 1125 i (zi 0)) := x3.set rfl
      have hM' : MT T (zset x 1125 i (zi 0)) := MT_fr f1 (by decide) (by decide) (by decide) (fun p _ => by omega) (fun d _ => by omega) hT hM
      have hS' : MS T W (zset x 1125 i (zi 0)) := MS_at (congrFun (f1 0 (by decide)) 20) (congrFun (f1 0 (by decide)) 30) (congrFun (f1 4 (by decide)) 3) (f1 91 (by decide)) (f1 92 (by decide)) (fun p _ => f1 (51 + p) (by omega)) (fun p _ => congrFun (f1 (15 + p) (by omega)) 4) hT hW hS
      obtain ⟨y, a1, a2, a3, a4⟩ := m_bound67 hT hW hP hi (fun (μ35 : zMem) => f9_bound_L45 K n (zi i + (1 : Int32)) μ35) hM' hS' zset_eq
      refine ⟨y, ?_, fun d hd => ?_, f1.trans a4⟩
      · show f9_bound_L45 K (n + 1) (zi i) x = _
        rw [f9_bound_L45, z2', n2, x3 4 (by decide), hM.1.2.2.1, if_neg (show ¬ zi (T 2 2) ≤ zi i from by rw [zi_le (by omega) (by omega)]; omega), zin_i (by omega) (by omega), zlet_e, zi_cl (by omega), ← z1]
        exact a1
      · by_cases e : d = i
        · subst e; exact a2
        · rw [a3 d e, zset_nj e]; exact x1 d (by omega))
    (T 2 2) 0 μ zF (by omega) (by unfold zF; omega) ⟨fun d hd => absurd hd (by omega), fun _ _ => rfl⟩
  exact ⟨μ', e1, e2, e3⟩
theorem m_bound163 {T : zN2} {mb : Nat → Bool} {tk : Nat} {μ : zMem} (hT : TB T) (hM : MT T μ) (hmb : ∀ d, d < T 2 2 → μ 1125 d = zi (b01 (mb d))) (htk : tk < 1024) (K : Int32 → zRes) :
    f9_bound_L163 (zi tk) μ K zF zN1 (zi 0) = K (oI (gwP T mb tk)) ∧ ∀ e, gwP T mb tk = some e → e < T 2 2 := by
  have hD := hT.2.2.1
  have z2' : ∀ A, zin (2 : Int32) 6 A = A := fun A => zin_i (i := 2) (by decide) (by decide)
  have n2 : (2 : Int32).toNatClampNeg = 2 := by decide
  have z04 : ∀ A, zin (0 : Int32) 4 A = A := fun A => zin_i (i := 0) (by decide) (by decide)
  have n0 : (0 : Int32).toNatClampNeg = 0 := by decide
  obtain ⟨e1, e2⟩ := zloopF (L := fun n i (o : Option Nat) => f9_bound_L163 (zi tk) μ K n (oI o) (zi i)) (N := T 2 2) (F := gwS T mb tk) (o := fun o => K (oI o)) (fun _ o => ∀ e, o = some e → e < T 2 2)
    (fun n o _ => by
      show f9_bound_L163 (zi tk) μ K (n + 1) (oI o) (zi (T 2 2)) = _
      rw [f9_bound_L163, z2', n2, hM.1.2.2.1, if_pos (Int32.le_refl _)])
    (fun n i o hi ho => by
      have z1 : zi i + (1 : Int32) = zi (i + 1) := zi_add i 1
      have hzi : ∀ A, zin (zi i) 10 A = A := fun A => zin_i (by omega) (by omega)
      refine ⟨?_, gwS_lt hi ho⟩
      show f9_bound_L163 (zi tk) μ K (n + 1) (oI o) (zi i) = f9_bound_L163 (zi tk) μ K n (oI (gwS T mb tk i o)) (zi (i + 1))
      have hbit : (zshr (zi tk) (zi i) &&& (1 : Int32) = 0) = (tk.testBit i = false) := zbit0 (by omega) (by omega)
      rw [f9_bound_L163, z2', n2, hM.1.2.2.1, if_neg (show ¬ zi (T 2 2) ≤ zi i from by rw [zi_le (by omega) (by omega)]; omega), hzi, zlet_e, zi_cl (by omega), hmb i hi, z1]
      cases c2 : mb i
      · rw [if_pos (show zi (b01 false) = (0 : Int32) from rfl), show gwS T mb tk i o = o from if_neg (fun q => by rw [c2] at q; exact absurd q.1 (by decide))]
      · rw [if_neg (show ¬ zi (b01 true) = (0 : Int32) from by decide)]
        by_cases c1 : tk.testBit i = false
        · rw [if_pos (by rw [hbit]; exact c1), zlet_e]
          have hg : gwS T mb tk i o = gwM T i o := if_pos ⟨c2, c1⟩
          rw [hg]
          cases o with
          | none => rw [if_pos (show oI none = (-1 : Int32) from rfl)]; rfl
          | some e =>
            have he := ho e rfl
            have k1 := tb_8 hT i
            have k2 := tb_8 hT e
            rw [if_neg (show ¬ oI (some e) = (-1 : Int32) from by show ¬ zi e = zN1; rw [zi_nN1 (by omega)]; exact fun q => q)]
            rw [hzi, z04, show zin (oI (some e)) 10 = zin (zi e) 10 from rfl, zin_i (by omega) (by omega), z04, n0, show (oI (some e)).toNatClampNeg = e from zi_cl (by omega), (hM.2.2.2.2 i hi).1, (hM.2.2.2.2 e he).1]
            by_cases c3 : T 8 e < T 8 i
            · rw [if_neg (show ¬ zi (T 8 i) ≤ zi (T 8 e) from by rw [zi_le (by omega) (by omega)]; omega)]
              show _ = f9_bound_L163 (zi tk) μ K n (oI (if T 8 e < T 8 i then some i else some e)) (zi (i + 1))
              rw [if_pos c3]; rfl
            · rw [if_pos (show zi (T 8 i) ≤ zi (T 8 e) from by rw [zi_le (by omega) (by omega)]; omega)]
              show _ = f9_bound_L163 (zi tk) μ K n (oI (if T 8 e < T 8 i then some i else some e)) (zi (i + 1))
              rw [if_neg c3]
        · rw [if_neg (by rw [hbit]; exact c1), show gwS T mb tk i o = o from if_neg (fun q => c1 q.2)])
    (T 2 2) 0 none zF (by omega) (by unfold zF; omega) (fun e he => (by cases he))
  exact ⟨e1, e2⟩
theorem m_bound144 {T : zN2} {mb : Nat → Bool} {μ : zMem} (hT : TB T) (hM : MT T μ) (hmb : ∀ d, d < T 2 2 → μ 1125 d = zi (b01 (mb d))) (K : Int32 → zRes) :
    f9_bound_L144 μ K zF (zi 0) (zi 0) (zi 0) = K (zi (zit (gwO T mb) (T 2 1 / 2) 0 (0, 0)).2) := by
  have hD := hT.2.2.1
  have hPP := hT.2.1
  have hN : 2 ^ T 2 2 ≤ 1024 := pw10 hD
  have z1' : ∀ A, zin (1 : Int32) 6 A = A := fun A => zin_i (i := 1) (by decide) (by decide)
  have n1 : (1 : Int32).toNatClampNeg = 1 := by decide
  have z04 : ∀ A, zin (0 : Int32) 4 A = A := fun A => zin_i (i := 0) (by decide) (by decide)
  have n0 : (0 : Int32).toNatClampNeg = 0 := by decide
  have ed : zi (T 2 1) / (2 : Int32) = zi (T 2 1 / 2) := zi_div (b := 2) (by omega) (by decide)
  obtain ⟨e1, -⟩ := zloopF (L := fun n i (s : Nat × Nat) => f9_bound_L144 μ K n (zi s.2) (zi s.1) (zi i)) (N := T 2 1 / 2) (F := gwO T mb) (o := fun s => K (zi s.2)) (fun i s => gwOk T i s)
    (fun n s _ => by
      show f9_bound_L144 μ K (n + 1) (zi s.2) (zi s.1) (zi (T 2 1 / 2)) = _
      rw [f9_bound_L144, z1', n1, hM.1.2.1, ed, if_pos (Int32.le_refl _)])
    (fun n i s hi hs => by
      have z1 : zi i + (1 : Int32) = zi (i + 1) := zi_add i 1
      have hs1 := hs.1
      obtain ⟨g1, g2⟩ := m_bound163 hT hM hmb (tk := s.1) (by omega) (fun (x6_59 : Int32) => zlet (fun (x3_60 : Int32) (x4_61 : Int32) => f9_bound_L144 μ K n x3_60 x4_61 (zi i + (1 : Int32))) (fun j62 => if x6_59 = (-1 : Int32) then j62 (zi s.2) (zi s.1) else zlet (zi s.1 ||| (zshl (1 : Int32) x6_59)) (fun (v65 : Int32) => zin x6_59 10 (zin (0 : Int32) 4 (zlet (zi s.2 + (μ (36 + x6_59.toNatClampNeg) (0 : Int32).toNatClampNeg)) (fun (v68 : Int32) => j62 v68 v65))))))
      refine ⟨?_, gwO_ok hT hs g2⟩
      show f9_bound_L144 μ K (n + 1) (zi s.2) (zi s.1) (zi i) = f9_bound_L144 μ K n (zi (gwO T mb i s).2) (zi (gwO T mb i s).1) (zi (i + 1))
      rw [f9_bound_L144, z1', n1, hM.1.2.1, ed, if_neg (show ¬ zi (T 2 1 / 2) ≤ zi i from by rw [zi_le (by omega) (by omega)]; omega)]
      refine g1.trans ?_
      show zlet _ _ = _
      rw [zlet_e, z1]
      unfold gwO
      cases e : gwP T mb s.1 with
      | none => rw [if_pos (show oI none = (-1 : Int32) from rfl)]
      | some d =>
        have hd := g2 d e
        rw [if_neg (show ¬ oI (some d) = (-1 : Int32) from by show ¬ zi d = zN1; rw [zi_nN1 (by omega)]; exact fun q => q)]
        show zlet (zi s.1 ||| zshl (1 : Int32) (zi d)) _ = _
        rw [zlet_e]
        show zin (zi d) 10 _ = _
        rw [zin_i (by omega) (by omega), z04, zlet_e, n0]
        show f9_bound_L144 μ K n (zi s.2 + μ (36 + (zi d).toNatClampNeg) 0) (zi s.1 ||| zshl (1 : Int32) (zi d)) _ = _
        rw [zi_cl (by omega), (hM.2.2.2.2 d hd).1, show zshl (1 : Int32) (zi d) = zi (2 ^ d) from zshl1 (by omega), zi_or, zi_add])
    (T 2 1 / 2) 0 (0, 0) zF (by omega) (by unfold zF; omega) ⟨Nat.two_pow_pos _, Nat.zero_le _⟩
  exact e1
def fBB (v6 : Int32) (μ3 : zMem) (s7 : Int32) : zRes := zlet (zset μ3 0 30 s7) (fun (μ8 : zMem) => f9_bound_L45 (fun (μ36 : zMem) => f9_bound_L144 μ36 (fun (x3_69 : Int32) => zlet (zset μ36 0 30 v6) (fun (μ70 : zMem) => some (0, x3_69, μ70))) zF (0 : Int32) (0 : Int32) (0 : Int32)) zF (0 : Int32) μ8)
theorem P_bound {x : Int32} {μX μM : zMem} (h : zInv μX μM) : zPm cI (f8_bound x μX) (f9_bound x μM) := by
  have h' := h
  obtain ⟨T, W, r, R, n, m, WI, rI, RI, ⟨hT, hW, hL, hX, hM, hS, hS', h30, hB, hR, hR'⟩, ht, hf, hi⟩ := h
  have hPP := hT.2.1
  have hM0 := MT_0 (v := zi 0) hT hM
  have hS0 := MS_0 (v := zi 0) hT hW hS'
  have e00 : zset μM 0 0 (zi 0) 0 0 = zi 0 := zset_00
  have e30 : zset μM 0 0 (zi 0) 0 30 = zN1 := by rw [zset_nj (by decide)]; exact h30
  rcases qcase (W := W) hT x with ⟨W', hq⟩ | hx
  · have hW' := qOk_wb hW hq
    have eP : W' 0 3 = T 2 1 := (qOk_0 hq 0 3 (by omega)).trans hL.2.2.1
    obtain ⟨μ1, a1, a2, a3, a4⟩ := x_planToday hT hW hX hS hq
    have hX1 : XT T μ1 := XT_of (fun key hk => a4 key (by unfold pz; omega)) hX
    have hMs := ms_asked hT hW hS0 e30 hq
    have hMt : MT T (zset (zset μM 0 0 (zi 0)) 0 30 (if x = (-1 : Int32) then zset μM 0 0 (zi 0) 0 30 else x)) := MT_at (fun j _ => by rw [zset_nk (by decide)]) (zset_nk (by decide)) (zset_nk (by decide)) (fun p _ => by rw [zset_nk (by omega)]) (fun d _ => zset_nk (by omega)) hT hM0
    obtain ⟨m1, b1, b2, b3⟩ := m_bound45 hT hW' eP (fun (μ36 : zMem) => f9_bound_L144 μ36 (fun (x3_69 : Int32) => zlet (zset μ36 0 30 (zset μM 0 0 (zi 0) 0 30)) (fun (μ70 : zMem) => some (0, x3_69, μ70))) zF (0 : Int32) (0 : Int32) (0 : Int32)) hMt hMs
    have hM1 : MT T m1 := MT_fr b3 (by decide) (by decide) (by decide) (fun p _ => by omega) (fun d _ => by omega) hT hMt
    have c1 := m_bound144 hT hM1 b2 (fun (x3_69 : Int32) => zlet (zset m1 0 30 (zset μM 0 0 (zi 0) 0 30)) (fun (μ70 : zMem) => some (0, x3_69, μ70)))
    have ff : mfr (fun j => j = 30) (fun k => k = 1125) (zset μM 0 0 (zi 0)) m1 := ⟨fun k k1 k2 => by rw [b3 k k2, zset_nk k1], fun j hj => by rw [b3 0 (by decide), zset_nj hj]⟩
    refine zPm_q h' (μX' := μ1) (μM' := zset m1 0 30 (zset μM 0 0 (zi 0) 0 30)) (e := 0) (v := zi (zit (gwO T (mayB T W')) (T 2 1 / 2) 0 (0, 0)).2) (w := zi (zit (gwO T (mayB T W')) (T 2 1 / 2) 0 (0, 0)).2) ?_ ?_ ?_ (fun _ => rfl) (Or.inl rfl) (pz_zsx a4) (zmq.trans (μ' := zset μM 0 0 (zi 0)) zmq_0 ?_)
    · unfold f8_bound
      rw [x_needQN_ok hT hX hq, bnd_ok, a1, bnd0_ok, hX1.1.2.1, show zi (T 2 1) / (2 : Int32) = zi (T 2 1 / 2) from zi_div (b := 2) (by omega) (by decide), x_greatest hT hW' hX1 a2 (by omega), bnd0_ok]
    · unfold f9_bound
      rw [zlet_e, show zset μM 0 0 (0 : Int32) = zset μM 0 0 (zi 0) from rfl, m_badAsked_ok hT hM0 e00 hq, bnd0_ok, if_pos (show zi 0 = (0 : Int32) from rfl)]
      have e : (if x = (-1 : Int32) then fBB (zset μM 0 0 (zi 0) 0 30) (zset μM 0 0 (zi 0)) (zset μM 0 0 (zi 0) 0 30) else fBB (zset μM 0 0 (zi 0) 0 30) (zset μM 0 0 (zi 0)) x) = fBB (zset μM 0 0 (zi 0) 0 30) (zset μM 0 0 (zi 0)) (if x = (-1 : Int32) then zset μM 0 0 (zi 0) 0 30 else x) := by
        by_cases c : x = (-1 : Int32)
        · rw [if_pos c, if_pos c]
        · rw [if_neg c, if_neg c]
      refine Eq.trans e ?_
      unfold fBB
      rw [zlet_e]
      refine b1.trans ?_
      refine c1.trans ?_
      rw [zlet_e]
    · rw [zset_nj (by decide), ff.2 0 (by decide)]; exact e00
    · refine ⟨⟨?_, ?_, ?_, ?_⟩, fun key j hk => ?_, fun key hk => ?_⟩
      · rw [zset_nj (by decide)]; exact ff.2 1 (by decide)
      · rw [zset_nj (by decide)]; exact ff.2 3 (by decide)
      · rw [zset_nj (by decide)]; exact ff.2 22 (by decide)
      · rw [zset_eq]
      · by_cases h0 : key = 0
        · subst h0
          have : j ≠ 30 := fun e => by
            subst e
            have := kidx_0 (j := 30) (by decide) (by decide)
            omega
          rw [zset_nj this]; exact ff.2 j this
        · have : key ≠ 1125 := fun e => by
            have := kidx_big (k := key) (j := j) (by unfold zsk; omega)
            omega
          rw [zset_nk h0]; rw [ff.1 key h0 this]
      · rw [zset_nk (by unfold zmk at hk; omega)]; exact ff.1 key (by unfold zmk at hk; omega) (by unfold zmk at hk; omega)
  · refine zPm_q h' (μX' := μX) (μM' := zset (zset μM 0 0 (zi 0)) 0 0 (zi 1)) (e := 1) (v := zi 0) (w := zi 0) ?_ ?_ zset_00 (fun h => absurd h (by decide)) (Or.inr (by decide)) zfr.refl zmq_00
    · unfold f8_bound
      rw [x_needQN_no hX hx]; rfl
    · unfold f9_bound
      rw [zlet_e, show zset μM 0 0 (0 : Int32) = zset μM 0 0 (zi 0) from rfl, m_badAsked_no hT hM0 e00 hx, bnd0_ok, if_neg (show ¬ zi 1 = (0 : Int32) from by decide)]; rfl
