/-! THE PURE SIDE, 79: a TOWN's text, digits -/
def okD (c : Nat → Nat) (b n G : Nat) : Bool := ball (fun i => decide (c (b + i) - 48 < G)) n
def aDig (c : Nat → Nat) (N G few most a : Nat) : aR :=
  if de9 c N (bl9 c N a) = bl9 c N a then .inl (1, bl9 c N a)
  else if okD c (bl9 c N a) (de9 c N (bl9 c N a) - bl9 c N a) G = true ∧ few ≤ de9 c N (bl9 c N a) - bl9 c N a ∧ de9 c N (bl9 c N a) - bl9 c N a ≤ most then .inr (bl9 c N a, de9 c N (bl9 c N a)) else .inl (2, bl9 c N a)
theorem aDig_r {c : Nat → Nat} {N G few most a b e : Nat} (h : a ≤ N) (hr : aDig c N G few most a = .inr (b, e)) : b ≤ e ∧ e ≤ N ∧ few ≤ e - b ∧ e - b ≤ most ∧ ∀ i, i < e - b → 48 ≤ c (b + i) ∧ c (b + i) ≤ 57 ∧ c (b + i) - 48 < G := by
  have hb := (bl9_sp (c := c) h).2
  obtain ⟨d1, d2, d3⟩ := de9_sp (c := c) hb
  unfold aDig at hr
  split at hr
  · cases hr
  · split at hr
    · rename_i h1
      injection hr with hr
      injection hr with e1 e2
      subst e1 e2
      refine ⟨d1, d2, h1.2.1, h1.2.2, fun i hi => ?_⟩
      have k1 := d3 (bl9 c N a + i) (by omega) (by omega)
      have k2 := h1.1
      unfold okD at k2
      rw [ball_iff] at k2
      exact ⟨k1.1, k1.2, of_decide_eq_true (k2 i hi)⟩
    · cases hr
theorem aDig_l {c : Nat → Nat} {N G few most a k p : Nat} (h : a ≤ N) (hr : aDig c N G few most a = .inl (k, p)) : (k = 1 ∨ k = 2) ∧ p ≤ N := by
  have hb := (bl9_sp (c := c) h).2
  unfold aDig at hr
  split at hr
  · injection hr with hr
    injection hr with e1 e2
    exact ⟨Or.inl e1.symm, by omega⟩
  · split at hr
    · cases hr
    · injection hr with hr
      injection hr with e1 e2
      exact ⟨Or.inr e1.symm, by omega⟩
theorem x_areDigits {c : Nat → Nat} {N b e G : Nat} {x2 : Int32} {μ : zMem} (hc : tx c N μ) (h3 : μ 22 3 = zi e) (hbe : b ≤ e) (heN : e ≤ N) (hd : ∀ j, b ≤ j → j < e → 48 ≤ c j ∧ c j ≤ 57) (hx2 : ∀ v, v ≤ 9 → (zi v ≤ x2) = (v < G)) : f3_areDigitsUpTo (zi b) x2 μ = some (0, zi (b01 (okD c b (e - b) G)), μ) := by
  have hN := hc.1
  have h := zloopQ (L := fun n i (_ : Unit) => f3_areDigitsUpTo_L2 x2 μ (some (0, (1 : Int32), μ)) (some (0, (0 : Int32), μ)) n (zi i)) (N := e) (fun r => r = some (0, zi (b01 (okD c b (e - b) G)), μ)) (fun i _ => b ≤ i ∧ ∀ j, b ≤ j → j < i → c j - 48 < G)
    (fun n _ hI => by
      show f3_areDigitsUpTo_L2 x2 μ _ _ (n + 1) (zi e) = _
      have : okD c b (e - b) G = true := by
        unfold okD
        rw [ball_iff]
        exact fun i hi => decide_eq_true (hI.2 (b + i) (by omega) (by omega))
      rw [f3_areDigitsUpTo_L2, h3, if_pos (Int32.le_refl _), this]; rfl)
    (fun n i _ hi hI => by
      have hdi := hd i hI.1 hi
      have hq : f3_areDigitsUpTo_L2 x2 μ (some (0, (1 : Int32), μ)) (some (0, (0 : Int32), μ)) (n + 1) (zi i) = if c i - 48 < G then f3_areDigitsUpTo_L2 x2 μ (some (0, (1 : Int32), μ)) (some (0, (0 : Int32), μ)) n (zi (i + 1)) else some (0, (0 : Int32), μ) := by
        rw [f3_areDigitsUpTo_L2, h3, if_neg (show ¬ zi e ≤ zi i from by rw [zi_le (by omega) (by omega)]; omega), zin_i (by omega) (by omega), zi_cl (by omega), (hc.2 i (by omega)).2, show (48 : Int32) = zi 48 from rfl, zi_sub (by omega), show zi i + (1 : Int32) = zi (i + 1) from zi_add i 1]
        by_cases cc : c i - 48 < G
        · rw [if_pos (by rw [hx2 _ (by omega)]; exact cc), if_pos cc]
        · rw [if_neg (by rw [hx2 _ (by omega)]; exact cc), if_neg cc]
      by_cases cc : c i - 48 < G
      · right
        refine ⟨(), ?_, by omega, fun j h1 h2 => ?_⟩
        · show f3_areDigitsUpTo_L2 x2 μ _ _ (n + 1) (zi i) = _
          rw [hq, if_pos cc]
        · by_cases ej : j = i
          · rw [ej]; exact cc
          · exact hI.2 j h1 (by omega)
      · left
        show f3_areDigitsUpTo_L2 x2 μ _ _ (n + 1) (zi i) = _
        have : okD c b (e - b) G = false := by
          cases q : okD c b (e - b) G
          · rfl
          · unfold okD at q
            rw [ball_iff] at q
            have := of_decide_eq_true (q (i - b) (by omega))
            rw [show b + (i - b) = i by omega] at this
            exact absurd this cc
        rw [hq, if_neg cc, this]; rfl)
    (e - b) b () zF (by omega) (by unfold zF; omega) ⟨Nat.le_refl _, fun j h1 h2 => absurd h2 (by omega)⟩
  exact h
/-- what reading digits changes in the reference -/
def dfr (μ μ' : zMem) : Prop := mfr (fun j => j = 4 ∨ j = 5 ∨ j = 6) (fun k => k = 2) μ μ'
def mD1 (c : Nat → Nat) (r : aR) (x : Int32) (μ' : zMem) : Prop := match r with
  | .inl (k, p) => μ' 0 5 = zi k ∧ μ' 0 6 = zi p ∧ ∃ y, y ≤ 500 ∧ μ' 0 4 = zi y
  | .inr (b, e) => x = zi (e - b) ∧ μ' 0 4 = zi e ∧ μ' 0 5 = zi 0 ∧ ∀ i, i < e - b → μ' 2 i = zi (c (b + i) - 48)
theorem m_digL {c : Nat → Nat} {N b G : Nat} {x1 : Int32} {μ : zMem} (hc : tx c N μ) (h2 : μ 0 2 = zi N) (hb : b ≤ N) (h4 : μ 0 4 = zi b) (hx1 : ∀ v, v ≤ 9 → (x1 < zi v) = (G ≤ v)) (K : Int32 → Int32 → zMem → zRes) :
    ∃ μ', f9_digits_L48 x1 K zF (zi 0) (zi 1) μ = K (zi (de9 c N b - b)) (zi (b01 (okD c b (de9 c N b - b) G))) μ' ∧ μ' 0 4 = zi (de9 c N b) ∧ (∀ i, i < de9 c N b - b → μ' 2 i = zi (c (b + i) - 48)) ∧ mfr (fun j => j = 4) (fun k => k = 2) μ μ' := by
  have hN := hc.1
  obtain ⟨d1, d2, d3⟩ := de9_sp (c := c) hb
  have hend := (advN_sp (p := isD c) hb).2.2.2
  have txm : ∀ {μ' : zMem}, mfr (fun j => j = 4) (fun k => k = 2) μ μ' → tx c N μ' := fun h => ⟨hc.1, fun j hj => by rw [h.1 1 (by decide) (by decide)]; exact hc.2 j hj⟩
  obtain ⟨⟨y, μ'⟩, e1, e2, e3, e4, e5⟩ := zloopE (L := fun n i (s : Int32 × zMem) => f9_digits_L48 x1 K n (zi i) s.1 s.2) (N := de9 c N b - b) (o := fun s => K (zi (de9 c N b - b)) s.1 s.2)
    (fun i s => s.1 = zi (b01 (okD c b i G)) ∧ s.2 0 4 = zi (b + i) ∧ (∀ j, j < i → s.2 2 j = zi (c (b + j) - 48)) ∧ mfr (fun j => j = 4) (fun k => k = 2) μ s.2)
    (fun n s hs => by
      obtain ⟨x6, μ1⟩ := s
      obtain ⟨s1, s2, s3, s4⟩ := hs
      dsimp only at s1 s2 s3 s4
      have hs : (decide (de9 c N b < N) && isD c (de9 c N b)) = false := by
        rcases hend with q | q
        · have q' : de9 c N b = N := q
          rw [decide_eq_false (by omega)]; rfl
        · have q' : isD c (de9 c N b) = false := q
          rw [q', Bool.and_false]
      show f9_digits_L48 x1 K (n + 1) (zi (de9 c N b - b)) x6 μ1 = _
      rw [f9_digits_L48, s2, show b + (de9 c N b - b) = de9 c N b by omega, m_byteAt (txm s4) ((s4.2 2 (by decide)).trans h2) (by omega), bnd0_ok, m_isDigit hc, bnd0_ok, hs, if_pos (show zi (b01 false) = (0 : Int32) from rfl)])
    (fun n i s hi hs => by
      obtain ⟨x6, μ1⟩ := s
      obtain ⟨s1, s2, s3, s4⟩ := hs
      dsimp only at s1 s2 s3 s4
      subst s1
      have hdi := d3 (b + i) (by omega) (by omega)
      have hby := m_byteAt (a := b + i) (txm s4) ((s4.2 2 (by decide)).trans h2) (by omega)
      have hba : byA c N (b + i) = zi (c (b + i)) := if_pos (by omega)
      have hs : (decide (b + i < N) && isD c (b + i)) = true := by rw [decide_eq_true (show b + i < N by omega), show isD c (b + i) = true from decide_eq_true hdi]; rfl
      have e48 : zi (c (b + i)) - (48 : Int32) = zi (c (b + i) - 48) := by rw [show (48 : Int32) = zi 48 from rfl, zi_sub (by omega)]
      have eok : okD c b (i + 1) G = (okD c b i G && decide (c (b + i) - 48 < G)) := rfl
      refine ⟨(zi (b01 (okD c b (i + 1) G)), zset (zset μ1 2 i (zi (c (b + i) - 48))) 0 4 (zi (b + (i + 1)))), ?_, rfl, ?_, fun j hj => ?_, (s4.set (by decide) rfl).set0 rfl⟩
      · show f9_digits_L48 x1 K (n + 1) (zi i) (zi (b01 (okD c b i G))) μ1 = _
        have fin : bnd0 (f9_byteAt (μ1 0 4) μ1) (fun (v19 : Int32) (μ20 : zMem) => zin (zi i) 600 (zlet (zset μ20 2 (zi i).toNatClampNeg (v19 - (48 : Int32))) (fun (μ22 : zMem) => zlet (zset μ22 0 4 ((μ22 0 4) + (1 : Int32))) (fun (μ23 : zMem) => f9_digits_L48 x1 K n (zi i + (1 : Int32)) (zi (b01 (okD c b (i + 1) G))) μ23)))) = f9_digits_L48 x1 K n (zi (i + 1)) (zi (b01 (okD c b (i + 1) G))) (zset (zset μ1 2 i (zi (c (b + i) - 48))) 0 4 (zi (b + (i + 1)))) := by
          rw [s2, hby, bnd0_ok, hba, e48, zin_i (by omega) (by omega), zlet_e, zlet_e, zi_cl (by omega), zset_nk (by decide), s2, show zi (b + i) + (1 : Int32) = zi (b + (i + 1)) from zi_add _ 1, show zi i + (1 : Int32) = zi (i + 1) from zi_add i 1]
        rw [f9_digits_L48, s2, hby, bnd0_ok, m_isDigit hc, bnd0_ok, hs, if_neg (show ¬ zi (b01 true) = (0 : Int32) from by decide), zlet_e, zlet_e]
        cases q : okD c b i G
        · rw [if_pos (show zi (b01 false) = (0 : Int32) from rfl)]
          rw [eok, q, Bool.false_and] at fin ⊢
          exact fin
        · rw [if_neg (show ¬ zi (b01 true) = (0 : Int32) from by decide), s2, hby, bnd0_ok, hba, e48]
          rw [eok, q, Bool.true_and] at fin ⊢
          by_cases cc : c (b + i) - 48 < G
          · rw [if_neg (by rw [hx1 _ (by omega)]; omega)]
            rw [decide_eq_true cc] at fin ⊢
            exact fin
          · rw [if_pos (by rw [hx1 _ (by omega)]; omega)]
            rw [decide_eq_false cc] at fin ⊢
            exact fin
      · show zset (zset μ1 2 i (zi (c (b + i) - 48))) 0 4 (zi (b + (i + 1))) 0 4 = _
        exact zset_eq
      · show zset (zset μ1 2 i (zi (c (b + i) - 48))) 0 4 (zi (b + (i + 1))) 2 j = _
        rw [zset_nk (by decide)]
        by_cases ej : j = i
        · rw [ej, zset_eq]
        · rw [zset_nj ej]; exact s3 j (by omega))
    (de9 c N b - b) 0 (zi 1, μ) zF (by omega) (by unfold zF; omega) ⟨rfl, h4, fun j hj => absurd hj (by omega), mfr.refl⟩
  dsimp only at e1 e2 e3 e4 e5
  rw [e2] at e1
  exact ⟨μ', e1, by rw [e3]; congr 1; omega, e4, e5⟩
theorem m_digits {c : Nat → Nat} {N a G few most : Nat} {x1 : Int32} {μ : zMem} (hc : tx c N μ) (hA : mA N a μ) (h5 : μ 0 5 = zi 0) (hf : few < 1000) (hm : most < 1000) (hx1 : ∀ v, v ≤ 9 → (x1 < zi v) = (G ≤ v)) :
    ∃ x μ', f9_digits x1 (zi few) (zi most) μ = some (0, x, μ') ∧ mD1 c (aDig c N G few most a) x μ' ∧ dfr μ μ' ∧ (μ' 0 5 = zi 0 → μ' 0 6 = μ 0 6) := by
  have hN := hc.1
  obtain ⟨b1, b2⟩ := bl9_sp (c := c) hA.2.2
  obtain ⟨d1, d2, d3⟩ := de9_sp (c := c) b2
  have e02 : zset μ 0 4 (zi (bl9 c N a)) 0 2 = zi N := by rw [zset_nj (by decide)]; exact hA.1
  have hsm := de9_same (c := c) b2
  unfold f9_digits aDig
  rw [h5, if_pos (show zi 0 = (0 : Int32) from rfl), m_blanks hc hA, bnd0_ok, zlet_e]
  show ∃ x μ', bnd0 (f9_byteAt (zset μ 0 4 (zi (bl9 c N a)) 0 4) (zset μ 0 4 (zi (bl9 c N a)))) _ = _ ∧ _
  rw [zset_eq, m_byteAt (tx_0 hc) e02 (by omega), bnd0_ok, m_isDigit hc, bnd0_ok, zlet_e]
  by_cases e : de9 c N (bl9 c N a) = bl9 c N a
  · rw [hsm.1 e, if_pos e, if_pos (show zi (b01 false) = (0 : Int32) from rfl)]
    rw [show (zset μ 0 4 (zi (advN (isB c) N a))) = zset μ 0 4 (zi (bl9 c N a)) from rfl, zset_eq, m_wrong0 (by rw [zset_nj (by decide)]; exact h5), bnd0_ok]
    have h4 : zset (zset (zset μ 0 4 (zi (bl9 c N a))) 0 5 (1 : Int32)) 0 6 (zi (bl9 c N a)) 0 4 = zi (bl9 c N a) := by rw [zset_nj (by decide), zset_nj (by decide), zset_eq]
    have h02 : zset (zset (zset μ 0 4 (zi (bl9 c N a))) 0 5 (1 : Int32)) 0 6 (zi (bl9 c N a)) 0 2 = zi N := by rw [zset_nj (by decide), zset_nj (by decide)]; exact e02
    obtain ⟨μ', l1, l2, l3, l4⟩ := m_digL (μ := zset (zset (zset μ 0 4 (zi (bl9 c N a))) 0 5 (1 : Int32)) 0 6 (zi (bl9 c N a))) (tx_0 (tx_0 (tx_0 hc))) h02 b2 h4 hx1 (fun (x5_33 : Int32) (x6_34 : Int32) (μ35 : zMem) => zlet (fun (μ36 : zMem) => some (0, x5_33, μ36)) (fun j37 => zlet (fun (μ38 : zMem) => bnd0 (f9_wrong (2 : Int32) (zi (bl9 c N a)) μ38) (fun (v39 : Int32) (μ40 : zMem) => j37 μ40)) (fun j41 => if x6_34 = 0 then j41 μ35 else bnd0 (f9_in x5_33 (zi few) (zi most) μ35) (fun (v44 : Int32) (μ45 : zMem) => if v44 = 0 then j41 μ45 else j37 μ45))))
    have h51 : μ' 0 5 = zi 1 := by rw [l4.2 5 (by decide), zset_nj (by decide), zset_eq]; rfl
    refine ⟨zi (de9 c N (bl9 c N a) - bl9 c N a), μ', l1.trans ?_, ⟨h51, by rw [l4.2 6 (by decide), zset_eq], de9 c N (bl9 c N a), by omega, l2⟩, ?_, fun h => absurd (h51.symm.trans h) (by decide)⟩
    · show zlet _ _ = _
      rw [zlet_e, zlet_e]
      by_cases q : zi (b01 (okD c (bl9 c N a) (de9 c N (bl9 c N a) - bl9 c N a) G)) = 0
      · rw [if_pos q]
        show bnd0 (f9_wrong (2 : Int32) (zi (bl9 c N a)) μ') _ = _
        rw [m_wrong1 (n := 1) h51 (by decide) (by decide), bnd0_ok]
      · rw [if_neg q]
        by_cases ci : zi (de9 c N (bl9 c N a) - bl9 c N a) < zi few ∨ zi most < zi (de9 c N (bl9 c N a) - bl9 c N a)
        · rw [m_in_no ci, bnd0_ok, if_pos (show zi 0 = (0 : Int32) from rfl)]
          show bnd0 (f9_wrong (2 : Int32) (zi (bl9 c N a)) μ') _ = _
          rw [m_wrong1 (n := 1) h51 (by decide) (by decide), bnd0_ok]
        · rw [m_in_ok (fun q => ci (Or.inl q)) (fun q => ci (Or.inr q)), bnd0_ok, if_neg (show ¬ zi 1 = (0 : Int32) from by decide)]
    · exact (((mfr.refl.set0 (Or.inl rfl)).set0 (Or.inr (Or.inl rfl))).set0 (Or.inr (Or.inr rfl))).trans (l4.mono (fun j hj => Or.inl hj) (fun k hk => hk))
  · have hyes : (decide (bl9 c N a < N) && isD c (bl9 c N a)) = true := by
      cases q : (decide (bl9 c N a < N) && isD c (bl9 c N a))
      · exact absurd (hsm.2 q) e
      · rfl
    rw [hyes, if_neg e, if_neg (show ¬ zi (b01 true) = (0 : Int32) from by decide)]
    obtain ⟨μ', l1, l2, l3, l4⟩ := m_digL (μ := zset μ 0 4 (zi (bl9 c N a))) (tx_0 hc) e02 b2 zset_eq hx1 (fun (x5_33 : Int32) (x6_34 : Int32) (μ35 : zMem) => zlet (fun (μ36 : zMem) => some (0, x5_33, μ36)) (fun j37 => zlet (fun (μ38 : zMem) => bnd0 (f9_wrong (2 : Int32) (zi (bl9 c N a)) μ38) (fun (v39 : Int32) (μ40 : zMem) => j37 μ40)) (fun j41 => if x6_34 = 0 then j41 μ35 else bnd0 (f9_in x5_33 (zi few) (zi most) μ35) (fun (v44 : Int32) (μ45 : zMem) => if v44 = 0 then j41 μ45 else j37 μ45))))
    have h50 : μ' 0 5 = zi 0 := by rw [l4.2 5 (by decide), zset_nj (by decide)]; exact h5
    have f0 : dfr μ μ' := (mfr.refl.set0 (Or.inl rfl)).trans (l4.mono (fun j hj => Or.inl hj) (fun k hk => hk))
    by_cases cc : okD c (bl9 c N a) (de9 c N (bl9 c N a) - bl9 c N a) G = true ∧ few ≤ de9 c N (bl9 c N a) - bl9 c N a ∧ de9 c N (bl9 c N a) - bl9 c N a ≤ most
    · rw [if_pos cc]
      refine ⟨zi (de9 c N (bl9 c N a) - bl9 c N a), μ', l1.trans ?_, ⟨rfl, l2, h50, l3⟩, f0, fun _ => by rw [l4.2 6 (by decide), zset_nj (by decide)]⟩
      show zlet _ _ = _
      rw [zlet_e, zlet_e, cc.1, if_neg (show ¬ zi (b01 true) = (0 : Int32) from by decide), m_in_ok (by rw [zi_lt (by omega) (by omega)]; omega) (by rw [zi_lt (by omega) (by omega)]; omega), bnd0_ok, if_neg (show ¬ zi 1 = (0 : Int32) from by decide)]
    · rw [if_neg cc]
      refine ⟨zi (de9 c N (bl9 c N a) - bl9 c N a), zset (zset μ' 0 5 (2 : Int32)) 0 6 (zi (bl9 c N a)), l1.trans ?_, ⟨by rw [zset_nj (by decide), zset_eq]; rfl, zset_eq, de9 c N (bl9 c N a), by omega, by rw [zset_nj (by decide), zset_nj (by decide)]; exact l2⟩, (f0.set0 (Or.inr (Or.inl rfl))).set0 (Or.inr (Or.inr rfl)), fun h => absurd (show (2 : Int32) = zi 0 from by rw [zset_nj (by decide), zset_eq] at h; exact h) (by decide)⟩
      show zlet _ _ = _
      rw [zlet_e, zlet_e]
      cases q : okD c (bl9 c N a) (de9 c N (bl9 c N a) - bl9 c N a) G
      · rw [if_pos (show zi (b01 false) = (0 : Int32) from rfl)]
        show bnd0 (f9_wrong (2 : Int32) (zi (bl9 c N a)) μ') _ = _
        rw [m_wrong0 h50, bnd0_ok]
      · have cc' : ¬ (few ≤ de9 c N (bl9 c N a) - bl9 c N a ∧ de9 c N (bl9 c N a) - bl9 c N a ≤ most) := fun k => cc ⟨q, k⟩
        rw [if_neg (show ¬ zi (b01 true) = (0 : Int32) from by decide), m_in_no (by rw [zi_lt (by omega) (by omega), zi_lt (by omega) (by omega)]; omega), bnd0_ok, if_pos (show zi 0 = (0 : Int32) from rfl)]
        show bnd0 (f9_wrong (2 : Int32) (zi (bl9 c N a)) μ') _ = _
        rw [m_wrong0 h50, bnd0_ok]
