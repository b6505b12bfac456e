/-! THE PURE SIDE, 77: a TOWN's text, signs and words -/
def aSemi (c : Nat → Nat) (N a : Nat) : aR := if bl9 c N a < N ∧ c (bl9 c N a) = 59 then .inr (0, bl9 c N a + 1) else .inl (1, bl9 c N a)
def xT1 (r : aR) (x : Int32) (μ μ' : zMem) : Prop := match r with
  | .inl (k, p) => x = zi 0 ∧ xW k p μ μ'
  | .inr (_, e) => x = zi 1 ∧ μ' = zset μ 22 3 (zi e)
theorem x_semi {c : Nat → Nat} {N a : Nat} {μ : zMem} (hc : tx c N μ) (hA : xA N a μ) : ∃ x μ', f3_readSemicolon μ = some (0, x, μ') ∧ xT1 (aSemi c N a) x μ μ' := by
  have hN := hc.1
  have b0 : ∀ A, zbl (zi 0) A = A := fun A => zbl_0
  obtain ⟨b1, b2⟩ := bl9_sp (c := c) hA.2.2
  have ew : bnd0 (f3_wrong (1 : Int32) (zset μ 22 3 (zi (bl9 c N a)) 22 3) (zset μ 22 3 (zi (bl9 c N a)))) (fun (v3 : Int32) (μ4 : zMem) => zbl v3 (some (0, v3, μ4))) = some (0, zi 0, zset (zset (zset μ 22 3 (zi (bl9 c N a))) 22 4 (zi 1)) 22 5 (zi (bl9 c N a))) := by
    rw [zset_eq]
    show bnd0 (f3_wrong (zi 1) (zi (bl9 c N a)) _) _ = _
    rw [x_wrong, bnd0_ok, b0]
  unfold f3_readSemicolon
  rw [x_blanks hc hA, bnd0_ok, zlet_e]
  show ∃ x μ', (if zset μ 22 3 (zi (bl9 c N a)) 22 2 ≤ zset μ 22 3 (zi (bl9 c N a)) 22 3 then bnd0 (f3_wrong (1 : Int32) (zset μ 22 3 (zi (bl9 c N a)) 22 3) (zset μ 22 3 (zi (bl9 c N a)))) (fun (v3 : Int32) (μ4 : zMem) => zbl v3 (some (0, v3, μ4))) else zin (zset μ 22 3 (zi (bl9 c N a)) 22 3) 500 (if zset μ 22 3 (zi (bl9 c N a)) 1 (zset μ 22 3 (zi (bl9 c N a)) 22 3).toNatClampNeg = (59 : Int32) then _ else bnd0 (f3_wrong (1 : Int32) (zset μ 22 3 (zi (bl9 c N a)) 22 3) (zset μ 22 3 (zi (bl9 c N a)))) (fun (v3 : Int32) (μ4 : zMem) => zbl v3 (some (0, v3, μ4))))) = _ ∧ _
  rw [ew, zset_eq, zset_nj (by decide), hA.1]
  unfold aSemi
  by_cases h : bl9 c N a < N
  · have hb := (hc.2 _ h).1
    rw [if_neg (show ¬ zi N ≤ zi (bl9 c N a) from by rw [zi_le (by omega) (by omega)]; omega), zin_i (by omega) (by omega), zi_cl (by omega), zset_nk (by decide), (hc.2 _ h).2]
    by_cases e : c (bl9 c N a) = 59
    · rw [if_pos (show zi (c (bl9 c N a)) = (59 : Int32) from by rw [e]; rfl), if_pos ⟨h, e⟩]
      refine ⟨zi 1, _, rfl, rfl, ?_⟩
      rw [zset_eq, zset_zset, show zi (advN (isB c) N a) + (1 : Int32) = zi (bl9 c N a + 1) from zi_add _ 1]
    · rw [if_neg (show ¬ zi (c (bl9 c N a)) = (59 : Int32) from by rw [show (59 : Int32) = zi 59 from rfl, zi_eq (by omega) (by omega)]; exact e), if_neg (fun q => e q.2)]
      exact ⟨zi 0, _, rfl, rfl, _, rfl⟩
  · rw [if_pos (show zi N ≤ zi (bl9 c N a) from by rw [zi_le (by omega) (by omega)]; omega), if_neg (fun q => h q.1)]
    exact ⟨zi 0, _, rfl, rfl, _, rfl⟩
def mT1 (r : aR) (μ μ' : zMem) : Prop := match r with
  | .inl (k, p) => mW k p μ μ'
  | .inr (_, e) => μ' = zset μ 0 4 (zi e)
theorem m_sign {c : Nat → Nat} {N a : Nat} {μ : zMem} (hc : tx c N μ) (hA : mA N a μ) (h5 : μ 0 5 = zi 0) : ∃ μ', f9_sign (59 : Int32) μ = some (0, zi 0, μ') ∧ mT1 (aSemi c N a) μ μ' := by
  have hN := hc.1
  obtain ⟨b1, b2⟩ := bl9_sp (c := c) hA.2.2
  unfold f9_sign aSemi
  rw [h5, if_pos (show zi 0 = (0 : Int32) from rfl), m_blanks hc hA, bnd0_ok]
  show ∃ μ', bnd0 (f9_byteAt (zset μ 0 4 (zi (bl9 c N a)) 0 4) (zset μ 0 4 (zi (bl9 c N a)))) _ = _ ∧ _
  rw [zset_eq, m_byteAt (tx_0 hc) (by rw [zset_nj (by decide)]; exact hA.1) (by omega), bnd0_ok, zlet_e]
  by_cases h : bl9 c N a < N ∧ c (bl9 c N a) = 59
  · rw [if_pos (show byA c N (bl9 c N a) = (59 : Int32) from by rw [show (59 : Int32) = zi 59 from rfl, byA_eq hc (by decide)]; exact h), if_pos h]
    refine ⟨_, rfl, ?_⟩
    show zset (zset μ 0 4 (zi (bl9 c N a))) 0 4 (zset μ 0 4 (zi (bl9 c N a)) 0 4 + (1 : Int32)) = _
    rw [zset_eq, zset_zset, show zi (bl9 c N a) + (1 : Int32) = zi (bl9 c N a + 1) from zi_add _ 1]
  · rw [if_neg (show ¬ byA c N (bl9 c N a) = (59 : Int32) from by rw [show (59 : Int32) = zi 59 from rfl, byA_eq hc (by decide)]; exact h), if_neg h]
    rw [zset_eq, m_wrong0 (by rw [zset_nj (by decide)]; exact h5), bnd0_ok]
    exact ⟨_, rfl, bl9 c N a, by omega, rfl⟩
theorem m_sign1 {n : Nat} {μ : zMem} (h5 : μ 0 5 = zi n) (hn : 0 < n) (hn' : n < 10) : f9_sign (59 : Int32) μ = some (0, zi 0, μ) := by
  unfold f9_sign
  rw [h5, if_neg (show ¬ zi n = (0 : Int32) from by rw [show (0 : Int32) = zi 0 from rfl, zi_eq (by omega) (by omega)]; omega)]; rfl
theorem m_number1 {n : Nat} {x1 x2 x3 : Int32} {μ : zMem} (h5 : μ 0 5 = zi n) (hn : 0 < n) (hn' : n < 10) : f9_number x1 x2 x3 μ = some (0, zi 0, μ) := by
  unfold f9_number
  rw [h5, if_neg (show ¬ zi n = (0 : Int32) from by rw [show (0 : Int32) = zi 0 from rfl, zi_eq (by omega) (by omega)]; omega)]; rfl
theorem m_digits1 {n : Nat} {x1 x2 x3 : Int32} {μ : zMem} (h5 : μ 0 5 = zi n) (hn : 0 < n) (hn' : n < 10) : f9_digits x1 x2 x3 μ = some (0, zi 0, μ) := by
  unfold f9_digits
  rw [h5, if_neg (show ¬ zi n = (0 : Int32) from by rw [show (0 : Int32) = zi 0 from rfl, zi_eq (by omega) (by omega)]; omega)]; rfl
/-! words -/
def wch (w i : Nat) : Nat := (zsc w (zi i)).toNatClampNeg
theorem wlen : ∀ w : Fin 8, zshr (zsl w.val) 0 = zi (zsn w.val) ∧ zsn w.val ≤ 6 ∧ 3 ≤ zsn w.val := by decide +kernel
theorem wchr : ∀ w : Fin 8, ∀ i : Fin 6, i.val < zsn w.val → zi2c ((zsc w.val (zi i.val)) &&& (255 : Int32)) = zi (wch w.val i.val) ∧ zi2c (zi (wch w.val i.val)) = zi (wch w.val i.val) ∧ 97 ≤ wch w.val i.val ∧ wch w.val i.val ≤ 122 ∧ zi i.val < zsl w.val := by decide +kernel
theorem x_len {w : Nat} {μ : zMem} (hw : w < 8) : fJ0_length_8abf5 w μ = some (0, zi (zsn w), μ) := by
  have h := (wlen ⟨w, hw⟩).1
  unfold fJ0_length_8abf5 fJ0_coder_7d493
  rw [zlet_e, if_neg (show ¬ (1 : Int32) = 0 from by decide)]
  show bnd0 (zbl (zi 0) (some (0, zi 0, μ))) _ = _
  rw [zbl_0, bnd0_ok]
  show some (0, zshr (zsl w) 0, μ) = _
  rw [h]
theorem x_chr {w i : Nat} {μ : zMem} (hw : w < 8) (hi : i < zsn w) : fJ0_charAt_5068e w (zi i) μ = some (0, zi (wch w i), μ) := by
  have hl := (wlen ⟨w, hw⟩).2.1
  have hi6 : i < 6 := Nat.lt_of_lt_of_le hi hl
  obtain ⟨h1, h2, h3, h4, h5⟩ := wchr ⟨w, hw⟩ ⟨i, hi6⟩ hi
  dsimp only at h1 h2 h3 h4 h5
  have hch : ∀ A, zch (zi (wch w i)) A = A := fun A => if_pos h2
  unfold fJ0_charAt_5068e fJ0_isLatin1_aae02 fJ1_charAt_3b067 fJ0_checkIndex_df160
  rw [zlet_e, zlet_e, if_neg (show ¬ (1 : Int32) = 0 from by decide), if_pos (show (0 : Int32) = 0 from rfl)]
  show bnd0 (zbl (zi 1) (some (0, zi 1, μ))) _ = _
  rw [zbl_1, bnd0_ok, if_neg (show ¬ zi 1 = (0 : Int32) from by decide), if_neg (show ¬ zi i < (0 : Int32) from by rw [show (0 : Int32) = zi 0 from rfl, zi_lt (by omega) (by omega)]; omega), if_pos h5]
  show bnd0 (zin (zi i) (zsn w) _) _ = _
  rw [zin_i hi (by omega), h1, hch, bnd0_ok, hch]
def wIs (w : Nat) (c : Nat → Nat) (b l : Nat) : Bool := decide (l = zsn w) && ball (fun i => decide (c (b + i) = wch w i)) (zsn w)
theorem wIs_iff {w : Nat} {c : Nat → Nat} {b l : Nat} : wIs w c b l = true ↔ l = zsn w ∧ ∀ i, i < zsn w → c (b + i) = wch w i := by
  unfold wIs
  rw [Bool.and_eq_true, decide_eq_true_iff, ball_iff]
  exact ⟨fun h => ⟨h.1, fun i hi => of_decide_eq_true (h.2 i hi)⟩, fun h => ⟨h.1, fun i hi => decide_eq_true (h.2 i hi)⟩⟩
theorem x_stands {c : Nat → Nat} {N b e w : Nat} {μ : zMem} (hw : w < 8) (hc : tx c N μ) (h3 : μ 22 3 = zi e) (hbe : b ≤ e) (heN : e ≤ N) : f3_stands w (zi b) μ = some (0, zi (b01 (wIs w c b (e - b))), μ) := by
  have hN := hc.1
  have hl := (wlen ⟨w, hw⟩).2.1
  dsimp only at hl
  unfold f3_stands
  rw [x_len hw, bnd0_ok, h3, zi_sub hbe]
  by_cases el : e - b = zsn w
  · rw [if_pos (by rw [el])]
    have h := zloopQ (L := fun n i (_ : Unit) => f3_stands_L17 w (zi b) (fun (μ14 : zMem) => some (0, (1 : Int32), μ14)) (fun (μ15 : zMem) => some (0, (0 : Int32), μ15)) n (zi i) μ) (N := zsn w) (fun r => r = some (0, zi (b01 (wIs w c b (e - b))), μ)) (fun i _ => ∀ j, j < i → c (b + j) = wch w j)
      (fun n _ hI => by
        show f3_stands_L17 w (zi b) _ _ (n + 1) (zi (zsn w)) μ = _
        rw [f3_stands_L17, x_len hw, bnd0_ok, if_pos (Int32.le_refl _), wIs_iff.2 ⟨el, hI⟩]; rfl)
      (fun n i _ hi hI => by
        have hb := (hc.2 (b + i) (by omega)).1
        have hwc := (wchr ⟨w, hw⟩ ⟨i, by omega⟩ hi).2.2.2.1
        dsimp only at hwc
        have hq : f3_stands_L17 w (zi b) (fun (μ14 : zMem) => some (0, (1 : Int32), μ14)) (fun (μ15 : zMem) => some (0, (0 : Int32), μ15)) (n + 1) (zi i) μ = if c (b + i) = wch w i then f3_stands_L17 w (zi b) (fun (μ14 : zMem) => some (0, (1 : Int32), μ14)) (fun (μ15 : zMem) => some (0, (0 : Int32), μ15)) n (zi (i + 1)) μ else some (0, (0 : Int32), μ) := by
          rw [f3_stands_L17, x_len hw, bnd0_ok, if_neg (show ¬ zi (zsn w) ≤ zi i from by rw [zi_le (by omega) (by omega)]; omega), zi_add, zin_i (by omega) (by omega), x_chr hw hi, bnd0_ok, zi_cl (by omega), (hc.2 (b + i) (by omega)).2, show zi i + (1 : Int32) = zi (i + 1) from zi_add i 1]
          by_cases ec : c (b + i) = wch w i
          · rw [if_pos (by rw [ec]), if_pos ec]
          · rw [if_neg (by rw [zi_eq (by omega) (by omega)]; exact ec), if_neg ec]
        by_cases ec : c (b + i) = wch w i
        · right
          refine ⟨(), ?_, fun j hj => ?_⟩
          · show f3_stands_L17 w (zi b) _ _ (n + 1) (zi i) μ = _
            rw [hq, if_pos ec]
          · by_cases ej : j = i
            · rw [ej]; exact ec
            · exact hI j (by omega)
        · left
          show f3_stands_L17 w (zi b) _ _ (n + 1) (zi i) μ = _
          have : wIs w c b (e - b) = false := by
            cases q : wIs w c b (e - b)
            · rfl
            · exact absurd ((wIs_iff.1 q).2 i hi) ec
          rw [hq, if_neg ec, this]; rfl)
      (zsn w) 0 () zF (by omega) (by unfold zF; omega) (fun j hj => absurd hj (by omega))
    exact h
  · have : wIs w c b (e - b) = false := by
      cases q : wIs w c b (e - b)
      · rfl
      · exact absurd (wIs_iff.1 q).1 el
    rw [if_neg (by rw [zi_eq (by omega) (by omega)]; exact el), this]; rfl
/-- which word stands there: 1 asks, 2 person .. 8 slate, 0 none -/
def wK (c : Nat → Nat) (b l : Nat) : Nat := if wIs 0 c b l = true then 1 else if wIs 1 c b l = true then 2 else if wIs 2 c b l = true then 3 else if wIs 3 c b l = true then 4 else if wIs 4 c b l = true then 5 else if wIs 5 c b l = true then 6 else if wIs 6 c b l = true then 7 else if wIs 7 c b l = true then 8 else 0
def we9 (c : Nat → Nat) (N a : Nat) : Nat := advN (isL c) N a
theorem x_readWord {c : Nat → Nat} {N a : Nat} {μ : zMem} (hc : tx c N μ) (hA : xA N a μ) : f3_readWord μ = some (0, zi (wK c a (we9 c N a - a)), zset μ 22 3 (zi (we9 c N a))) := by
  obtain ⟨A1, A2, A3⟩ := hA
  have hN := hc.1
  obtain ⟨w1, w2, -, -⟩ := advN_sp (p := isL c) A3
  have h := fun K => zloopQ (L := fun n i (_ : Unit) => f3_readWord_L5 K n (zset μ 22 3 (zi i))) (N := N) (fun r => r = K (zset μ 22 3 (zi (we9 c N a)))) (fun i _ => a ≤ i ∧ ∀ j, a ≤ j → j < i → isL c j = true)
    (fun n _ hi => by
      show f3_readWord_L5 K (n + 1) (zset μ 22 3 (zi N)) = _
      rw [f3_readWord_L5, zset_eq, zset_nj (by decide), A1, if_pos (Int32.le_refl _), show we9 c N a = N from advN_eq hi.1 (Nat.le_refl _) hi.2 (Or.inl rfl)])
    (fun n i _ hi hI => by
      have hb := (hc.2 i hi).1
      have hq : f3_readWord_L5 K (n + 1) (zset μ 22 3 (zi i)) = if isL c i = true then f3_readWord_L5 K n (zset μ 22 3 (zi (i + 1))) else K (zset μ 22 3 (zi i)) := by
        rw [f3_readWord_L5, zset_eq, zset_nj (by decide), A1, if_neg (show ¬ zi N ≤ zi i from by rw [zi_le (by omega) (by omega)]; omega), zin_i (by omega) (by omega), zin_i (by omega) (by omega), zi_cl (by omega), zset_nk (by decide), (hc.2 i hi).2, zlet_e, zset_zset, show zi i + (1 : Int32) = zi (i + 1) from zi_add i 1]
        by_cases c1 : c i < 97
        · rw [if_pos (show zi (c i) < (97 : Int32) from by rw [show (97 : Int32) = zi 97 from rfl, zi_lt (by omega) (by omega)]; exact c1), show isL c i = false from decide_eq_false (fun q => by omega)]; rfl
        · rw [if_neg (show ¬ zi (c i) < (97 : Int32) from by rw [show (97 : Int32) = zi 97 from rfl, zi_lt (by omega) (by omega)]; exact c1)]
          by_cases c2 : 122 < c i
          · rw [if_pos (show (122 : Int32) < zi (c i) from by rw [show (122 : Int32) = zi 122 from rfl, zi_lt (by omega) (by omega)]; exact c2), show isL c i = false from decide_eq_false (fun q => by omega)]; rfl
          · rw [if_neg (show ¬ (122 : Int32) < zi (c i) from by rw [show (122 : Int32) = zi 122 from rfl, zi_lt (by omega) (by omega)]; exact c2), show isL c i = true from decide_eq_true (by omega)]; rfl
      cases e : isL c i
      · left
        show f3_readWord_L5 K (n + 1) (zset μ 22 3 (zi i)) = _
        rw [hq, e, if_neg Bool.false_ne_true, show we9 c N a = i from advN_eq hI.1 (by omega) hI.2 (Or.inr e)]
      · right
        refine ⟨(), ?_, by omega, fun j h1 h2 => ?_⟩
        · show f3_readWord_L5 K (n + 1) (zset μ 22 3 (zi i)) = _
          rw [hq, e, if_pos rfl]
        · by_cases ej : j = i
          · rw [ej]; exact e
          · exact hI.2 j h1 (by omega))
    (N - a) a () zF (by omega) (by unfold zF; omega) ⟨Nat.le_refl _, fun j h1 h2 => absurd h2 (by omega)⟩
  rw [zset_same A2] at h
  have st : ∀ w, w < 8 → f3_stands w (zi a) (zset μ 22 3 (zi (we9 c N a))) = some (0, zi (b01 (wIs w c a (we9 c N a - a))), zset μ 22 3 (zi (we9 c N a))) := fun w hw => x_stands hw (tx_22 hc) zset_eq w1 w2
  have bt : ∀ {b : Bool}, (zi (b01 b) = (0 : Int32)) = (b = false) := fun {b} => by
    cases b
    · exact eq_true rfl |>.trans (eq_true rfl).symm
    · exact eq_false (by decide) |>.trans (eq_false (by decide)).symm
  unfold f3_readWord
  rw [zlet_e, zlet_e, A2]
  refine (h _).trans ?_
  show bnd0 (f3_stands 0 (zi a) _) _ = _
  unfold wK
  simp only [st 0 (by decide), st 1 (by decide), st 2 (by decide), st 3 (by decide), st 4 (by decide), st 5 (by decide), st 6 (by decide), st 7 (by decide), bnd0_ok', bt, zlet_e']
  generalize wIs 0 c a (we9 c N a - a) = q0
  generalize wIs 1 c a (we9 c N a - a) = q1
  generalize wIs 2 c a (we9 c N a - a) = q2
  generalize wIs 3 c a (we9 c N a - a) = q3
  generalize wIs 4 c a (we9 c N a - a) = q4
  generalize wIs 5 c a (we9 c N a - a) = q5
  generalize wIs 6 c a (we9 c N a - a) = q6
  generalize wIs 7 c a (we9 c N a - a) = q7
  cases q0
  · cases q1
    · cases q2
      · cases q3
        · cases q4
          · cases q5
            · cases q6
              · cases q7 <;> rfl
              · rfl
            · rfl
          · rfl
        · rfl
      · rfl
    · rfl
  · rfl
