/-! THE PURE SIDE, 78: a TOWN's text, the reference's words; digits -/
def v27 (f : Nat → Nat) (l : Nat) : Nat := zit (fun i v => 27 * v + f i) l 0 0
theorem v27_s {f : Nat → Nat} {l : Nat} : v27 f (l + 1) = 27 * v27 f l + f l := by
  unfold v27
  rw [zit_succ, Nat.zero_add]
theorem v27_inj {f g : Nat → Nat} : ∀ l l', (∀ i, i < l → 1 ≤ f i ∧ f i ≤ 26) → (∀ i, i < l' → 1 ≤ g i ∧ g i ≤ 26) → v27 f l = v27 g l' → l = l' ∧ ∀ i, i < l → f i = g i
  | 0, 0, _, _, _ => ⟨rfl, fun i hi => absurd hi (by omega)⟩
  | 0, l' + 1, _, hg, h => by
    have := hg l' (by omega)
    rw [v27_s, show v27 f 0 = 0 from rfl] at h
    omega
  | l + 1, 0, hf, _, h => by
    have := hf l (by omega)
    rw [v27_s, show v27 g 0 = 0 from rfl] at h
    omega
  | l + 1, l' + 1, hf, hg, h => by
    have k1 := hf l (by omega)
    have k2 := hg l' (by omega)
    rw [v27_s, v27_s] at h
    have e1 : v27 f l = v27 g l' := by omega
    have e2 : f l = g l' := by omega
    obtain ⟨e3, e4⟩ := v27_inj l l' (fun i hi => hf i (by omega)) (fun i hi => hg i (by omega)) e1
    subst e3
    refine ⟨rfl, fun i hi => ?_⟩
    by_cases e : i = l
    · rw [e]; exact e2
    · exact e4 i (by omega)
theorem v27_lt {f : Nat → Nat} : ∀ l, (∀ i, i < l → f i ≤ 26) → v27 f l < 27 ^ l
  | 0, _ => Nat.one_pos
  | l + 1, h => by
    have h1 := v27_lt l (fun i hi => h i (by omega))
    have h2 := h l (by omega)
    rw [v27_s, Nat.pow_succ]
    omega
def lvw (w : Nat) : Nat := v27 (fun i => wch w i - 96) (zsn w)
theorem lvw_lt : ∀ w : Fin 8, lvw w.val < 2147483648 := by decide +kernel
theorem wIs_lv {c : Nat → Nat} {b l w : Nat} (hw : w < 8) (hl : ∀ i, i < l → 97 ≤ c (b + i) ∧ c (b + i) ≤ 122) : wIs w c b l = true ↔ v27 (fun i => c (b + i) - 96) l = lvw w := by
  have hn := (wlen ⟨w, hw⟩).2.1
  have hwc : ∀ i, i < zsn w → 97 ≤ wch w i ∧ wch w i ≤ 122 := fun i hi => by
    have := wchr ⟨w, hw⟩ ⟨i, Nat.lt_of_lt_of_le hi hn⟩ hi
    exact ⟨this.2.2.1, this.2.2.2.1⟩
  rw [wIs_iff]
  constructor
  · rintro ⟨h1, h2⟩
    unfold lvw v27
    rw [h1]
    exact zit_congr _ _ _ (fun j t _ hj => by dsimp only; rw [h2 j (by omega)])
  · intro h
    obtain ⟨h1, h2⟩ := v27_inj l (zsn w) (fun i hi => by have := hl i hi; omega) (fun i hi => by have := hwc i hi; omega) h
    refine ⟨h1, fun i hi => ?_⟩
    have k1 := h2 i (by omega)
    have k2 := hl i (by omega)
    have k3 := hwc i hi
    omega
theorem we9_sp {c : Nat → Nat} {N a : Nat} (h : a ≤ N) : a ≤ we9 c N a ∧ we9 c N a ≤ N ∧ (∀ i, i < we9 c N a - a → 97 ≤ c (a + i) ∧ c (a + i) ≤ 122) ∧ (we9 c N a = N ∨ isL c (we9 c N a) = false) := by
  obtain ⟨h1, h2, h3, h4⟩ := advN_sp (p := isL c) h
  exact ⟨h1, h2, fun i hi => of_decide_eq_true (h3 (a + i) (by omega) (by have : we9 c N a = advN (isL c) N a := rfl; omega)), h4⟩
theorem bl9_id {c : Nat → Nat} {N a : Nat} (h : a ≤ N) : bl9 c N (bl9 c N a) = bl9 c N a := by
  obtain ⟨h1, h2, h3, h4⟩ := advN_sp (p := isB c) h
  exact advN_eq (Nat.le_refl _) h2 (fun j k1 k2 => by omega) h4
/-- the code of the word there -/
def wv (c : Nat → Nat) (b l : Nat) : Int32 := if l ≤ 6 then zi (v27 (fun i => c (b + i) - 96) l) else zN1
theorem m_wordHere {c : Nat → Nat} {N a : Nat} {μ : zMem} (hc : tx c N μ) (hA : mA N a μ) : f9_wordHere μ = some (0, wv c (bl9 c N a) (we9 c N (bl9 c N a) - bl9 c N a), zset μ 0 4 (zi (bl9 c N a))) := by
  have hN := hc.1
  obtain ⟨b1, b2⟩ := bl9_sp (c := c) hA.2.2
  obtain ⟨w1, w2, w3, w4⟩ := we9_sp (c := c) b2
  have e02 : zset μ 0 4 (zi (bl9 c N a)) 0 2 = zi N := by rw [zset_nj (by decide)]; exact hA.1
  have hby : ∀ i, i ≤ we9 c N (bl9 c N a) - bl9 c N a → f9_byteAt (zset μ 0 4 (zi (bl9 c N a)) 0 4 + zi i) (zset μ 0 4 (zi (bl9 c N a))) = some (0, byA c N (bl9 c N a + i), zset μ 0 4 (zi (bl9 c N a))) := fun i hi => by
    rw [zset_eq, zi_add]; exact m_byteAt (tx_0 hc) e02 (by omega)
  have hL := fun (K : Int32 → Int32 → zMem → zRes) => zloopF (L := fun n i (v : Nat) => f9_wordHere_L8 K n (zi v) (zi i) (zset μ 0 4 (zi (bl9 c N a)))) (N := we9 c N (bl9 c N a) - bl9 c N a) (F := fun i v => if 6 ≤ i then v else 27 * v + (c (bl9 c N a + i) - 96)) (o := fun v => K (zi v) (zi (we9 c N (bl9 c N a) - bl9 c N a)) (zset μ 0 4 (zi (bl9 c N a)))) (fun _ _ => True)
    (fun n v _ => by
      show f9_wordHere_L8 K (n + 1) (zi v) (zi (we9 c N (bl9 c N a) - bl9 c N a)) (zset μ 0 4 (zi (bl9 c N a))) = _
      rw [f9_wordHere_L8, hby _ (Nat.le_refl _), bnd0_ok, hby _ (Nat.le_refl _), bnd0_ok, show bl9 c N a + (we9 c N (bl9 c N a) - bl9 c N a) = we9 c N (bl9 c N a) by omega]
      unfold byA
      by_cases q : we9 c N (bl9 c N a) < N
      · have hq := (hc.2 _ q).1
        rw [if_pos q]
        have hn : ¬ (97 ≤ c (we9 c N (bl9 c N a)) ∧ c (we9 c N (bl9 c N a)) ≤ 122) := of_decide_eq_false (w4.resolve_left (by omega))
        by_cases c1 : c (we9 c N (bl9 c N a)) < 97
        · rw [if_pos (show zi (c (we9 c N (bl9 c N a))) < (97 : Int32) from by rw [show (97 : Int32) = zi 97 from rfl, zi_lt (by omega) (by omega)]; exact c1)]
        · rw [if_neg (show ¬ zi (c (we9 c N (bl9 c N a))) < (97 : Int32) from by rw [show (97 : Int32) = zi 97 from rfl, zi_lt (by omega) (by omega)]; exact c1), if_pos (show (122 : Int32) < zi (c (we9 c N (bl9 c N a))) from by rw [show (122 : Int32) = zi 122 from rfl, zi_lt (by omega) (by omega)]; omega)]
      · rw [if_neg q, if_pos (show zN1 < (97 : Int32) from by decide)])
    (fun n i v hi _ => by
      refine ⟨?_, trivial⟩
      obtain ⟨l1, l2⟩ := w3 i hi
      have hba : byA c N (bl9 c N a + i) = zi (c (bl9 c N a + i)) := if_pos (by omega)
      have z1 : zi i + (1 : Int32) = zi (i + 1) := zi_add i 1
      show f9_wordHere_L8 K (n + 1) (zi v) (zi i) (zset μ 0 4 (zi (bl9 c N a))) = _
      rw [f9_wordHere_L8, hby i (by omega), bnd0_ok, hby i (by omega), bnd0_ok, hba, if_neg (show ¬ zi (c (bl9 c N a + i)) < (97 : Int32) from by rw [show (97 : Int32) = zi 97 from rfl, zi_lt (by omega) (by omega)]; omega), if_neg (show ¬ (122 : Int32) < zi (c (bl9 c N a + i)) from by rw [show (122 : Int32) = zi 122 from rfl, zi_lt (by omega) (by omega)]; omega), zlet_e, z1]
      by_cases c6 : 6 ≤ i
      · rw [if_pos (show (6 : Int32) ≤ zi i from by rw [show (6 : Int32) = zi 6 from rfl, zi_le (by omega) (by omega)]; exact c6), if_pos c6]
      · rw [if_neg (show ¬ (6 : Int32) ≤ zi i from by rw [show (6 : Int32) = zi 6 from rfl, zi_le (by omega) (by omega)]; exact c6), if_neg c6, hby i (by omega), bnd0_ok, hba, show (27 : Int32) = zi 27 from rfl, zi_mul, zi_add, show (97 : Int32) = zi 97 from rfl, zi_sub (by omega), show (1 : Int32) = zi 1 from rfl, zi_add, show 27 * v + c (bl9 c N a + i) - 97 + 1 = 27 * v + (c (bl9 c N a + i) - 96) by omega])
    (we9 c N (bl9 c N a) - bl9 c N a) 0 0 zF (by omega) (by unfold zF; omega) trivial
  unfold f9_wordHere wv
  rw [m_blanks hc hA, bnd0_ok, zlet_e]
  refine ((hL _).1).trans ?_
  show zlet _ _ = _
  rw [zlet_e]
  by_cases c6 : we9 c N (bl9 c N a) - bl9 c N a ≤ 6
  · rw [if_pos (show zi (we9 c N (bl9 c N a) - bl9 c N a) ≤ (6 : Int32) from by rw [show (6 : Int32) = zi 6 from rfl, zi_le (by omega) (by omega)]; exact c6), if_pos c6]
    have e : zit (fun i v => if 6 ≤ i then v else 27 * v + (c (bl9 c N a + i) - 96)) (we9 c N (bl9 c N a) - bl9 c N a) 0 0 = v27 (fun i => c (bl9 c N a + i) - 96) (we9 c N (bl9 c N a) - bl9 c N a) := zit_congr _ _ _ (fun j t _ hj => by rw [if_neg (by omega)])
    rw [e]
  · rw [if_neg (show ¬ zi (we9 c N (bl9 c N a) - bl9 c N a) ≤ (6 : Int32) from by rw [show (6 : Int32) = zi 6 from rfl, zi_le (by omega) (by omega)]; exact c6), if_neg c6]; rfl
theorem m_isWord {c : Nat → Nat} {N a w : Nat} {x1 x2 x3 x4 x5 x6 : Int32} {μ : zMem} (hw : w < 8) (hn : ∀ μ, f9_named x1 x2 x3 x4 x5 x6 μ = some (0, zi (lvw w), μ)) (hc : tx c N μ) (hA : mA N a μ) (h5 : μ 0 5 = zi 0) : f9_isWord x1 x2 x3 x4 x5 x6 μ = some (0, zi (b01 (wIs w c (bl9 c N a) (we9 c N (bl9 c N a) - bl9 c N a))), zset μ 0 4 (zi (bl9 c N a))) := by
  have hN := hc.1
  have b0 : ∀ A, zbl (0 : Int32) A = A := fun A => zbl_0
  have b1 : ∀ A, zbl (1 : Int32) A = A := fun A => zbl_1
  obtain ⟨k1, k2⟩ := bl9_sp (c := c) hA.2.2
  obtain ⟨w1, w2, w3, w4⟩ := we9_sp (c := c) k2
  have hlw := lvw_lt ⟨w, hw⟩
  dsimp only at hlw
  have hiff := wIs_lv (b := bl9 c N a) hw w3
  unfold f9_isWord
  rw [zlet_e, zlet_e, h5, if_pos (show zi 0 = (0 : Int32) from rfl), m_wordHere hc hA, bnd0_ok, hn, bnd0_ok]
  have key : (wv c (bl9 c N a) (we9 c N (bl9 c N a) - bl9 c N a) = zi (lvw w)) ↔ wIs w c (bl9 c N a) (we9 c N (bl9 c N a) - bl9 c N a) = true := by
    unfold wv
    by_cases c6 : we9 c N (bl9 c N a) - bl9 c N a ≤ 6
    · have hv : v27 (fun i => c (bl9 c N a + i) - 96) (we9 c N (bl9 c N a) - bl9 c N a) < 27 ^ (we9 c N (bl9 c N a) - bl9 c N a) := v27_lt _ (fun i hi => by have := w3 i hi; omega)
      have h6 : 27 ^ (we9 c N (bl9 c N a) - bl9 c N a) ≤ 27 ^ 6 := Nat.pow_le_pow_right (by decide) c6
      rw [if_pos c6, zi_eq (by omega) hlw, hiff]
    · rw [if_neg c6, zi_nN1' hlw]
      constructor
      · exact fun q => q.elim
      · intro q
        have := (wIs_iff.1 q).1
        have := (wlen ⟨w, hw⟩).2.1
        dsimp only at this
        omega
  cases q : wIs w c (bl9 c N a) (we9 c N (bl9 c N a) - bl9 c N a)
  · rw [if_neg (fun e => by rw [key.1 e] at q; exact absurd q (by decide))]
    show zbl (0 : Int32) _ = _
    rw [b0]; rfl
  · rw [if_pos (key.2 q)]
    show zbl (1 : Int32) _ = _
    rw [b1]; rfl
theorem nmC : ∀ μ : zMem, f9_named (1 : Int32) (19 : Int32) (11 : Int32) (19 : Int32) (0 : Int32) (0 : Int32) μ = some (0, zi (lvw 0), μ)
    ∧ f9_named (16 : Int32) (5 : Int32) (18 : Int32) (19 : Int32) (15 : Int32) (14 : Int32) μ = some (0, zi (lvw 1), μ)
    ∧ f9_named (6 : Int32) (5 : Int32) (9 : Int32) (7 : Int32) (14 : Int32) (19 : Int32) μ = some (0, zi (lvw 2), μ)
    ∧ f9_named (11 : Int32) (9 : Int32) (14 : Int32) (0 : Int32) (0 : Int32) (0 : Int32) μ = some (0, zi (lvw 3), μ)
    ∧ f9_named (4 : Int32) (15 : Int32) (15 : Int32) (18 : Int32) (0 : Int32) (0 : Int32) μ = some (0, zi (lvw 4), μ)
    ∧ f9_named (7 : Int32) (1 : Int32) (16 : Int32) (0 : Int32) (0 : Int32) (0 : Int32) μ = some (0, zi (lvw 5), μ)
    ∧ f9_named (4 : Int32) (1 : Int32) (25 : Int32) (0 : Int32) (0 : Int32) (0 : Int32) μ = some (0, zi (lvw 6), μ)
    ∧ f9_named (19 : Int32) (12 : Int32) (1 : Int32) (20 : Int32) (5 : Int32) (0 : Int32) μ = some (0, zi (lvw 7), μ) := fun μ => ⟨rfl, rfl, rfl, rfl, rfl, rfl, rfl, rfl⟩
/-- only one word stands there -/
theorem lvw_ne : ∀ w w' : Fin 8, w ≠ w' → lvw w.val ≠ lvw w'.val := by decide +kernel
theorem wIs_one {c : Nat → Nat} {b l w w' : Nat} (hw : w < 8) (hw' : w' < 8) (hl : ∀ i, i < l → 97 ≤ c (b + i) ∧ c (b + i) ≤ 122) (h : wIs w c b l = true) (h' : wIs w' c b l = true) : w = w' := by
  apply Classical.byContradiction
  intro hne
  exact lvw_ne ⟨w, hw⟩ ⟨w', hw'⟩ (fun e => hne (congrArg Fin.val e)) (((wIs_lv hw hl).1 h).symm.trans ((wIs_lv hw' hl).1 h'))
def kR (k : Nat) : Int32 := if k < 2 then zN1 else zi (k - 2)
theorem m_kindHere {c : Nat → Nat} {N a : Nat} {μ : zMem} (hc : tx c N μ) (hA : mA N a μ) (h5 : μ 0 5 = zi 0) : f9_kindHere μ = some (0, kR (wK c (bl9 c N a) (we9 c N (bl9 c N a) - bl9 c N a)), zset μ 0 4 (zi (bl9 c N a))) := by
  obtain ⟨k1, k2⟩ := bl9_sp (c := c) hA.2.2
  obtain ⟨w1, w2, w3, w4⟩ := we9_sp (c := c) k2
  have hA1 : mA N (bl9 c N a) (zset μ 0 4 (zi (bl9 c N a))) := ⟨by rw [zset_nj (by decide)]; exact hA.1, zset_eq, k2⟩
  have h51 : zset μ 0 4 (zi (bl9 c N a)) 0 5 = zi 0 := by rw [zset_nj (by decide)]; exact h5
  have st : ∀ w x1 x2 x3 x4 x5 x6, w < 8 → (∀ μ, f9_named x1 x2 x3 x4 x5 x6 μ = some (0, zi (lvw w), μ)) → f9_isWord x1 x2 x3 x4 x5 x6 (zset μ 0 4 (zi (bl9 c N a))) = some (0, zi (b01 (wIs w c (bl9 c N a) (we9 c N (bl9 c N a) - bl9 c N a))), zset μ 0 4 (zi (bl9 c N a))) := fun w x1 x2 x3 x4 x5 x6 hw hn => by
    have := m_isWord hw hn (tx_0 hc) hA1 h51
    rw [bl9_id hA.2.2, zset_zset] at this
    exact this
  have f1 := m_isWord (w := 1) (by decide) (fun μ => (nmC μ).2.1) hc hA h5
  have f2 := st 2 _ _ _ _ _ _ (by decide) (fun μ => (nmC μ).2.2.1)
  have f3 := st 3 _ _ _ _ _ _ (by decide) (fun μ => (nmC μ).2.2.2.1)
  have f4 := st 4 _ _ _ _ _ _ (by decide) (fun μ => (nmC μ).2.2.2.2.1)
  have f5 := st 5 _ _ _ _ _ _ (by decide) (fun μ => (nmC μ).2.2.2.2.2.1)
  have f6 := st 6 _ _ _ _ _ _ (by decide) (fun μ => (nmC μ).2.2.2.2.2.2.1)
  have f7 := st 7 _ _ _ _ _ _ (by decide) (fun μ => (nmC μ).2.2.2.2.2.2.2)
  have bt : ∀ {b : Bool}, (zi (b01 b) = (0 : Int32)) = (b = false) := fun {b} => by
    cases b
    · exact eq_true rfl |>.trans (eq_true rfl).symm
    · exact eq_false (by decide) |>.trans (eq_false (by decide)).symm
  unfold f9_kindHere wK
  simp only [f1, f2, f3, f4, f5, f6, f7, bnd0_ok', bt, zlet_e']
  cases q0 : wIs 0 c (bl9 c N a) (we9 c N (bl9 c N a) - bl9 c N a)
  · generalize wIs 1 c (bl9 c N a) (we9 c N (bl9 c N a) - bl9 c N a) = q1
    generalize wIs 2 c (bl9 c N a) (we9 c N (bl9 c N a) - bl9 c N a) = q2
    generalize wIs 3 c (bl9 c N a) (we9 c N (bl9 c N a) - bl9 c N a) = q3
    generalize wIs 4 c (bl9 c N a) (we9 c N (bl9 c N a) - bl9 c N a) = q4
    generalize wIs 5 c (bl9 c N a) (we9 c N (bl9 c N a) - bl9 c N a) = q5
    generalize wIs 6 c (bl9 c N a) (we9 c N (bl9 c N a) - bl9 c N a) = q6
    generalize wIs 7 c (bl9 c N a) (we9 c N (bl9 c N a) - bl9 c N a) = q7
    cases q1
    · cases q2
      · cases q3
        · cases q4
          · cases q5
            · cases q6
              · cases q7 <;> rfl
              · rfl
            · rfl
          · rfl
        · rfl
      · rfl
    · rfl
  · have no : ∀ w, w < 8 → w ≠ 0 → wIs w c (bl9 c N a) (we9 c N (bl9 c N a) - bl9 c N a) = false := fun w hw hne => by
      cases q : wIs w c (bl9 c N a) (we9 c N (bl9 c N a) - bl9 c N a)
      · rfl
      · exact absurd (wIs_one hw (by decide) w3 q q0) hne
    rw [no 1 (by decide) (by decide), no 2 (by decide) (by decide), no 3 (by decide) (by decide), no 4 (by decide) (by decide), no 5 (by decide) (by decide), no 6 (by decide) (by decide), no 7 (by decide) (by decide)]
    rfl
theorem m_skipWord {c : Nat → Nat} {N a : Nat} {μ : zMem} (hc : tx c N μ) (hA : mA N a μ) : f9_skipWord μ = some (0, zi 0, zset μ 0 4 (zi (we9 c N a))) := by
  obtain ⟨A1, A2, A3⟩ := hA
  have hN := hc.1
  have h := zloopQ (L := fun n i (_ : Unit) => f9_skipWord_L0 (fun (μ12 : zMem) => (fun (μ1 : zMem) => some (0, 0, μ1)) μ12) n (zset μ 0 4 (zi i))) (N := N) (fun r => r = some (0, zi 0, zset μ 0 4 (zi (we9 c N a)))) (fun i _ => a ≤ i ∧ ∀ j, a ≤ j → j < i → isL c j = true)
    (fun n _ hi => by
      show f9_skipWord_L0 _ (n + 1) (zset μ 0 4 (zi N)) = _
      rw [f9_skipWord_L0, zset_eq, m_byteAt (tx_0 hc) (by rw [zset_nj (by decide)]; exact A1) (by omega), bnd0_ok, show byA c N N = zN1 from if_neg (by omega), if_pos (show zN1 < (97 : Int32) from by decide), show we9 c N a = N from advN_eq hi.1 (Nat.le_refl _) hi.2 (Or.inl rfl)]; rfl)
    (fun n i _ hi hI => by
      have hb := (hc.2 i hi).1
      have hba : byA c N i = zi (c i) := if_pos hi
      have hq : f9_skipWord_L0 (fun (μ12 : zMem) => (fun (μ1 : zMem) => some (0, 0, μ1)) μ12) (n + 1) (zset μ 0 4 (zi i)) = if isL c i = true then f9_skipWord_L0 (fun (μ12 : zMem) => (fun (μ1 : zMem) => some (0, 0, μ1)) μ12) n (zset μ 0 4 (zi (i + 1))) else some (0, 0, zset μ 0 4 (zi i)) := by
        rw [f9_skipWord_L0, zset_eq, m_byteAt (tx_0 hc) (by rw [zset_nj (by decide)]; exact A1) (by omega), bnd0_ok, zset_eq, m_byteAt (tx_0 hc) (by rw [zset_nj (by decide)]; exact A1) (by omega), bnd0_ok, hba, zlet_e, zset_zset, zset_eq, show zi i + (1 : Int32) = zi (i + 1) from zi_add i 1]
        by_cases c1 : c i < 97
        · rw [if_pos (show zi (c i) < (97 : Int32) from by rw [show (97 : Int32) = zi 97 from rfl, zi_lt (by omega) (by omega)]; exact c1), show isL c i = false from decide_eq_false (fun q => by omega)]; rfl
        · rw [if_neg (show ¬ zi (c i) < (97 : Int32) from by rw [show (97 : Int32) = zi 97 from rfl, zi_lt (by omega) (by omega)]; exact c1)]
          by_cases c2 : 122 < c i
          · rw [if_pos (show (122 : Int32) < zi (c i) from by rw [show (122 : Int32) = zi 122 from rfl, zi_lt (by omega) (by omega)]; exact c2), show isL c i = false from decide_eq_false (fun q => by omega)]; rfl
          · rw [if_neg (show ¬ (122 : Int32) < zi (c i) from by rw [show (122 : Int32) = zi 122 from rfl, zi_lt (by omega) (by omega)]; exact c2), show isL c i = true from decide_eq_true (by omega)]; rfl
      cases e : isL c i
      · left
        show f9_skipWord_L0 _ (n + 1) (zset μ 0 4 (zi i)) = _
        rw [hq, e, if_neg Bool.false_ne_true, show we9 c N a = i from advN_eq hI.1 (by omega) hI.2 (Or.inr e)]; rfl
      · right
        refine ⟨(), ?_, by omega, fun j h1 h2 => ?_⟩
        · show f9_skipWord_L0 _ (n + 1) (zset μ 0 4 (zi i)) = _
          rw [hq, e, if_pos rfl]
        · by_cases ej : j = i
          · rw [ej]; exact e
          · exact hI.2 j h1 (by omega))
    (N - a) a () zF (by omega) (by unfold zF; omega) ⟨Nat.le_refl _, fun j h1 h2 => absurd h2 (by omega)⟩
  rw [zset_same A2] at h
  unfold f9_skipWord
  rw [zlet_e]; exact h
