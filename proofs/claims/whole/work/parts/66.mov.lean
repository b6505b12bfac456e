/-! THE PURE SIDE, 7: the reference lays its scene aside, and takes it back -/
/-- the place of a cell in an image -/
def kidx (key j : Nat) : Nat :=
  if key = 0 ∧ j = 20 then 0 else if key = 0 ∧ j = 21 then 1 else if 51 ≤ key ∧ key < 60 ∧ j < 4 then 2 + 4 * (key - 51) + j
  else if key = 91 ∧ j < 9 then 38 + j else if key = 92 ∧ j < 10 then 47 + j else if 61 ≤ key ∧ key < 91 ∧ j < 4 then 57 + 4 * (key - 61) + j else 1000
theorem kidx_inj {key j key' j' : Nat} (h : kidx key j = kidx key' j') (hs : kidx key j < 177) : key = key' ∧ j = j' := by
  unfold kidx at *
  repeat' split at h
  all_goals first | omega | (split at hs <;> omega)
def zSt (kt : Nat) (x2 : Int32) (S : Nat → zMem → Prop) : Prop := ∀ s m key j, S s m → kidx key j = s → s < 177 → ∃ v m', f9_moves kt (m key j) x2 m = some (0, v, m') ∧ S (s + 1) (zset m' key j v)
theorem mv44 {kt : Nat} {x2 : Int32} {S : Nat → zMem → Prop} (hst : zSt kt x2 S) (K : zMem → zRes) {i : Nat} (hi : i < 9) (s : zMem) (hs : S (2 + 4 * i) s) : ∃ m, f9_movesAll_L44 kt x2 (zi i) K zF (zi 0) s = K m ∧ S (2 + 4 * i + 4) m :=
  zloopE (L := fun n' q s => f9_movesAll_L44 kt x2 (zi i) K n' (zi q) s) (N := 4) (o := K) (fun q s => S (2 + 4 * i + q) s)
    (fun n s _ => by simp (disch := omega) only [f9_movesAll_L44, zlit, zi_le, Nat.le_refl, if_true])
    (fun n q s hq hs => by
      obtain ⟨v, m', a, b⟩ := hst (2 + 4 * i + q) s (51 + i) q hs (by unfold kidx; rw [if_neg (by omega), if_neg (by omega), if_pos (by omega)]; omega) (by omega)
      refine ⟨_, ?_, b⟩
      simp (disch := omega) only [f9_movesAll_L44, zlit, zi_le, show ¬ 4 ≤ q by omega, if_false, zin_i, zi_cl, a, bnd0_ok, zlet_e, zi_add])
    4 0 s zF (by omega) (by unfold zF; omega) hs
theorem mv35 {kt : Nat} {x2 : Int32} {S : Nat → zMem → Prop} (hst : zSt kt x2 S) (K : zMem → zRes) (s : zMem) (hs : S 2 s) : ∃ m, f9_movesAll_L35 kt x2 K zF (zi 0) s = K m ∧ S 38 m :=
  zloopE (L := fun n i s => f9_movesAll_L35 kt x2 K n (zi i) s) (N := 9) (o := K) (fun i s => S (2 + 4 * i) s)
    (fun n s _ => by simp (disch := omega) only [f9_movesAll_L35, zlit, zi_le, Nat.le_refl, if_true])
    (fun n i s hi hs => by
      obtain ⟨m, a, b⟩ := mv44 hst (fun (μ19 : zMem) => f9_movesAll_L35 kt x2 K n (zi (i + 1)) μ19) hi s hs
      refine ⟨m, ?_, by rw [show 2 + 4 * (i + 1) = 2 + 4 * i + 4 by omega]; exact b⟩
      simp (disch := omega) only [f9_movesAll_L35, zlit, zi_le, show ¬ 9 ≤ i by omega, if_false, zi_add]
      exact a)
    9 0 s zF (by omega) (by unfold zF; omega) hs
theorem mv88 {kt : Nat} {x2 : Int32} {S : Nat → zMem → Prop} (hst : zSt kt x2 S) (K : zMem → zRes) (s : zMem) (hs : S 38 s) : ∃ m, f9_movesAll_L88 kt x2 K zF (zi 0) s = K m ∧ S 47 m :=
  zloopE (L := fun n i s => f9_movesAll_L88 kt x2 K n (zi i) s) (N := 9) (o := K) (fun i s => S (38 + i) s)
    (fun n s _ => by simp (disch := omega) only [f9_movesAll_L88, zlit, zi_le, Nat.le_refl, if_true])
    (fun n i s hi hs => by
      obtain ⟨v, m', a, b⟩ := hst (38 + i) s 91 i hs (by unfold kidx; rw [if_neg (by omega), if_neg (by omega), if_neg (by omega), if_pos (by omega)]) (by omega)
      refine ⟨_, ?_, b⟩
      simp (disch := omega) only [f9_movesAll_L88, zlit, zi_le, show ¬ 9 ≤ i by omega, if_false, zin_i, zi_cl, a, bnd0_ok, zlet_e, zi_add])
    9 0 s zF (by omega) (by unfold zF; omega) hs
theorem mv120 {kt : Nat} {x2 : Int32} {S : Nat → zMem → Prop} (hst : zSt kt x2 S) (K : zMem → zRes) (s : zMem) (hs : S 47 s) : ∃ m, f9_movesAll_L120 kt x2 K zF (zi 0) s = K m ∧ S 57 m :=
  zloopE (L := fun n i s => f9_movesAll_L120 kt x2 K n (zi i) s) (N := 10) (o := K) (fun i s => S (47 + i) s)
    (fun n s _ => by simp (disch := omega) only [f9_movesAll_L120, zlit, zi_le, Nat.le_refl, if_true])
    (fun n i s hi hs => by
      obtain ⟨v, m', a, b⟩ := hst (47 + i) s 92 i hs (by unfold kidx; rw [if_neg (by omega), if_neg (by omega), if_neg (by omega), if_neg (by omega), if_pos (by omega)]) (by omega)
      refine ⟨_, ?_, b⟩
      simp (disch := omega) only [f9_movesAll_L120, zlit, zi_le, show ¬ 10 ≤ i by omega, if_false, zin_i, zi_cl, a, bnd0_ok, zlet_e, zi_add])
    10 0 s zF (by omega) (by unfold zF; omega) hs
theorem mv161 {kt : Nat} {x2 : Int32} {S : Nat → zMem → Prop} (hst : zSt kt x2 S) (K : zMem → zRes) {i : Nat} (hi : i < 30) (s : zMem) (hs : S (57 + 4 * i) s) : ∃ m, f9_movesAll_L161 kt x2 (zi i) K zF (zi 0) s = K m ∧ S (57 + 4 * i + 4) m :=
  zloopE (L := fun n' q s => f9_movesAll_L161 kt x2 (zi i) K n' (zi q) s) (N := 4) (o := K) (fun q s => S (57 + 4 * i + q) s)
    (fun n s _ => by simp (disch := omega) only [f9_movesAll_L161, zlit, zi_le, Nat.le_refl, if_true])
    (fun n q s hq hs => by
      obtain ⟨v, m', a, b⟩ := hst (57 + 4 * i + q) s (61 + i) q hs (by unfold kidx; rw [if_neg (by omega), if_neg (by omega), if_neg (by omega), if_neg (by omega), if_neg (by omega), if_pos (by omega)]; omega) (by omega)
      refine ⟨_, ?_, b⟩
      simp (disch := omega) only [f9_movesAll_L161, zlit, zi_le, show ¬ 4 ≤ q by omega, if_false, zin_i, zi_cl, a, bnd0_ok, zlet_e, zi_add])
    4 0 s zF (by omega) (by unfold zF; omega) hs
theorem mv152 {kt : Nat} {x2 : Int32} {S : Nat → zMem → Prop} (hst : zSt kt x2 S) (K : zMem → zRes) (s : zMem) (hs : S 57 s) : ∃ m, f9_movesAll_L152 kt x2 K zF (zi 0) s = K m ∧ S 177 m :=
  zloopE (L := fun n i s => f9_movesAll_L152 kt x2 K n (zi i) s) (N := 30) (o := K) (fun i s => S (57 + 4 * i) s)
    (fun n s _ => by simp (disch := omega) only [f9_movesAll_L152, zlit, zi_le, Nat.le_refl, if_true])
    (fun n i s hi hs => by
      obtain ⟨m, a, b⟩ := mv161 hst (fun (μ19 : zMem) => f9_movesAll_L152 kt x2 K n (zi (i + 1)) μ19) hi s hs
      refine ⟨m, ?_, by rw [show 57 + 4 * (i + 1) = 57 + 4 * i + 4 by omega]; exact b⟩
      simp (disch := omega) only [f9_movesAll_L152, zlit, zi_le, show ¬ 30 ≤ i by omega, if_false, zi_add]
      exact a)
    30 0 s zF (by omega) (by unfold zF; omega) hs
theorem m_movesAll {kt : Nat} {x2 : Int32} {μ : zMem} (S : Nat → zMem → Prop) (h0 : S 0 (zset μ 0 29 (zi 0))) (hst : zSt kt x2 S) :
    ∃ m, f9_movesAll kt x2 μ = some (0, zi 0, m) ∧ S 177 m := by
  obtain ⟨v1, m1, a1, b1⟩ := hst 0 _ 0 20 h0 rfl (by decide)
  obtain ⟨v2, m2, a2, b2⟩ := hst 1 _ 0 21 b1 rfl (by decide)
  unfold f9_movesAll
  simp only [zlet_e', zlit', a1, a2, bnd0_ok']
  obtain ⟨m3, a3, b3⟩ := mv35 hst (fun (μ20 : zMem) => f9_movesAll_L88 kt x2 (fun (μ28 : zMem) => f9_movesAll_L120 kt x2 (fun (μ36 : zMem) => f9_movesAll_L152 kt x2 (fun (μ49 : zMem) => some (0, zi 0, μ49)) zF (zi 0) μ36) zF (zi 0) μ28) zF (zi 0) μ20) _ b2
  obtain ⟨m4, a4, b4⟩ := mv88 hst (fun (μ28 : zMem) => f9_movesAll_L120 kt x2 (fun (μ36 : zMem) => f9_movesAll_L152 kt x2 (fun (μ49 : zMem) => some (0, zi 0, μ49)) zF (zi 0) μ36) zF (zi 0) μ28) _ b3
  obtain ⟨m5, a5, b5⟩ := mv120 hst (fun (μ36 : zMem) => f9_movesAll_L152 kt x2 (fun (μ49 : zMem) => some (0, zi 0, μ49)) zF (zi 0) μ36) _ b4
  obtain ⟨m6, a6, b6⟩ := mv152 hst (fun (μ49 : zMem) => some (0, zi 0, μ49)) _ b5
  refine ⟨m6, ?_, b6⟩
  rw [a3]
  show f9_movesAll_L88 kt x2 _ zF (zi 0) m3 = _
  rw [a4]
  show f9_movesAll_L120 kt x2 _ zF (zi 0) m4 = _
  rw [a5]
  show f9_movesAll_L152 kt x2 _ zF (zi 0) m5 = _
  rw [a6]
/-- laid aside -/
theorem m_save {kt : Nat} {μ : zMem} (hkt : 93 < kt) : ∃ m, f9_movesAll kt (zi 0) μ = some (0, zi 0, m) ∧ (∀ key j, kidx key j < 177 → m kt (kidx key j) = μ key j) ∧ (∀ key, key ≠ 0 → key ≠ kt → m key = μ key) ∧ (∀ j, j ≠ 29 → m 0 j = μ 0 j) := by
  obtain ⟨m, a, h1, h2, h3, h4⟩ := m_movesAll (kt := kt) (x2 := zi 0) (μ := μ) (fun s m => m 0 29 = zi s ∧ (∀ key j, kidx key j < s → m kt (kidx key j) = μ key j) ∧ (∀ key, key ≠ 0 → key ≠ kt → m key = μ key) ∧ (∀ j, j ≠ 29 → m 0 j = μ 0 j))
    ⟨zset_eq, fun key j h => absurd h (by omega), fun key h1 h2 => zset_nk h1, fun j hj => zset_nj hj⟩
    (fun s m key j hs hk h177 => by
      obtain ⟨h1, h2, h3, h4⟩ := hs
      have hv : m key j = μ key j := by
        by_cases h : key = 0
        · subst h
          exact h4 j (by intro e; subst e; unfold kidx at hk; simp at hk; omega)
        · exact congrFun (h3 key h (by intro e; unfold kidx at hk; rw [if_neg (by omega), if_neg (by omega), if_neg (by omega), if_neg (by omega), if_neg (by omega), if_neg (by omega)] at hk; omega)) j
      have hkk : key < 93 := by
        unfold kidx at hk
        repeat' split at hk
        all_goals omega
      have hj29 : key = 0 → j ≠ 29 := by
        intro e1 e2
        unfold kidx at hk
        rw [if_neg (by omega), if_neg (by omega), if_neg (by omega), if_neg (by omega), if_neg (by omega), if_neg (by omega)] at hk; omega
      refine ⟨m key j, zset (zset m kt s (m key j)) 0 29 (zi (s + 1)), ?_, ?_, ?_, ?_, ?_⟩
      · unfold f9_moves
        simp (disch := omega) only [zlet_e, zlit, if_true, h1, zin_i, zi_cl, zset_nk, zi_add, zset_eq, zi_sub, Nat.add_sub_cancel]
      · rw [zset_at, if_neg (by omega), zset_eq]
      · intro key' j' h
        rw [zset_nk (by omega), zset_nk (by omega), zset_at]
        by_cases e : kidx key' j' = s
        · rw [if_pos ⟨rfl, e⟩, hv]
          obtain ⟨e1, e2⟩ := kidx_inj (hk.trans e.symm) (by omega)
          rw [e1, e2]
        · rw [if_neg (fun q => e q.2)]; exact h2 key' j' (by omega)
      · intro key' hn hn'
        by_cases e : key' = key
        · subst e
          funext j'
          rw [zset_at]
          by_cases e : j' = j
          · rw [if_pos ⟨rfl, e⟩, hv, e]
          · rw [if_neg (fun q => e q.2), zset_nk hn, zset_nk hn', h3 key' hn hn']
        · rw [zset_nk e, zset_nk hn, zset_nk hn', h3 key' hn hn']
      · intro j' hj'
        rw [zset_at]
        by_cases e : (0 : Nat) = key ∧ j' = j
        · rw [if_pos e, hv, ← e.1, e.2]
        · rw [if_neg e, zset_nj hj', zset_nk (by omega), h4 j' hj'])
  exact ⟨m, a, h2, h3, h4⟩
/-- taken back -/
theorem m_back {kt : Nat} {μ : zMem} (hkt : 93 < kt) : ∃ m, f9_movesAll kt (zi 1) μ = some (0, zi 0, m) ∧ (∀ key j, kidx key j < 177 → m key j = μ kt (kidx key j)) ∧ (∀ key j, 177 ≤ kidx key j → ¬ (key = 0 ∧ j = 29) → m key j = μ key j) := by
  obtain ⟨m, a, h1, h2, h3⟩ := m_movesAll (kt := kt) (x2 := zi 1) (μ := μ) (fun s m => m 0 29 = zi s ∧ (∀ key j, kidx key j < s → m key j = μ kt (kidx key j)) ∧ (∀ key j, s ≤ kidx key j → ¬ (key = 0 ∧ j = 29) → m key j = μ key j))
    ⟨zset_eq, fun key j h => absurd h (by omega), fun key j _ h2 => by rw [zset_at, if_neg h2]⟩
    (fun s m key j hs hk h177 => by
      obtain ⟨h1, h2, h3⟩ := hs
      have hkk : key < 93 := by
        unfold kidx at hk
        repeat' split at hk
        all_goals omega
      have hj29 : ¬ (key = 0 ∧ j = 29) := by
        intro e
        unfold kidx at hk
        rw [if_neg (by omega), if_neg (by omega), if_neg (by omega), if_neg (by omega), if_neg (by omega), if_neg (by omega)] at hk; omega
      have hkm : ∀ i, m kt i = μ kt i := fun i => h3 kt i (by unfold kidx; rw [if_neg (by omega), if_neg (by omega), if_neg (by omega), if_neg (by omega), if_neg (by omega), if_neg (by omega)]; omega) (by omega)
      refine ⟨μ kt s, zset m 0 29 (zi (s + 1)), ?_, ?_, ?_, ?_⟩
      · unfold f9_moves
        simp (disch := omega) only [zlet_e, zlit, z10, if_false, h1, zin_i, zi_cl, zset_nk, zi_add, zset_eq, zi_sub, Nat.add_sub_cancel, hkm]
      · rw [zset_at, if_neg (by omega), zset_eq]
      · intro key' j' h
        rw [zset_at]
        by_cases e : kidx key' j' = s
        · obtain ⟨e1, e2⟩ := kidx_inj (e.trans hk.symm) (by omega)
          rw [if_pos ⟨e1, e2⟩, e]
        · rw [if_neg (by intro q; rw [q.1, q.2] at e; exact e hk), zset_at, if_neg ?_]
          · exact h2 key' j' (by omega)
          · intro q
            unfold kidx at h
            rw [if_neg (by omega), if_neg (by omega), if_neg (by omega), if_neg (by omega), if_neg (by omega), if_neg (by omega)] at h; omega
      · intro key' j' h hn
        rw [zset_at, if_neg (by intro q; rw [q.1, q.2] at h; omega), zset_at, if_neg hn]
        exact h3 key' j' (by omega) hn)
  exact ⟨m, a, h2, h3⟩
