/-! THE PURE SIDE, 43: TODAY, the reference's table begins -/
theorem m_had50 {G s : Nat} (hG : G ≤ 512) (hs : s < 1024) (K : zMem → zRes) (m : zMem) :
    ∃ m', f9_findToday_L50 (zi G) (zi s) K zF (zi 0) m = K m' ∧ (∀ g, g < G → m' (101 + s) g = zi (if s = 0 ∧ g = 0 then 1 else 0)) ∧ zfr (fun k => k = 101 + s) m m' := by
  obtain ⟨x, e1, e2, e3⟩ := zloopE (L := fun n i (x : zMem) => f9_findToday_L50 (zi G) (zi s) K n (zi i) x) (N := G) (o := fun x => K x) (fun i x => (∀ g, g < i → x (101 + s) g = zi (if s = 0 ∧ g = 0 then 1 else 0)) ∧ zfr (fun k => k = 101 + s) m x)
    (fun n x _ => by rw [f9_findToday_L50, if_pos (Int32.le_refl _)])
    (fun n i x hi hx => ⟨zset x (101 + s) i (zi (if s = 0 ∧ i = 0 then 1 else 0)), by
      have z1 : zi i + (1 : Int32) = zi (i + 1) := zi_add i 1
      have b0 : ∀ A, zbl (0 : Int32) A = A := fun A => zbl_0
      have b1 : ∀ A, zbl (1 : Int32) A = A := fun A => zbl_1
      rw [f9_findToday_L50, if_neg (show ¬ zi G ≤ zi i from by rw [zi_le (by omega) (by omega)]; omega), zin_i (by omega) (by omega), zlet_e, zlet_e]
      simp only
      rw [b0, b1, zin_i (by omega) (by omega), zlet_e, zlet_e, zi_cl (by omega), zi_cl (by omega), z1]
      have q0 : (zi s = (0 : Int32)) = (s = 0) := zi_eq (b := 0) (by omega) (by decide)
      have q1 : (zi i = (0 : Int32)) = (i = 0) := zi_eq (b := 0) (by omega) (by decide)
      have hzi : ∀ A, zin (zi i) 512 A = A := fun A => zin_i (by omega) (by omega)
      rw [hzi]
      by_cases h0 : s = 0
      · rw [if_pos (q0 ▸ h0)]
        by_cases h1 : i = 0
        · rw [if_pos (q1 ▸ h1), if_pos ⟨h0, h1⟩]; rfl
        · rw [if_neg (fun q => h1 (q1 ▸ q)), if_neg (fun q => h1 q.2)]; rfl
      · rw [if_neg (fun q => h0 (q0 ▸ q)), if_neg (fun q => h0 q.1)]; rfl, fun g hg => by
      by_cases hgi : g = i
      · rw [hgi, zset_eq]
      · rw [zset_nj hgi]; exact hx.1 g (by omega), fun k hk => by rw [zset_nk hk]; exact hx.2 k hk⟩)
    G 0 m zF (by omega) (by unfold zF; omega) ⟨fun g hg => absurd hg (by omega), fun _ _ => rfl⟩
  exact ⟨x, e1, e2, e3⟩
theorem m_had40 {G D : Nat} (hG : G ≤ 512) (hD : D ≤ 1024) (K : zMem → zRes) (m : zMem) :
    ∃ m', f9_findToday_L40 (zi G) (zi D) K zF (zi 0) m = K m' ∧ (∀ s g, s < D → g < G → m' (101 + s) g = zi (if s = 0 ∧ g = 0 then 1 else 0)) ∧ zfr (fun k => 101 ≤ k ∧ k < 101 + D) m m' := by
  obtain ⟨x, e1, e2, e3⟩ := zloopE (L := fun n i (x : zMem) => f9_findToday_L40 (zi G) (zi D) K n (zi i) x) (N := D) (o := fun x => K x) (fun i x => (∀ s g, s < i → g < G → x (101 + s) g = zi (if s = 0 ∧ g = 0 then 1 else 0)) ∧ zfr (fun k => 101 ≤ k ∧ k < 101 + D) m x)
    (fun n x _ => by rw [f9_findToday_L40, if_pos (Int32.le_refl _)])
    (fun n i x hi hx => by
      obtain ⟨y, a1, a2, a3⟩ := m_had50 (G := G) (s := i) hG (by omega) (fun (μ22 : zMem) => f9_findToday_L40 (zi G) (zi D) K n (zi i + (1 : Int32)) μ22) x
      refine ⟨y, ?_, fun s g hs hg => ?_, fun k hk => ?_⟩
      · rw [f9_findToday_L40, if_neg (show ¬ zi D ≤ zi i from by rw [zi_le (by omega) (by omega)]; omega)]
        have z1 : zi i + (1 : Int32) = zi (i + 1) := zi_add i 1
        rw [← z1]
        exact a1
      · by_cases hsi : s = i
        · rw [hsi]; exact hsi ▸ a2 g hg
        · rw [a3 (101 + s) (by omega)]; exact hx.1 s g (by omega) hg
      · rw [a3 k (by omega)]; exact hx.2 k hk)
    D 0 m zF (by omega) (by unfold zF; omega) ⟨fun s g hs => absurd hs (by omega), fun _ _ => rfl⟩
  exact ⟨x, e1, e2, e3⟩
