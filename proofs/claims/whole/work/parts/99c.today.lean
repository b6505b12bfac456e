/-! THE PURE SIDE, 42: TODAY, the worth of a set of doors -/
def wor (T : zN2) (s d : Nat) : Nat := nsum (fun i => if s.testBit i = true then T 8 i else 0) d
theorem wor_le {T : zN2} (hT : TB T) (s : Nat) : ∀ d, wor T s d ≤ 99 * d
  | 0 => Nat.le_refl _
  | d + 1 => by
    have h := wor_le hT s d
    have k8 := tb_8 hT d
    show wor T s d + (if s.testBit d = true then T 8 d else 0) ≤ _
    split <;> omega
theorem m_worthOf {T : zN2} {μ : zMem} (hT : TB T) (hM : MT T μ) {s : Nat} (hs : s < 1024) : f9_worthOf (zi s) μ = some (0, zi (wor T s (T 2 2)), μ) := by
  have hD := hT.2.2.1
  have z2 : ∀ A, zin (2 : Int32) 6 A = A := fun A => zin_i (i := 2) (by decide) (by decide)
  have z04 : ∀ A, zin (0 : Int32) 4 A = A := fun A => zin_i (i := 0) (by decide) (by decide)
  have n2 : (2 : Int32).toNatClampNeg = 2 := by decide
  have n0 : (0 : Int32).toNatClampNeg = 0 := by decide
  obtain ⟨x, e1, e2⟩ := zloopE (L := fun n i (w : Nat) => f9_worthOf_L4 (zi s) μ (fun (x2_11 : Int32) => some (0, x2_11, μ)) n (zi w) (zi i)) (N := T 2 2) (o := fun w => some (0, zi w, μ)) (fun i w => w = wor T s i)
    (fun n w _ => by rw [f9_worthOf_L4, z2, n2, hM.1.2.2.1, if_pos (Int32.le_refl _)])
    (fun n i w hi hw => ⟨wor T s (i + 1), by
      subst hw
      have hb := wor_le hT s i
      have k8 := tb_8 hT i
      rw [f9_worthOf_L4, z2, n2, hM.1.2.2.1, if_neg (show ¬ zi (T 2 2) ≤ zi i from by rw [zi_le (by omega) (by omega)]; omega), zlet_e]
      have e36 : μ (36 + (zi i).toNatClampNeg) 0 = zi (T 8 i) := by rw [zi_cl (by omega)]; exact (hM.2.2.2.2 _ hi).1
      have hbit : ((zshr (zi s) (zi i)) &&& (1 : Int32) = (1 : Int32)) = (s.testBit i = true) := zbit1 (by omega) (by omega)
      have z1 : zi i + (1 : Int32) = zi (i + 1) := zi_add i 1
      have ew : wor T s (i + 1) = wor T s i + (if s.testBit i = true then T 8 i else 0) := rfl
      by_cases h : s.testBit i = true
      · rw [if_pos (by rw [hbit]; exact h), zin_i (by omega) (by omega), z04, n0, e36]
        show zlet (zi (wor T s i) + zi (T 8 i)) _ = _
        rw [zlet_e, zi_add, z1, ew, if_pos h]
      · rw [if_neg (by rw [hbit]; exact h)]
        show zlet (zi (wor T s i) + (0 : Int32)) _ = _
        rw [zlet_e, ew, if_neg h, z1]
        rw [show zi (wor T s i) + (0 : Int32) = zi (wor T s i + 0) from zi_add _ 0], rfl⟩)
    (T 2 2) 0 0 zF (by omega) (by unfold zF; omega) rfl
  rw [e2] at e1
  exact e1
theorem x_worthIn {μ : zMem} {v : Nat} (hv : v < 2000000) : f2_worthIn (zi v) μ = some (0, zi ((v + 1023) / 1024), μ) := by
  unfold f2_worthIn
  rw [show (1024 : Int32) = zi 1024 from rfl, zi_add, show zi (v + 1024) - (1 : Int32) = zi (v + 1023) from zi_sub (a := v + 1024) (b := 1) (by omega), zi_div (by omega) (by decide)]
