/-! THE PURE SIDE, 48: TODAY, the reference, whole -/
def fTB (x1 v1 : Int32) (μ : zMem) (s2 : Int32) : zRes := zlet (zset μ 0 30 s2) (fun (μ3 : zMem) => zlet (zshl (1 : Int32) x1) (fun (v4 : Int32) => zin (2 : Int32) 6 (zlet (zshl (1 : Int32) (μ3 4 (2 : Int32).toNatClampNeg)) (fun (v6 : Int32) => f9_findToday_L40 v4 v6 (fun (μ23 : zMem) => zlet (zset μ23 0 34 (0 : Int32)) (fun (μ24 : zMem) => zlet (zset μ24 0 35 (0 : Int32)) (fun (μ25 : zMem) => f9_findToday_L107 x1 (fun (μ31 : zMem) => f9_findToday_L134 v4 v6 (fun (μ56 : zMem) => zlet (zset μ56 0 30 v1) (fun (μ57 : zMem) => some (0, 0, μ57))) zF (1 : Int32) μ31) zF (0 : Int32) μ25))) zF (0 : Int32) μ3))))
theorem fT_eq {x1 x2 : Int32} {μ : zMem} : f9_findToday x1 x2 μ = fTB x1 (μ 0 30) μ (if x2 = (-1 : Int32) then μ 0 30 else x2) := by
  show (if x2 = (-1 : Int32) then fTB x1 (μ 0 30) μ (μ 0 30) else fTB x1 (μ 0 30) μ x2) = _
  by_cases h : x2 = (-1 : Int32)
  · rw [if_pos h, if_pos h]
  · rw [if_neg h, if_neg h]
theorem m_findToday {T W : zN2} (hT : TB T) (hW : WB T W) {x2 s2 : Int32} {μ : zMem} (hs2 : (if x2 = (-1 : Int32) then μ 0 30 else x2) = s2) (hM : MT T μ) (hS : MS T W (zset μ 0 30 s2)) :
    ∃ m' t, f9_findToday (zi (W 0 3)) x2 μ = some (0, zi 0, m') ∧ tBest T W t ∧ m' 0 34 = zi (wor T t (T 2 2)) ∧ m' 0 35 = zi t ∧ mH (2 ^ T 2 2) (2 ^ W 0 3) (hA T W (T 2 2)) m' ∧ mfr (fun j => j = 34 ∨ j = 35) (fun k => 101 ≤ k ∧ k < 1125) μ m' := by
  have hD := hT.2.2.1
  have hP := hW.2.2.2.1
  have hG : 2 ^ W 0 3 ≤ 512 := pw9 hP
  have hN : 2 ^ T 2 2 ≤ 1024 := pw10 hD
  have z2 : ∀ A, zin (2 : Int32) 6 A = A := fun A => zin_i (i := 2) (by decide) (by decide)
  have n2 : (2 : Int32).toNatClampNeg = 2 := by decide
  have hM3 : MT T (zset μ 0 30 s2) := MT_at (fun j _ => by rw [zset_nk (by decide)]) (zset_nk (by decide)) (zset_nk (by decide)) (fun p _ => by rw [zset_nk (by omega)]) (fun d _ => zset_nk (by omega)) hT hM
  obtain ⟨m1, a1, a2, a3⟩ := m_had40 (G := 2 ^ W 0 3) (D := 2 ^ T 2 2) hG hN (fun (μ23 : zMem) => zlet (zset μ23 0 34 (0 : Int32)) (fun (μ24 : zMem) => zlet (zset μ24 0 35 (0 : Int32)) (fun (μ25 : zMem) => f9_findToday_L107 (zi (W 0 3)) (fun (μ31 : zMem) => f9_findToday_L134 (zi (2 ^ W 0 3)) (zi (2 ^ T 2 2)) (fun (μ56 : zMem) => zlet (zset μ56 0 30 (μ 0 30)) (fun (μ57 : zMem) => some (0, 0, μ57))) zF (1 : Int32) μ31) zF (0 : Int32) μ25))) (zset μ 0 30 s2)
  have a3' : zfr (fun k => 101 ≤ k ∧ k < 1125) (zset μ 0 30 s2) m1 := a3.mono (fun k hk => by omega)
  have f2 : mfr (fun j => j = 34 ∨ j = 35) (fun _ => False) m1 (zset (zset m1 0 34 (zi 0)) 0 35 (zi 0)) := (mfr.refl.set0 (Or.inl rfl)).set0 (Or.inr rfl)
  have hM2 : MT T (zset (zset m1 0 34 (zi 0)) 0 35 (zi 0)) := MT_at (fun j _ => congrFun (f2.1 4 (by omega) (fun q => q)) j) (f2.1 47 (by omega) (fun q => q)) (f2.1 49 (by omega) (fun q => q)) (fun p _ => congrFun (f2.1 (15 + p) (by omega) (fun q => q)) 5) (fun d _ => f2.1 (36 + d) (by omega) (fun q => q)) hT (MT_had a3' hT hM3)
  have hS2 : MS T W (zset (zset m1 0 34 (zi 0)) 0 35 (zi 0)) := MS_at (f2.2 20 (by omega)) (f2.2 30 (by omega)) (congrFun (f2.1 4 (by omega) (fun q => q)) 3) (f2.1 91 (by omega) (fun q => q)) (f2.1 92 (by omega) (fun q => q)) (fun p _ => f2.1 (51 + p) (by omega) (fun q => q)) (fun p _ => congrFun (f2.1 (15 + p) (by omega) (fun q => q)) 4) hT hW (MS_had a3' hT hW hS)
  have hm2 : mH (2 ^ T 2 2) (2 ^ W 0 3) (hA T W 0) (zset (zset m1 0 34 (zi 0)) 0 35 (zi 0)) := fun s g hs hg => by
    rw [f2.1 (101 + s) (by omega) (fun q => q), a2 s g hs hg]
    by_cases h : s = 0 ∧ g = 0
    · rw [if_pos h]; exact ⟨Or.inr rfl, fun _ => h, fun _ => rfl⟩
    · rw [if_neg h]; exact ⟨Or.inl rfl, fun q => absurd q (by decide), fun q => absurd q h⟩
  obtain ⟨m3, b1, b2, b3⟩ := m_fT107 hT hW (fun (μ31 : zMem) => f9_findToday_L134 (zi (2 ^ W 0 3)) (zi (2 ^ T 2 2)) (fun (μ56 : zMem) => zlet (zset μ56 0 30 (μ 0 30)) (fun (μ57 : zMem) => some (0, 0, μ57))) zF (1 : Int32) μ31) hM2 hS2 hm2
  obtain ⟨m4, t, c1, c2, c3, c4, c5⟩ := m_fT134 hT hW (fun (μ56 : zMem) => zlet (zset μ56 0 30 (μ 0 30)) (fun (μ57 : zMem) => some (0, 0, μ57))) (MT_had b3 hT hM2) b2 (by rw [b3 0 (by omega), zset_nj (by decide), zset_eq]) (by rw [b3 0 (by omega), zset_eq])
  refine ⟨zset m4 0 30 (μ 0 30), t, ?_, c2, ?_, ?_, fun s g hs hg => ?_, fun key hk hS => ?_, fun j hj => ?_⟩
  · rw [fT_eq, hs2]
    unfold fTB
    rw [zlet_e, zlet_e, z2, n2, hM3.1.2.2.1, show zshl (1 : Int32) (zi (T 2 2)) = zi (2 ^ T 2 2) from zshl1 (by omega), show zshl (1 : Int32) (zi (W 0 3)) = zi (2 ^ W 0 3) from zshl1 (by omega), zlet_e]
    refine a1.trans ?_
    show zlet _ _ = _
    rw [zlet_e, zlet_e]
    refine b1.trans ?_
    refine c1.trans ?_
    show zlet _ _ = _
    rw [zlet_e]
    rfl
  · rw [zset_nj (by decide)]; exact c3
  · rw [zset_nj (by decide)]; exact c4
  · rw [zset_nk (by omega), c5.1 (101 + s) (by omega) (fun q => q)]; exact b2 s g hs hg
  · rw [zset_nk hk, c5.1 key hk (fun q => q), b3 key hS, f2.1 key hk (fun q => q), a3' key hS, zset_nk hk]
  · by_cases h30 : j = 30
    · rw [h30, zset_eq]
    · rw [zset_nj h30, c5.2 j hj, b3 0 (by omega), f2.2 j hj, a3' 0 (by omega), zset_nj h30]
