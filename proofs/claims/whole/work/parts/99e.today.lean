/-! THE PURE SIDE, 44: TODAY, a pair added to the reference's table -/
/-- the table holds H -/
def mH (N G : Nat) (H : Nat → Nat → Prop) (m : zMem) : Prop := ∀ s g, s < N → g < G → (m (101 + s) g = zi 0 ∨ m (101 + s) g = zi 1) ∧ (m (101 + s) g = zi 1 ↔ H s g)
theorem mH_congr {N G : Nat} {H H' : Nat → Nat → Prop} {m : zMem} (h : mH N G H m) (hh : ∀ s g, s < N → g < G → (H s g ↔ H' s g)) : mH N G H' m :=
  fun s g hs hg => ⟨(h s g hs hg).1, (h s g hs hg).2.trans (hh s g hs hg)⟩
theorem mH_set {N G : Nat} {H : Nat → Nat → Prop} {m : zMem} (h : mH N G H m) {s0 g0 : Nat} : mH N G (fun s g => H s g ∨ (s = s0 ∧ g = g0)) (zset m (101 + s0) g0 (zi 1)) := by
  intro s g hs hg
  obtain ⟨h1, h2⟩ := h s g hs hg
  by_cases e1 : s = s0
  · by_cases e2 : g = g0
    · rw [e1, e2, zset_eq]
      exact ⟨Or.inr rfl, fun _ => Or.inr ⟨rfl, rfl⟩, fun _ => rfl⟩
    · rw [e1, zset_nj e2, ← e1]
      exact ⟨h1, fun q => Or.inl (h2.1 q), fun q => h2.2 (q.elim id (fun r => absurd r.2 e2))⟩
  · rw [zset_nk (by omega)]
    exact ⟨h1, fun q => Or.inl (h2.1 q), fun q => h2.2 (q.elim id (fun r => absurd r.1 e1))⟩
