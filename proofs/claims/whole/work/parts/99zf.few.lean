/-! THE PURE SIDE, 71: FEW in the reference, SOONEST -/
def rF9 (q : (Nat → Nat) × Nat × Nat) (μ μ' : zMem) : Prop := ∀ k j, ¬ (51 ≤ k ∧ k < 60 ∧ (∃ i, i < q.2.1 ∧ k = 51 + q.1 i) ∧ j = q.2.2) → k < 1130 → μ' k j = μ k j
theorem rF9.refl {q : (Nat → Nat) × Nat × Nat} {μ : zMem} : rF9 q μ μ := fun _ _ _ _ => rfl
theorem rF9.trans {q : (Nat → Nat) × Nat × Nat} {μ μ' μ'' : zMem} (h : rF9 q μ μ') (h' : rF9 q μ' μ'') : rF9 q μ μ'' := fun k j hk hl => (h' k j hk hl).trans (h k j hk hl)
theorem rF9.t {q : (Nat → Nat) × Nat × Nat} {μ μ' : zMem} (h : tfr q μ μ') : rF9 q μ μ' := fun k j hk _ => h k j hk
theorem rF9.set {q : (Nat → Nat) × Nat × Nat} {μ μ' : zMem} {k j : Nat} {v : Int32} (h : rF9 q μ μ') (hk : 1130 ≤ k) : rF9 q μ (zset μ' k j v) := fun k' j' h1 h2 => by
  rw [zset_nk (by omega)]; exact h k' j' h1 h2
theorem rF9.key {q : (Nat → Nat) × Nat × Nat} {μ μ' : zMem} (h : rF9 q μ μ') {k : Nat} (hk : ¬ (51 ≤ k ∧ k < 60)) (hl : k < 1130) : μ' k = μ k := funext (fun j => h k j (fun c => hk ⟨c.1, c.2.1⟩) hl)
theorem mB9_r {T W : zN2} {pm : Nat → Nat} {m : Nat} {q : (Nat → Nat) × Nat × Nat} {μ μ' : zMem} (hT : TB T) (h : rF9 q μ μ') (hB : mB9 T W pm m μ) : mB9 T W pm m μ' := by
  have hP := hT.2.1
  obtain ⟨h1, h2, h3, h4, h5⟩ := hB
  refine ⟨MT_at (fun j _ => congrFun (h.key (by omega) (by omega)) j) (h.key (by omega) (by omega)) (h.key (by omega) (by omega)) (fun p _ => congrFun (h.key (by omega) (by omega)) 5) (fun d _ => h.key (by omega) (by omega)) hT h1, ?_, fun p hp => ?_, ?_, fun i hi => ?_⟩
  · rw [h.key (by omega) (by omega)]; exact h2
  · rw [h.key (by omega) (by omega)]; exact h3 p hp
  · rw [h.key (by omega) (by omega)]; exact h4
  · rw [h.key (by omega) (by omega)]; exact h5 i hi
def so9 (r : Nat) : Int32 := if r = 0 then zN1 else zi (r - 1)
def mQ9 (n : Nat) (Q rc : Nat → Nat) (μ : zMem) : Prop := (∀ j, j < n → μ 1132 j = zi (Q j)) ∧ ∀ v, v < 6561 → μ 1133 v = so9 (rc v)
def mS9 (T W : zN2) (pm : Nat → Nat) (m q st i u : Nat) (μ0 : zMem) (k : Nat) (s : Int32 × Int32 × zMem) : Prop :=
  ∃ n Q rc, s.1 = zi n ∧ BF (fE T W pm m) st i n Q rc (fun v => ∃ k', k' < k ∧ bh T W pm m k' u = some v) ∧ i < n ∧ Q i = u ∧ (∀ v, rc v ≤ n) ∧ mQ9 n Q rc s.2.2 ∧ rF9 (pm, m, q) μ0 s.2.2 ∧ fnd s.2.1 (∃ k', k' < k ∧ ∃ v, bh T W pm m k' u = some v) ∧ ∀ j, j < i → ∃ v, fE T W pm m (Q j) v
theorem m_soon53 {T W : zN2} {pm : Nat → Nat} {m q st i u : Nat} {μ0 : zMem} (hT : TB T) (hW : WB T W) (hg : 1 ≤ W 0 2) (hm : m ≤ 4) (hpm : pmOk T pm m) (hB : mB9 T W pm m μ0) (hq : q < T 2 0) (hu : u < 9 ^ m) (hi : i < 6561) (K : Int32 → Int32 → zMem → zRes) (s : Int32 × Int32 × zMem) (hs : mS9 T W pm m q st i u μ0 0 s) :
    ∃ s', f9_soonest_L53 (zi q) (zi i) K zF s.1 s.2.1 (zi 0) s.2.2 = K s'.1 s'.2.1 s'.2.2 ∧ mS9 T W pm m q st i u μ0 16 s' := by
  have h9 := pow9 hm
  have hzi : ∀ A, zin (zi i) 6561 A = A := fun A => zin_i hi (by omega)
  have hci : (zi i).toNatClampNeg = i := zi_cl (by omega)
  obtain ⟨s', e1, e2⟩ := zloopE (L := fun n k (s : Int32 × Int32 × zMem) => f9_soonest_L53 (zi q) (zi i) K n s.1 s.2.1 (zi k) s.2.2) (N := 16) (o := fun s => K s.1 s.2.1 s.2.2) (fun k s => mS9 T W pm m q st i u μ0 k s)
    (fun n s _ => by
      show f9_soonest_L53 (zi q) (zi i) K (n + 1) s.1 s.2.1 (zi 16) s.2.2 = _
      rw [f9_soonest_L53, if_pos (show (16 : Int32) ≤ zi 16 from Int32.le_refl _)])
    (fun n k s hk hs => by
      obtain ⟨x3, x5, μ⟩ := s
      obtain ⟨n', Q, rc, h1, h2, h3, h4, h5, h6, h7, h8, h10⟩ := hs
      dsimp only at h1 h6 h7 h8
      subst h1
      have z1 : zi k + (1 : Int32) = zi (k + 1) := zi_add k 1
      have h16 : ¬ (16 : Int32) ≤ zi k := by rw [show (16 : Int32) = zi 16 from rfl, zi_le (by omega) (by omega)]; omega
      obtain ⟨μ1, a1, a2⟩ := m_behind (k := k) hT hW hm hpm (mB9_r hT h7 hB) hu hq hk
      have g7 : rF9 (pm, m, q) μ0 μ1 := h7.trans (rF9.t a2)
      have m1 : mQ9 n' Q rc μ1 := by unfold mQ9; rw [a2.key (by omega), a2.key (by omega)]; exact h6
      have hn := BF_le h2
      have grow : ∀ v, (∃ k', k' < k + 1 ∧ bh T W pm m k' u = some v) → (∃ k', k' < k ∧ bh T W pm m k' u = some v) ∨ bh T W pm m k u = some v := fun v hv => by
        obtain ⟨k', k1, k2⟩ := hv
        by_cases e : k' = k
        · exact Or.inr (e ▸ k2)
        · exact Or.inl ⟨k', by omega, k2⟩
      have hq0 : f9_soonest_L53 (zi q) (zi i) K (n + 1) (zi n') x5 (zi k) μ = if oI (bh T W pm m k u) = (-1 : Int32) then f9_soonest_L53 (zi q) (zi i) K n (zi n') x5 (zi (k + 1)) μ1 else zin (oI (bh T W pm m k u)) 6561 (if (μ1 1133 (oI (bh T W pm m k u)).toNatClampNeg) = (-1 : Int32) then zin (zi i) 6561 (zin (μ1 1132 i) 6561 (zin (oI (bh T W pm m k u)) 6561 (zlet (zset μ1 1133 (oI (bh T W pm m k u)).toNatClampNeg ((μ1 1133 (μ1 1132 i).toNatClampNeg) + (1 : Int32))) (fun (μ29 : zMem) => zin (zi n') 6561 (zlet (zset μ29 1132 (zi n').toNatClampNeg (oI (bh T W pm m k u))) (fun (μ31 : zMem) => f9_soonest_L53 (zi q) (zi i) K n (zi n' + (1 : Int32)) (1 : Int32) (zi (k + 1)) μ31)))))) else f9_soonest_L53 (zi q) (zi i) K n (zi n') (1 : Int32) (zi (k + 1)) μ1) := by
        rw [f9_soonest_L53, if_neg h16, hzi, hci, h6.1 i h3, h4, a1, bnd0_ok, zlet_e, z1]
      show ∃ s', f9_soonest_L53 (zi q) (zi i) K (n + 1) (zi n') x5 (zi k) μ = _ ∧ _
      rw [hq0]
      cases hb : bh T W pm m k u with
      | none =>
        rw [if_pos (show oI none = (-1 : Int32) from rfl)]
        refine ⟨(zi n', x5, μ1), rfl, n', Q, rc, rfl, BF_D h2 (fun w hw => (grow w hw).resolve_right (fun q => by rw [hb] at q; cases q)), h3, h4, h5, m1, g7, fnd_iff h8 ⟨fun q => by obtain ⟨k', k1, k2⟩ := q; exact ⟨k', by omega, k2⟩, fun q => ?_⟩, h10⟩
        obtain ⟨k', k1, v, k2⟩ := q
        rcases grow v ⟨k', k1, k2⟩ with ⟨k3, k4, k5⟩ | q
        · exact ⟨k3, k4, v, k5⟩
        · rw [hb] at q; cases q
      | some v =>
        have hv9 := bh_lt hb
        have hE : fE T W pm m (Q i) v := by rw [h4]; exact (bh_E hT hm hg).1 ⟨k, hk, hb⟩
        have hzv : ∀ A, zin (zi v) 6561 A = A := fun A => zin_i (by omega) (by omega)
        have hD : ∀ w, (∃ k', k' < k + 1 ∧ bh T W pm m k' u = some w) → (∃ k', k' < k ∧ bh T W pm m k' u = some w) ∨ w = v := fun w hw => (grow w hw).elim Or.inl (fun q => Or.inr (by rw [hb] at q; injection q with q; exact q.symm))
        have hfl : fnd (1 : Int32) (∃ k', k' < k + 1 ∧ ∃ v, bh T W pm m k' u = some v) := Or.inl ⟨rfl, k, by omega, v, hb⟩
        rw [if_neg (show ¬ oI (some v) = (-1 : Int32) from by show ¬ zi v = zN1; rw [zi_nN1 (by omega)]; exact fun q => q)]
        rw [show zin (oI (some v)) 6561 = zin (zi v) 6561 from rfl, hzv, show (oI (some v)).toNatClampNeg = v from zi_cl (by omega), m1.2 v (by omega)]
        by_cases c0 : rc v = 0
        · rw [if_pos (show so9 (rc v) = (-1 : Int32) from if_pos c0), hzi, m1.1 i h3, h4, zin_i (show u < 6561 by omega) (by omega), hzv, zlet_e, zi_cl (by omega), m1.2 u (by omega), zin_i (hn.2 v (by omega) c0) (by omega), zlet_e, zi_cl (by omega)]
          have hru := (h2.2.1 i h3).2.1
          rw [h4] at hru
          have hrl := h5 u
          have es : so9 (rc u) + (1 : Int32) = zi (rc u) := by
            unfold so9
            rw [if_neg (by omega), show (1 : Int32) = zi 1 from rfl, zi_add]
            congr 1
            omega
          rw [es, show zi n' + (1 : Int32) = zi (n' + 1) from zi_add n' 1]
          refine ⟨(zi (n' + 1), (1 : Int32), _), rfl, n' + 1, fup Q n' v, fup rc v (rc u + 1), rfl, BF_new (rc' := fup rc v (rc u + 1)) h2 h3 hE (by omega) c0 hD (fun j => rfl) (fun w => by rw [h4]; rfl), by omega, ?_, fun w => ?_, ⟨fun j hj => ?_, fun w hw => ?_⟩, (g7.set (by decide)).set (by decide), hfl, fun j hj => ?_⟩
          · show (if i = n' then _ else _) = _
            rw [if_neg (by omega)]; exact h4
          · show (if w = v then _ else _) ≤ _
            have := h5 w
            split <;> omega
          · show zset (zset μ1 1133 v (zi (rc u))) 1132 n' (oI (some v)) 1132 j = zi (if j = n' then v else Q j)
            by_cases e : j = n'
            · rw [e, zset_eq, if_pos rfl]; rfl
            · rw [zset_nj e, if_neg e, zset_nk (by decide)]; exact m1.1 j (by omega)
          · show zset (zset μ1 1133 v (zi (rc u))) 1132 n' (oI (some v)) 1133 w = so9 (if w = v then rc u + 1 else rc w)
            rw [zset_nk (by decide)]
            by_cases e : w = v
            · rw [e, zset_eq, if_pos rfl]
              unfold so9
              rw [if_neg (by omega)]; rfl
            · rw [zset_nj e, if_neg e]; exact m1.2 w hw
          · show ∃ w, fE T W pm m (if j = n' then _ else _) w
            rw [if_neg (by omega)]; exact h10 j hj
        · have hrl := h5 v
          rw [if_neg (show ¬ so9 (rc v) = (-1 : Int32) from by unfold so9; rw [if_neg c0, zneg1, zi_nN1 (by omega)]; exact fun q => q)]
          exact ⟨(zi n', (1 : Int32), μ1), rfl, n', Q, rc, rfl, BF_old h2 h3 (v := v) (by omega) hD, h3, h4, h5, m1, g7, hfl, h10⟩)
    16 0 s zF (by omega) (by unfold zF; omega) hs
  exact ⟨s', e1, e2⟩
theorem m_soon41 {T W : zN2} {pm : Nat → Nat} {m q st : Nat} {μ0 : zMem} (hT : TB T) (hW : WB T W) (hg : 1 ≤ W 0 2) (hm : m ≤ 4) (hpm : pmOk T pm m) (hB : mB9 T W pm m μ0) (hq : q < T 2 0) (hst : st < 9 ^ m) (μ1 : zMem) (hr1 : rF9 (pm, m, q) μ0 μ1) (hQ1 : mQ9 1 (fun _ => st) (fun v => if v = st then 1 else 0) μ1) :
    ∃ x μ', f9_soonest_L41 (zi q) (fun (μ37 : zMem) => some (0, (-1 : Int32), μ37)) (fun (x4_38 : Int32) (μ39 : zMem) => zin x4_38 6561 (zin (μ39 1132 x4_38.toNatClampNeg) 6561 (some (0, μ39 1133 (μ39 1132 x4_38.toNatClampNeg).toNatClampNeg, μ39)))) zF (zi 1) (zi 0) μ1 = some (0, x, μ') ∧ soC (fE T W pm m) st x ∧ rF9 (pm, m, q) μ0 μ' := by
  have h9 := pow9 hm
  have h := zloopQ (L := fun n i (s : Int32 × zMem) => f9_soonest_L41 (zi q) (fun (μ37 : zMem) => some (0, (-1 : Int32), μ37)) (fun (x4_38 : Int32) (μ39 : zMem) => zin x4_38 6561 (zin (μ39 1132 x4_38.toNatClampNeg) 6561 (some (0, μ39 1133 (μ39 1132 x4_38.toNatClampNeg).toNatClampNeg, μ39)))) n s.1 (zi i) s.2) (N := 6561)
    (fun r => ∃ x μ', r = some (0, x, μ') ∧ soC (fE T W pm m) st x ∧ rF9 (pm, m, q) μ0 μ')
    (fun i s => ∃ n Q rc, s.1 = zi n ∧ BF (fE T W pm m) st i n Q rc (fun _ => False) ∧ (∀ v, rc v ≤ n) ∧ mQ9 n Q rc s.2 ∧ rF9 (pm, m, q) μ0 s.2 ∧ ∀ j, j < i → ∃ v, fE T W pm m (Q j) v)
    (fun n s hI => by
      obtain ⟨n', Q, rc, h1, h2, h3, h4, h5, h6⟩ := hI
      have hn := (BF_le h2).1
      have e : 6561 = n' := Nat.le_antisymm h2.1.2.1 hn
      subst e
      refine ⟨zN1, s.2, ?_, BF_none h2 h6, h5⟩
      show f9_soonest_L41 (zi q) _ _ (n + 1) s.1 (zi 6561) s.2 = _
      rw [h1, f9_soonest_L41, if_pos (Int32.le_refl _)]; rfl)
    (fun n i s hi hI => by
      obtain ⟨x3, μ⟩ := s
      obtain ⟨n', Q, rc, h1, h2, h3, h4, h5, h6⟩ := hI
      dsimp only at h1 h4 h5
      subst h1
      have hn := (BF_le h2).1
      have z1 : zi i + (1 : Int32) = zi (i + 1) := zi_add i 1
      by_cases c : n' ≤ i
      · left
        have e : i = n' := Nat.le_antisymm h2.1.2.1 c
        subst e
        refine ⟨zN1, μ, ?_, BF_none h2 h6, h5⟩
        show f9_soonest_L41 (zi q) _ _ (n + 1) (zi i) (zi i) μ = _
        rw [f9_soonest_L41, if_pos (Int32.le_refl _)]; rfl
      · have hin : i < n' := by omega
        have hu : Q i < 9 ^ m := pth_lt9 hst _ _ (h2.2.1 i hin).2.2
        have hs : mS9 T W pm m q st i (Q i) μ0 0 (zi n', zi 0, μ) := ⟨n', Q, rc, rfl, BF_D h2 (fun w hw => by obtain ⟨k', k1, -⟩ := hw; omega), hin, rfl, h3, h4, h5, Or.inr ⟨rfl, fun q => by obtain ⟨k', k1, -⟩ := q; omega⟩, h6⟩
        obtain ⟨⟨y3, y5, μ3⟩, c1, n3, Q3, rc3, d1, d2, d3, d4, d5, d6, d7, d8, d9⟩ := m_soon53 hT hW hg hm hpm hB hq hu (show i < 6561 by omega) (fun (x3_32 : Int32) (x5_33 : Int32) (μ34 : zMem) => if x5_33 = 0 then (fun (x4_38 : Int32) (μ39 : zMem) => zin x4_38 6561 (zin (μ39 1132 x4_38.toNatClampNeg) 6561 (some (0, μ39 1133 (μ39 1132 x4_38.toNatClampNeg).toNatClampNeg, μ39)))) (zi i) μ34 else f9_soonest_L41 (zi q) (fun (μ37 : zMem) => some (0, (-1 : Int32), μ37)) (fun (x4_38 : Int32) (μ39 : zMem) => zin x4_38 6561 (zin (μ39 1132 x4_38.toNatClampNeg) 6561 (some (0, μ39 1133 (μ39 1132 x4_38.toNatClampNeg).toNatClampNeg, μ39)))) n x3_32 (zi (i + 1)) μ34) (zi n', zi 0, μ) hs
        dsimp only at c1 d1 d6 d7 d8
        subst d1
        have hq0 : f9_soonest_L41 (zi q) (fun (μ37 : zMem) => some (0, (-1 : Int32), μ37)) (fun (x4_38 : Int32) (μ39 : zMem) => zin x4_38 6561 (zin (μ39 1132 x4_38.toNatClampNeg) 6561 (some (0, μ39 1133 (μ39 1132 x4_38.toNatClampNeg).toNatClampNeg, μ39)))) (n + 1) (zi n') (zi i) μ = (if y5 = 0 then zin (zi i) 6561 (zin (μ3 1132 (zi i).toNatClampNeg) 6561 (some (0, μ3 1133 (μ3 1132 (zi i).toNatClampNeg).toNatClampNeg, μ3))) else f9_soonest_L41 (zi q) (fun (μ37 : zMem) => some (0, (-1 : Int32), μ37)) (fun (x4_38 : Int32) (μ39 : zMem) => zin x4_38 6561 (zin (μ39 1132 x4_38.toNatClampNeg) 6561 (some (0, μ39 1133 (μ39 1132 x4_38.toNatClampNeg).toNatClampNeg, μ39)))) n (zi n3) (zi (i + 1)) μ3) := by
          rw [f9_soonest_L41, if_neg (show ¬ zi n' ≤ zi i from by rw [zi_le (by omega) (by omega)]; omega), z1]
          exact c1
        have hEx : (∃ k', k' < 16 ∧ ∃ v, bh T W pm m k' (Q i) = some v) ↔ ∃ v, fE T W pm m (Q3 i) v := by
          rw [d4]
          constructor
          · rintro ⟨k', k1, v, k2⟩
            exact ⟨v, (bh_E hT hm hg).1 ⟨k', k1, k2⟩⟩
          · rintro ⟨v, hv⟩
            obtain ⟨k', k1, k2⟩ := (bh_E hT hm hg).2 hv
            exact ⟨k', k1, v, k2⟩
        rcases d8 with ⟨rfl, hyes⟩ | ⟨rfl, hno⟩
        · right
          rw [if_neg (show ¬ zi 1 = (0 : Int32) from by decide)] at hq0
          refine ⟨(zi n3, μ3), hq0, n3, Q3, rc3, rfl, BF_next d2 d3 (fun v hv => by rw [d4] at hv; exact (bh_E hT hm hg).2 hv), d5, d6, d7, fun j hj => ?_⟩
          by_cases ej : j = i
          · rw [ej]; exact hEx.1 hyes
          · exact d9 j (by omega)
        · left
          rw [if_pos (show zi 0 = (0 : Int32) from rfl)] at hq0
          have hrest : ¬ ∃ v, fE T W pm m (Q3 i) v := fun q => hno (hEx.2 q)
          have hrc := (d2.2.1 i d3).2.1
          have hq6 := (d2.2.1 i d3).1
          refine ⟨zi (rc3 (Q3 i) - 1), μ3, ?_, BF_rest d2 d3 d9 hrest, d7⟩
          refine hq0.trans ?_
          rw [zin_i (by omega) (by omega), zi_cl (by omega), d6.1 i d3, zin_i hq6 (by omega), zi_cl (by omega), d6.2 _ hq6]
          unfold so9
          rw [if_neg (by omega)])
    6561 0 (zi 1, μ1) zF (by omega) (by unfold zF; omega) ⟨1, fun _ => st, fun v => if v = st then 1 else 0, rfl, BF_start (show st < 6561 by omega) rfl (fun v => rfl), fun v => by show (if v = st then 1 else 0) ≤ 1; split <;> omega, hQ1, hr1, fun j hj => absurd hj (by omega)⟩
  exact h
theorem m_soonest {T W : zN2} {pm : Nat → Nat} {m q st : Nat} {μ : zMem} (hT : TB T) (hW : WB T W) (hg : 1 ≤ W 0 2) (hm : m ≤ 4) (hpm : pmOk T pm m) (hB : mB9 T W pm m μ) (hq : q < T 2 0) (hst : st < 9 ^ m) :
    ∃ x μ', f9_soonest (zi st) (zi q) μ = some (0, x, μ') ∧ soC (fE T W pm m) st x ∧ rF9 (pm, m, q) μ μ' := by
  have h9 := pow9 hm
  have fill : ∀ K : zMem → zRes, f9_soonest_L2 K zF (zi 0) μ = K (zfil μ 1133 6561 zN1) := fun K => by
    obtain ⟨s, e1, e2⟩ := zloopE (L := fun n i s => f9_soonest_L2 K n (zi i) s) (N := 6561) (o := fun s => K s) (fun i s => s = zfil μ 1133 i zN1)
      (fun n s _ => by
        show f9_soonest_L2 K (n + 1) (zi 6561) s = _
        rw [f9_soonest_L2, if_pos (show (6561 : Int32) ≤ zi 6561 from Int32.le_refl _)])
      (fun n i s hi hs => ⟨zfil μ 1133 (i + 1) zN1, by
        subst hs
        show f9_soonest_L2 K (n + 1) (zi i) _ = _
        rw [f9_soonest_L2, if_neg (show ¬ (6561 : Int32) ≤ zi i from by rw [show (6561 : Int32) = zi 6561 from rfl, zi_le (by omega) (by omega)]; omega), zin_i hi (by omega), zlet_e, zi_cl (by omega), show (-1 : Int32) = zN1 from rfl, zfil_set, show zi i + (1 : Int32) = zi (i + 1) from zi_add i 1], rfl⟩)
      6561 0 μ zF (by omega) (by unfold zF; omega) zfil_0.symm
    rw [e2] at e1
    exact e1
  have hr1 : rF9 (pm, m, q) μ (zset (zset (zfil μ 1133 6561 zN1) 1132 0 (zi st)) 1133 st (zi 0)) := by
    refine rF9.set (rF9.set ?_ (by decide)) (by decide)
    intro k j _ hl
    rw [zfil_nk (by omega)]
  obtain ⟨x, μ', a1, a2, a3⟩ := m_soon41 hT hW hg hm hpm hB hq hst _ hr1 ⟨fun j hj => by
    have : j = 0 := by omega
    subst this
    rw [zset_nk (by decide), zset_eq], fun v hv => by
    show _ = so9 (if v = st then 1 else 0)
    by_cases e : v = st
    · rw [e, zset_eq, if_pos rfl]; rfl
    · rw [zset_nj e, if_neg e, zset_nk (by decide), zfil_at, if_pos ⟨rfl, hv⟩]; rfl⟩
  refine ⟨x, μ', ?_, a2, a3⟩
  unfold f9_soonest
  refine (fill _).trans ?_
  have hz0 : ∀ A, zin (0 : Int32) 6561 A = A := fun A => zin_i (i := 0) (by decide) (by decide)
  rw [hz0, zlet_e, zin_i (by omega) (by omega), zlet_e, zi_cl (by omega), show (0 : Int32).toNatClampNeg = 0 from by decide]
  exact a1
