/-! THE PURE SIDE, 66: FEW in the class, the search whole -/
theorem pth_lt9 {T W : zN2} {pm : Nat → Nat} {m st : Nat} (hs : st < 9 ^ m) : ∀ L v, pth (fE T W pm m) st L v → v < 9 ^ m
  | 0, v, h => by cases h; exact hs
  | L + 1, v, ⟨c, _, i, j, _, _, _, h⟩ => by rw [← h]; exact fN_lt
def xI9 (T W : zN2) (pm : Nat → Nat) (m st : Nat) (μ0 : zMem) (i : Nat) (μ : zMem) : Prop :=
  ∃ n Q rc wi, BF (fE T W pm m) st i n Q rc (fun _ => False) ∧ (∀ v, rc v ≤ n) ∧ (∀ v, v < 6561 → wi v = nsum (fun j => mu T W pm m (Q j) v) i) ∧ xBq n Q rc wi μ ∧ gfr μ0 μ ∧ ((μ 69 10 = zN1 ∧ ∀ j, j < i → ∃ v, fE T W pm m (Q j) v) ∨ (μ 69 10 ≠ zN1 ∧ soC (fE T W pm m) st (μ 69 10)))
theorem x_find42 {T W : zN2} {pm : Nat → Nat} {m st : Nat} {μ0 : zMem} (hT : TB T) (hW : WB T W) (hX : XT T μ0) (hm : m ≤ 4) (hpm : ∀ i, i < m → pm i < 8) (hF : xF W pm m μ0) (hst : st < 9 ^ m) (K : zMem → zRes) (μ1 : zMem) (h0 : xI9 T W pm m st μ0 0 μ1) :
    ∃ μ' n Q rc wi, f1_findAll_L42 K zF (zi 0) μ1 = K μ' ∧ BF (fE T W pm m) st n n Q rc (fun _ => False) ∧ (∀ v, rc v ≤ n) ∧ (∀ v, v < 6561 → wi v = nsum (fun j => mu T W pm m (Q j) v) n) ∧ xBq n Q rc wi μ' ∧ gfr μ0 μ' ∧ soC (fE T W pm m) st (μ' 69 10) := by
  have h9 := pow9 hm
  have fin : ∀ i μ, xI9 T W pm m st μ0 i μ → (∀ n, μ 69 9 = zi n → n ≤ 6561 → n ≤ i) → ∃ n Q rc wi, BF (fE T W pm m) st n n Q rc (fun _ => False) ∧ (∀ v, rc v ≤ n) ∧ (∀ v, v < 6561 → wi v = nsum (fun j => mu T W pm m (Q j) v) n) ∧ xBq n Q rc wi μ ∧ gfr μ0 μ ∧ soC (fE T W pm m) st (μ 69 10) := by
    intro i μ h hle
    obtain ⟨n, Q, rc, wi, a1, a2, a3, a4, a5, a6⟩ := h
    have e : i = n := Nat.le_antisymm a1.1.2.1 (hle n a4.1 (BF_le a1).1)
    subst e
    refine ⟨i, Q, rc, wi, a1, a2, a3, a4, a5, ?_⟩
    rcases a6 with ⟨q1, q2⟩ | ⟨-, q2⟩
    · rw [q1]; exact BF_none a1 q2
    · exact q2
  have h := zloopQ (L := fun n i (μ : zMem) => f1_findAll_L42 K n (zi i) μ) (N := 6561)
    (fun r => ∃ μ' n Q rc wi, r = K μ' ∧ BF (fE T W pm m) st n n Q rc (fun _ => False) ∧ (∀ v, rc v ≤ n) ∧ (∀ v, v < 6561 → wi v = nsum (fun j => mu T W pm m (Q j) v) n) ∧ xBq n Q rc wi μ' ∧ gfr μ0 μ' ∧ soC (fE T W pm m) st (μ' 69 10))
    (fun i μ => xI9 T W pm m st μ0 i μ)
    (fun n μ hI => by
      obtain ⟨n', Q, rc, wi, a⟩ := fin 6561 μ hI (fun n _ h => h)
      refine ⟨μ, n', Q, rc, wi, ?_, a⟩
      show f1_findAll_L42 K (n + 1) (zi 6561) μ = _
      rw [f1_findAll_L42, if_pos (show (6561 : Int32) ≤ zi 6561 from Int32.le_refl _)]
      split <;> rfl)
    (fun n i μ hi hI => by
      have hI' := hI
      obtain ⟨n', Q, rc, wi, a1, a2, a3, a4, a5, a6⟩ := hI
      have hn := (BF_le a1).1
      have z1 : zi i + (1 : Int32) = zi (i + 1) := zi_add i 1
      by_cases c : n' ≤ i
      · left
        obtain ⟨n2, Q2, rc2, wi2, a⟩ := fin i μ hI' (fun n2 e h => by
          rw [a4.1] at e
          have := zi_inj (by omega) (by omega) e
          omega)
        refine ⟨μ, n2, Q2, rc2, wi2, ?_, a⟩
        show f1_findAll_L42 K (n + 1) (zi i) μ = _
        rw [f1_findAll_L42, a4.1, if_pos (by rw [zi_le (by omega) (by omega)]; exact c)]
      · right
        have hin : i < n' := by omega
        have hu : Q i < 9 ^ m := pth_lt9 hst _ _ (a1.2.1 i hin).2.2
        obtain ⟨μ2, b1, b2, b3⟩ := x_unfold (W := W) (pm := pm) hm (gfr_xF a5 hF) (show Q i < 6561 by omega)
        have g2 : gfr μ μ2 := gfr.big b3 (fun k hk => by omega)
        have hs : xS9 T W pm m st i (Q i) μ 0 0 (zi 1, μ2) := by
          have hd : ∀ v, ¬ dP T W pm m (Q i) 0 0 v := fun v q => by
            obtain ⟨a', b', q1, -⟩ := q
            omega
          refine ⟨n', Q, rc, wi, BF_D a1 (fun w hw => hd w hw), hin, rfl, a2, fun v hv => a3 v hv, ⟨?_, fun j hj => ?_, fun v hv => ?_⟩, b2, g2, ?_, Or.inr ⟨rfl, fun q => by obtain ⟨v, q⟩ := q; exact hd v q⟩, fun q => ?_⟩
          · show μ2 69 9 = _
            rw [b3 69 (by decide)]; exact a4.1
          · show μ2 75 j = _
            rw [b3 75 (by decide)]; exact a4.2.1 j hj
          · show μ2 73 v = _ ∧ μ2 74 v = _
            rw [b3 73 (by decide), b3 74 (by decide)]; exact a4.2.2 v hv
          · show μ2 69 10 = _
            rw [b3 69 (by decide)]
          · rcases a6 with ⟨-, q2⟩ | ⟨q1, -⟩
            · exact q2
            · exact absurd q q1
        obtain ⟨⟨x3, μ3⟩, c1, n3, Q3, rc3, wi3, d1, d2, d3, d4, d5, d6, d7, d8, d9, d10, d11⟩ := x_find72 hT hW (gfr_XT a5 hX) hm hpm (gfr_xF a5 hF) hu (show i < 6561 by omega) (fun (x3_41 : Int32) (μ42 : zMem) => zlet (fun (μ43 : zMem) => f1_findAll_L42 K n (zi (i + 1)) μ43) (fun j44 => if x3_41 = 0 then j44 μ42 else if (μ42 69 10) = (-1 : Int32) then zin (zi i) 6561 (zin (μ42 75 i) 6561 (zlet (zset μ42 69 10 ((μ42 73 (μ42 75 i).toNatClampNeg) - (1 : Int32))) (fun (μ51 : zMem) => j44 μ51))) else j44 μ42)) (zi 1, μ2) hs
        dsimp only at c1 d6 d7 d8 d9 d10
        have hq : f1_findAll_L42 K (n + 1) (zi i) μ = zlet (fun (μ43 : zMem) => f1_findAll_L42 K n (zi (i + 1)) μ43) (fun j44 => if x3 = 0 then j44 μ3 else if (μ3 69 10) = (-1 : Int32) then zin (zi i) 6561 (zin (μ3 75 i) 6561 (zlet (zset μ3 69 10 ((μ3 73 (μ3 75 i).toNatClampNeg) - (1 : Int32))) (fun (μ51 : zMem) => j44 μ51))) else j44 μ3) := by
          rw [f1_findAll_L42, a4.1, if_neg (show ¬ zi n' ≤ zi i from by rw [zi_le (by omega) (by omega)]; omega), if_neg (show ¬ (6561 : Int32) ≤ zi i from by rw [show (6561 : Int32) = zi 6561 from rfl, zi_le (by omega) (by omega)]; omega), zin_i (by omega) (by omega), zi_cl (by omega), a4.2.1 i hin, b1, bnd0_ok, z1]
          exact c1
        have hn3 := (BF_le d1).1
        have d1' := BF_next d1 d2 (fun v hv => dP_all.2 (by rw [d3] at hv; exact hv))
        have hw3 : ∀ v, v < 6561 → wi3 v = nsum (fun j => mu T W pm m (Q3 j) v) (i + 1) := fun v hv => by
          rw [d5 v hv]
          show _ = nsum (fun j => mu T W pm m (Q3 j) v) i + mu T W pm m (Q3 i) v
          rw [d3]; rfl
        show ∃ s', f1_findAll_L42 K (n + 1) (zi i) μ = _ ∧ _
        rw [hq, zlet_e]
        rcases d10 with ⟨rfl, v, hv⟩ | ⟨rfl, hno⟩
        · rw [if_pos (show zi 0 = (0 : Int32) from rfl)]
          refine ⟨μ3, rfl, n3, Q3, rc3, wi3, d1', d4, hw3, d6, a5.trans d8, ?_⟩
          rw [d9]
          rcases a6 with ⟨q1, -⟩ | q
          · refine Or.inl ⟨q1, fun j hj => ?_⟩
            by_cases ej : j = i
            · rw [ej, d3]; exact ⟨v, dP_all.1 hv⟩
            · exact d11 q1 j (by omega)
          · exact Or.inr q
        · rw [if_neg (show ¬ zi 1 = (0 : Int32) from by decide)]
          have hrest : ¬ ∃ v, fE T W pm m (Q3 i) v := fun q => hno (by
            obtain ⟨v, q⟩ := q
            rw [d3] at q
            exact ⟨v, dP_all.2 q⟩)
          rcases a6 with ⟨q1, -⟩ | ⟨q1, q2⟩
          · have hrc := (d1.2.1 i d2).2.1
            have hrl := d4 (Q3 i)
            have e10 : μ3 69 10 = zN1 := d9.trans q1
            rw [if_pos (show μ3 69 10 = (-1 : Int32) from e10), zin_i (by omega) (by omega), d6.2.1 i d2, zin_i (d1.2.1 i d2).1 (by have := (d1.2.1 i d2).1; omega), zlet_e, zi_cl (by have := (d1.2.1 i d2).1; omega), (d6.2.2 (Q3 i) (d1.2.1 i d2).1).1, show zi (rc3 (Q3 i)) - (1 : Int32) = zi (rc3 (Q3 i) - 1) from zi_sub (b := 1) (by omega)]
            refine ⟨_, rfl, n3, Q3, rc3, wi3, d1', d4, hw3, ⟨?_, fun j hj => ?_, fun v hv => ?_⟩, (a5.trans d8).trans gfr.s10, Or.inr ⟨?_, ?_⟩⟩
            · rw [zset_nj (by decide)]; exact d6.1
            · rw [zset_nk (by decide)]; exact d6.2.1 j hj
            · rw [zset_nk (by decide), zset_nk (by decide)]; exact d6.2.2 v hv
            · rw [zset_eq]
              intro q
              rw [zi_nN1 (by omega)] at q
              exact q
            · rw [zset_eq]; exact BF_rest d1 d2 (d11 q1) hrest
          · rw [if_neg (show ¬ μ3 69 10 = (-1 : Int32) from fun q => q1 (d9.symm.trans q))]
            exact ⟨μ3, rfl, n3, Q3, rc3, wi3, d1', d4, hw3, d6, a5.trans d8, Or.inr ⟨fun q => q1 (d9.symm.trans q), by rw [d9]; exact q2⟩⟩)
    6561 0 μ1 zF (by omega) (by unfold zF; omega) h0
  exact h
theorem x_findAll {T W : zN2} {pm : Nat → Nat} {m st : Nat} {μ : zMem} (hT : TB T) (hW : WB T W) (hX : XT T μ) (hm : m ≤ 4) (hpm : ∀ i, i < m → pm i < 8) (hF : xF W pm m μ) (hst : st < 9 ^ m) :
    ∃ μ' n Q rc wi, f1_findAll (zi st) μ = some (0, zi 0, μ') ∧ BF (fE T W pm m) st n n Q rc (fun _ => False) ∧ (∀ v, rc v ≤ n) ∧ (∀ v, v < 6561 → wi v = nsum (fun j => mu T W pm m (Q j) v) n) ∧ xBq n Q rc wi μ' ∧ gfr μ μ' ∧ soC (fE T W pm m) st (μ' 69 10) := by
  have h9 := pow9 hm
  have g1 : gfr μ (zfil (zfil μ 73 6561 (zi 0)) 74 6561 (zi 0)) := gfr.big (S := fun k => 72 ≤ k) (fun k hk => by rw [zfil_nk (by omega), zfil_nk (by omega)]) (fun k hk => hk)
  have g2 : gfr μ (zset (zset (zset (zset (zfil (zfil μ 73 6561 (zi 0)) 74 6561 (zi 0)) 69 10 zN1) 73 st (zi 1)) 75 0 (zi st)) 69 9 (zi 1)) := by
    refine gfr.trans (gfr.trans (g1.trans (gfr.s10 (v := zN1))) (gfr.big (S := fun k => 72 ≤ k) (μ' := zset (zset (zset (zfil (zfil μ 73 6561 (zi 0)) 74 6561 (zi 0)) 69 10 zN1) 73 st (zi 1)) 75 0 (zi st)) ?_ (fun k hk => hk))) gfr.s9
    exact (zfr.refl.set (show 72 ≤ 73 by decide)).set (show 72 ≤ 75 by decide)
  have hI : xI9 T W pm m st μ 0 (zset (zset (zset (zset (zfil (zfil μ 73 6561 (zi 0)) 74 6561 (zi 0)) 69 10 zN1) 73 st (zi 1)) 75 0 (zi st)) 69 9 (zi 1)) := by
    refine ⟨1, fun _ => st, fun v => if v = st then 1 else 0, fun _ => 0, BF_start (show st < 6561 by omega) rfl (fun v => rfl), fun v => by show (if v = st then 1 else 0) ≤ 1; split <;> omega, fun v _ => rfl, ⟨zset_eq, fun j hj => ?_, fun v hv => ⟨?_, ?_⟩⟩, g2, Or.inl ⟨?_, fun j hj => absurd hj (by omega)⟩⟩
    · have : j = 0 := by omega
      subst this
      rw [zset_nk (by decide), zset_eq]
    · show _ = zi (if v = st then 1 else 0)
      rw [zset_nk (by decide), zset_nk (by decide)]
      by_cases e : v = st
      · rw [e, zset_eq, if_pos rfl]
      · rw [zset_nj e, if_neg e, zset_nk (by decide), zfil_nk (by decide), zfil_at, if_pos ⟨rfl, hv⟩]
    · rw [zset_nk (by decide), zset_nk (by decide), zset_nk (by decide), zset_nk (by decide), zfil_at, if_pos ⟨rfl, hv⟩]
    · rw [zset_nj (by decide), zset_nk (by decide), zset_nk (by decide), zset_eq]
  obtain ⟨μ', n, Q, rc, wi, a1, a2⟩ := x_find42 hT hW hX hm hpm hF hst (fun (μ52 : zMem) => some (0, 0, μ52)) _ hI
  refine ⟨μ', n, Q, rc, wi, ?_, a2⟩
  unfold f1_findAll
  rw [show (0 : Int32) = zi 0 from rfl, x_fill (by decide), bnd0_ok, x_fill (by decide), bnd0_ok, zlet_e, zin_i (by omega) (by omega), zlet_e, zin_i (by decide) (by decide), zlet_e, zlet_e, zlet_e, zi_cl (by omega), show (zi 0).toNatClampNeg = 0 from rfl]
  exact a1
