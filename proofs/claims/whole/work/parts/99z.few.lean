/-! THE PURE SIDE, 65: FEW in the class, the search -/
def fup (f : Nat → Nat) (k v : Nat) : Nat → Nat := fun x => if x = k then v else f x
/-- what a search of the class changes -/
def gfr (μ μ' : zMem) : Prop := (∀ k, k < 72 → k ≠ 69 → μ' k = μ k) ∧ ∀ j, j ≠ 9 → j ≠ 10 → μ' 69 j = μ 69 j
theorem gfr.refl {μ : zMem} : gfr μ μ := ⟨fun _ _ _ => rfl, fun _ _ _ => rfl⟩
theorem gfr.trans {μ μ' μ'' : zMem} (h : gfr μ μ') (h' : gfr μ' μ'') : gfr μ μ'' := ⟨fun k a b => (h'.1 k a b).trans (h.1 k a b), fun j a b => (h'.2 j a b).trans (h.2 j a b)⟩
theorem gfr.big {μ μ' : zMem} {S : Nat → Prop} (h : zfr S μ μ') (hS : ∀ k, S k → 72 ≤ k) : gfr μ μ' := ⟨fun k a _ => h k (fun q => by have := hS k q; omega), fun j _ _ => by rw [h 69 (fun q => by have := hS 69 q; omega)]⟩
theorem gfr.s9 {μ : zMem} {v : Int32} : gfr μ (zset μ 69 9 v) := ⟨fun k _ b => zset_nk b, fun j a _ => zset_nj a⟩
theorem gfr.s10 {μ : zMem} {v : Int32} : gfr μ (zset μ 69 10 v) := ⟨fun k _ b => zset_nk b, fun j _ a => zset_nj a⟩
theorem gfr_xF {W : zN2} {pm : Nat → Nat} {m : Nat} {μ μ' : zMem} (h : gfr μ μ') (hF : xF W pm m μ) : xF W pm m μ' := by
  unfold xF
  rw [h.2 7 (by decide) (by decide), h.2 8 (by decide) (by decide), h.1 70 (by decide) (by decide), h.1 71 (by decide) (by decide)]; exact hF
theorem gfr_XT {T : zN2} {μ μ' : zMem} (h : gfr μ μ') (hX : XT T μ) : XT T μ' := XT_of (fun key hk => h.1 key (by omega) (by omega)) hX
/-- the queue, what is reached, the ways in -/
def xBq (n : Nat) (Q rc wi : Nat → Nat) (μ : zMem) : Prop := μ 69 9 = zi n ∧ (∀ j, j < n → μ 75 j = zi (Q j)) ∧ ∀ v, v < 6561 → μ 73 v = zi (rc v) ∧ μ 74 v = zi (wi v)
theorem x_comeTo {n u w : Nat} {Q rc wi : Nat → Nat} {μ : zMem} (hB : xBq n Q rc wi μ) (hu : u < 6561) (hn : n ≤ 6561) (h0 : rc u = 0 → n < 6561) (hr : ∀ v, rc v < 1000000) :
    ∃ μ', f1_comeTo (zi u) (zi w) μ = some (0, zi 0, μ') ∧ gfr μ μ' ∧ μ' 72 = μ 72 ∧ μ' 69 10 = μ 69 10 ∧ (rc u = 0 → xBq (n + 1) (fup Q n u) (fup rc u w) (fup wi u (wi u + 1)) μ') ∧ (rc u ≠ 0 → xBq n Q rc (fup wi u (wi u + 1)) μ') := by
  obtain ⟨b1, b2, b3⟩ := hB
  have hzu : ∀ A, zin (zi u) 6561 A = A := fun A => zin_i hu (by omega)
  have hru := hr u
  unfold f1_comeTo
  rw [hzu, hzu, zlet_e, zi_cl (by omega), (b3 u hu).2, show zi (wi u) + (1 : Int32) = zi (wi u + 1) from zi_add _ 1, hzu, zlet_e, zset_nk (by decide), (b3 u hu).1]
  have w1 : ∀ v, v < 6561 → zset μ 74 u (zi (wi u + 1)) 74 v = zi (fup wi u (wi u + 1) v) := fun v hv => by
    unfold fup
    by_cases e : v = u
    · rw [e, zset_eq, if_pos rfl]
    · rw [zset_nj e, if_neg e]; exact (b3 v hv).2
  by_cases c : rc u = 0
  · have hlt := h0 c
    rw [if_pos (show zi (rc u) = (0 : Int32) from by rw [c]; rfl), zset_nk (by decide), b1, if_neg (show ¬ (6561 : Int32) ≤ zi n from by rw [show (6561 : Int32) = zi 6561 from rfl, zi_le (by omega) (by omega)]; omega), hzu, zlet_e]
    rw [show zset (zset μ 74 u (zi (wi u + 1))) 73 u (zi w) 69 9 = zi n from by rw [zset_nk (by decide), zset_nk (by decide)]; exact b1, zin_i hlt (by omega), zlet_e, zi_cl (by omega), zlet_e]
    refine ⟨_, rfl, ?_, ?_, ?_, fun _ => ⟨?_, fun j hj => ?_, fun v hv => ⟨?_, ?_⟩⟩, fun q => absurd c q⟩
    · refine gfr.trans (gfr.big (S := fun k => 72 ≤ k) (μ' := zset (zset (zset μ 74 u (zi (wi u + 1))) 73 u (zi w)) 75 n (zi u)) ?_ (fun k hk => hk)) gfr.s9
      exact ((zfr.refl.set (show 72 ≤ 74 by decide)).set (show 72 ≤ 73 by decide)).set (show 72 ≤ 75 by decide)
    · rw [zset_nk (by decide), zset_nk (by decide), zset_nk (by decide), zset_nk (by decide)]
    · rw [zset_nj (by decide), zset_nk (by decide), zset_nk (by decide), zset_nk (by decide)]
    · rw [zset_eq, zset_nk (by decide), zset_nk (by decide), zset_nk (by decide), b1]; exact zi_add n 1
    · rw [zset_nk (by decide)]
      unfold fup
      by_cases e : j = n
      · rw [e, zset_eq, if_pos rfl]
      · rw [zset_nj e, if_neg e, zset_nk (by decide), zset_nk (by decide)]; exact b2 j (by omega)
    · rw [zset_nk (by decide), zset_nk (by decide)]
      unfold fup
      by_cases e : v = u
      · rw [e, zset_eq, if_pos rfl]
      · rw [zset_nj e, if_neg e, zset_nk (by decide)]; exact (b3 v hv).1
    · rw [zset_nk (by decide), zset_nk (by decide), zset_nk (by decide)]; exact w1 v hv
  · rw [if_neg (show ¬ zi (rc u) = (0 : Int32) from by rw [show (0 : Int32) = zi 0 from rfl, zi_eq (by omega) (by omega)]; exact c)]
    refine ⟨_, rfl, gfr.big (S := fun k => 72 ≤ k) (zfr.refl.set (show 72 ≤ 74 by decide)) (fun k hk => hk), zset_nk (by decide), by rw [zset_nk (by decide)], fun q => absurd q c, fun _ => ⟨?_, fun j hj => ?_, fun v hv => ⟨?_, w1 v hv⟩⟩⟩
    · rw [zset_nk (by decide)]; exact b1
    · rw [zset_nk (by decide)]; exact b2 j hj
    · rw [zset_nk (by decide)]; exact (b3 v hv).1
/-- a way from u to v by two -/
def ed (T W : zN2) (pm : Nat → Nat) (m u v a b : Nat) : Nat := if a < b ∧ fC T W pm u a b = true ∧ fN W pm m u a b = v then 1 else 0
def ms (T W : zN2) (pm : Nat → Nat) (m u v a b : Nat) : Nat := nsum (fun a' => nsum (ed T W pm m u v a') m) a + nsum (ed T W pm m u v a) b
def mu (T W : zN2) (pm : Nat → Nat) (m u v : Nat) : Nat := nsum (fun a' => nsum (ed T W pm m u v a') m) m
theorem ed_le {T W : zN2} {pm : Nat → Nat} {m u v a b : Nat} : ed T W pm m u v a b ≤ 1 := by unfold ed; split <;> omega
theorem ms_le {T W : zN2} {pm : Nat → Nat} {m u v a b : Nat} (hm : m ≤ 4) (ha : a ≤ m) (hb : b ≤ m) : ms T W pm m u v a b ≤ 20 := by
  have h1 : nsum (fun a' => nsum (ed T W pm m u v a') m) a ≤ 4 * a := nsum_le a (fun a' _ => by
    have := nsum_le (f := ed T W pm m u v a') (c := 1) m (fun _ _ => ed_le)
    omega)
  have h2 := nsum_le (f := ed T W pm m u v a) (c := 1) b (fun _ _ => ed_le)
  unfold ms
  omega
theorem mu_le {T W : zN2} {pm : Nat → Nat} {m u v : Nat} (hm : m ≤ 4) : mu T W pm m u v ≤ 20 := by
  have := ms_le (T := T) (W := W) (pm := pm) (u := u) (v := v) (b := 0) hm (Nat.le_refl m) (Nat.zero_le m)
  exact this
theorem ms_row {T W : zN2} {pm : Nat → Nat} {m u v a : Nat} : ms T W pm m u v a m = ms T W pm m u v (a + 1) 0 := rfl
theorem ms_a1 {T W : zN2} {pm : Nat → Nat} {m u v a : Nat} : ms T W pm m u v a (a + 1) = ms T W pm m u v a 0 := by
  unfold ms
  rw [nsum_0 (a + 1) (fun b hb => by unfold ed; rw [if_neg (by omega)])]; rfl
theorem ms_s {T W : zN2} {pm : Nat → Nat} {m u v a b : Nat} : ms T W pm m u v a (b + 1) = ms T W pm m u v a b + ed T W pm m u v a b := (Nat.add_assoc _ _ _).symm
/-- the two that are looked at already -/
def dP (T W : zN2) (pm : Nat → Nat) (m u a b v : Nat) : Prop := ∃ a' b', (a' < a ∨ (a' = a ∧ b' < b)) ∧ a' < b' ∧ b' < m ∧ fC T W pm u a' b' = true ∧ fN W pm m u a' b' = v
theorem dP_s {T W : zN2} {pm : Nat → Nat} {m u a b v : Nat} (hb : b < m) (hab : a < b) : dP T W pm m u a (b + 1) v ↔ dP T W pm m u a b v ∨ (fC T W pm u a b = true ∧ fN W pm m u a b = v) := by
  constructor
  · rintro ⟨a', b', h1, h2, h3, h4, h5⟩
    by_cases e : a' = a ∧ b' = b
    · rw [e.1, e.2] at h4 h5; exact Or.inr ⟨h4, h5⟩
    · exact Or.inl ⟨a', b', by omega, h2, h3, h4, h5⟩
  · rintro (⟨a', b', h1, h2⟩ | ⟨h4, h5⟩)
    · exact ⟨a', b', by omega, h2⟩
    · exact ⟨a, b, by omega, hab, hb, h4, h5⟩
theorem dP_a1 {T W : zN2} {pm : Nat → Nat} {m u a v : Nat} : dP T W pm m u a (a + 1) v ↔ dP T W pm m u a 0 v := by
  constructor
  · rintro ⟨a', b', h1, h2⟩
    exact ⟨a', b', by omega, h2⟩
  · rintro ⟨a', b', h1, h2⟩
    exact ⟨a', b', by omega, h2⟩
theorem dP_row {T W : zN2} {pm : Nat → Nat} {m u a v : Nat} : dP T W pm m u a m v ↔ dP T W pm m u (a + 1) 0 v := by
  constructor
  · rintro ⟨a', b', h1, h2⟩
    exact ⟨a', b', by omega, h2⟩
  · rintro ⟨a', b', h1, h2⟩
    exact ⟨a', b', by omega, h2⟩
theorem dP_all {T W : zN2} {pm : Nat → Nat} {m u v : Nat} : dP T W pm m u m 0 v ↔ fE T W pm m u v := by
  constructor
  · rintro ⟨a', b', _, h2⟩
    exact ⟨a', b', h2⟩
  · rintro ⟨a', b', h1, h2, h3⟩
    exact ⟨a', b', by omega, h1, h2, h3⟩
/-- where the search stands -/
def xS9 (T W : zN2) (pm : Nat → Nat) (m st i u : Nat) (μ0 : zMem) (a b : Nat) (s : Int32 × zMem) : Prop :=
  ∃ n Q rc wi, BF (fE T W pm m) st i n Q rc (dP T W pm m u a b) ∧ i < n ∧ Q i = u ∧ (∀ v, rc v ≤ n) ∧ (∀ v, v < 6561 → wi v = nsum (fun j => mu T W pm m (Q j) v) i + ms T W pm m u v a b) ∧ xBq n Q rc wi s.2 ∧ xU m u s.2 ∧ gfr μ0 s.2 ∧ s.2 69 10 = μ0 69 10 ∧ ((s.1 = zi 0 ∧ ∃ v, dP T W pm m u a b v) ∨ (s.1 = zi 1 ∧ ¬ ∃ v, dP T W pm m u a b v)) ∧ (μ0 69 10 = zN1 → ∀ j, j < i → ∃ v, fE T W pm m (Q j) v)
theorem BF_D {E : Nat → Nat → Prop} {st i n : Nat} {Q rc : Nat → Nat} {D D' : Nat → Prop} (h : BF E st i n Q rc D) (hD : ∀ w, D' w → D w) : BF E st i n Q rc D' := by
  obtain ⟨h1, h2, h3, h4, h5, h6, h7, h8⟩ := h
  exact ⟨h1, h2, h3, h4, h5, h6, fun hi w hw => h7 hi w (hD w hw), h8⟩
theorem xS9_eq {T W : zN2} {pm : Nat → Nat} {m st i u : Nat} {μ0 : zMem} {a b a' b' : Nat} {s : Int32 × zMem} (h : xS9 T W pm m st i u μ0 a b s) (hd : ∀ v, dP T W pm m u a' b' v ↔ dP T W pm m u a b v) (hm : ∀ v, ms T W pm m u v a' b' = ms T W pm m u v a b) : xS9 T W pm m st i u μ0 a' b' s := by
  obtain ⟨n, Q, rc, wi, h1, h2, h3, h4, h5, h6, h7, h8, h9, h10, h11⟩ := h
  refine ⟨n, Q, rc, wi, BF_D h1 (fun w hw => (hd w).1 hw), h2, h3, h4, fun v hv => by rw [hm]; exact h5 v hv, h6, h7, h8, h9, ?_, h11⟩
  rcases h10 with ⟨k1, v, k2⟩ | ⟨k1, k2⟩
  · exact Or.inl ⟨k1, v, (hd v).2 k2⟩
  · exact Or.inr ⟨k1, fun q => k2 (by obtain ⟨v, q⟩ := q; exact ⟨v, (hd v).1 q⟩)⟩
theorem x_find87 {T W : zN2} {pm : Nat → Nat} {m st i u a : Nat} {μ0 : zMem} (hT : TB T) (hW : WB T W) (hX : XT T μ0) (hm : m ≤ 4) (hpm : ∀ i, i < m → pm i < 8) (hF : xF W pm m μ0) (hu : u < 9 ^ m) (hi : i < 6561) (ha : a < m) (K : Int32 → zMem → zRes) (s : Int32 × zMem) (hs : xS9 T W pm m st i u μ0 a 0 s) :
    ∃ s', f1_findAll_L87 (zi i) (zi a) K zF s.1 (zi (a + 1)) s.2 = K s'.1 s'.2 ∧ xS9 T W pm m st i u μ0 (a + 1) 0 s' := by
  have h9 := pow9 hm
  obtain ⟨s', e1, e2, -⟩ := zloopE (L := fun n b (s : Int32 × zMem) => f1_findAll_L87 (zi i) (zi a) K n s.1 (zi b) s.2) (N := m) (o := fun s => K s.1 s.2) (fun b s => xS9 T W pm m st i u μ0 a b s ∧ a < b)
    (fun n s hs => by
      obtain ⟨⟨n', Q, rc, wi, h1, h2, h3, h4, h5, h6, h7, h8, h9, h10, h11⟩, -⟩ := hs
      show f1_findAll_L87 (zi i) (zi a) K (n + 1) s.1 (zi m) s.2 = _
      rw [f1_findAll_L87, (gfr_xF h8 hF).1, if_pos (Int32.le_refl _)])
    (fun n b s hb hs => by
      obtain ⟨x3, μ⟩ := s
      obtain ⟨⟨n', Q, rc, wi, h1, h2, h3, h4, h5, h6, h7, h8, h9', h10, h11⟩, hab⟩ := hs
      dsimp only at h6 h7 h8 h9' h10
      have z1 : zi b + (1 : Int32) = zi (b + 1) := zi_add b 1
      have hF' := gfr_xF h8 hF
      have hn := BF_le h1
      have hcw := x_canWork hT hW (gfr_XT h8 hX) hm hpm hF' h7 ha hb
      have hq : f1_findAll_L87 (zi i) (zi a) K (n + 1) x3 (zi b) μ = if zi (b01 (fC T W pm u a b)) = 0 then f1_findAll_L87 (zi i) (zi a) K n x3 (zi (b + 1)) μ else bnd0 (f1_comeTo (zi (fN W pm m u a b)) (zi (rc u + 1)) μ) (fun (v37 : Int32) (μ38 : zMem) => f1_findAll_L87 (zi i) (zi a) K n (0 : Int32) (zi (b + 1)) μ38) := by
        rw [f1_findAll_L87, hF'.1, if_neg (show ¬ zi m ≤ zi b from by rw [zi_le (by omega) (by omega)]; omega), hcw, bnd0_ok, zlet_e, z1]
        by_cases c : fC T W pm u a b = true
        · rw [c, if_neg (show ¬ zi (b01 true) = (0 : Int32) from by decide), if_neg (show ¬ zi (b01 true) = (0 : Int32) from by decide), zin_i hi (by omega), zi_cl (by omega), h6.2.1 i h2, h3, x_stateBehind hW hm hF' h7 hu ha hb (by omega), bnd0_ok, zin_i hi (by omega), h6.2.1 i h2, h3, zin_i (by omega) (by omega), zi_cl (by omega), (h6.2.2 u (by omega)).1, show zi (rc u) + (1 : Int32) = zi (rc u + 1) from zi_add _ 1]
        · rw [(Bool.not_eq_true _).mp c]; rfl
      show ∃ s', f1_findAll_L87 (zi i) (zi a) K (n + 1) x3 (zi b) μ = _ ∧ _
      rw [hq]
      by_cases c : fC T W pm u a b = true
      · have hlt : fN W pm m u a b < 6561 := Nat.lt_of_lt_of_le fN_lt h9
        have hE : fE T W pm m (Q i) (fN W pm m u a b) := by rw [h3]; exact ⟨a, b, hab, hb, c, rfl⟩
        rw [c, if_neg (show ¬ zi (b01 true) = (0 : Int32) from by decide)]
        obtain ⟨μ', k1, k2, k3, k4, k5, k6⟩ := x_comeTo (u := fN W pm m u a b) (w := rc u + 1) h6 hlt hn.1 (fun q => hn.2 _ hlt q) (fun v => by have := h4 v; omega)
        rw [k1, bnd0_ok]
        have hw : ∀ v, v < 6561 → fup wi (fN W pm m u a b) (wi (fN W pm m u a b) + 1) v = nsum (fun j => mu T W pm m (Q j) v) i + ms T W pm m u v a (b + 1) := fun v hv => by
          rw [ms_s]
          unfold fup ed
          by_cases e : v = fN W pm m u a b
          · rw [if_pos e, if_pos ⟨hab, c, e.symm⟩, ← e, h5 v hv]; omega
          · rw [if_neg e, if_neg (fun q => e q.2.2.symm), h5 v hv]; omega
        have hfl : ((0 : Int32) = zi 0 ∧ ∃ v, dP T W pm m u a (b + 1) v) ∨ ((0 : Int32) = zi 1 ∧ ¬ ∃ v, dP T W pm m u a (b + 1) v) := Or.inl ⟨rfl, _, (dP_s hb hab).2 (Or.inr ⟨c, rfl⟩)⟩
        have hU' : xU m u μ' := by unfold xU; rw [k3]; exact h7
        refine ⟨((0 : Int32), μ'), rfl, ?_, by omega⟩
        by_cases c0 : rc (fN W pm m u a b) = 0
        · refine ⟨n' + 1, fup Q n' (fN W pm m u a b), fup rc (fN W pm m u a b) (rc u + 1), _, BF_new (rc' := fup rc (fN W pm m u a b) (rc u + 1)) h1 h2 hE hlt c0 (fun w hw => ((dP_s hb hab).1 hw).elim Or.inl (fun q => Or.inr q.2.symm)) (fun j => rfl) (fun w => by rw [h3]; rfl), by omega, ?_, fun v => ?_, fun v hv => ?_, k5 c0, hU', h8.trans k2, k4.trans h9', hfl, fun q j hj => ?_⟩
          · show (if i = n' then _ else _) = _
            rw [if_neg (by omega)]; exact h3
          · show (if v = _ then _ else _) ≤ _
            have := h4 u
            have := h4 v
            split <;> omega
          · rw [hw v hv]
            congr 1
            apply nsum_congr
            intro j hj
            show _ = mu T W pm m (if j = n' then _ else _) v
            rw [if_neg (by omega)]
          · show ∃ v, fE T W pm m (if j = n' then _ else _) v
            rw [if_neg (by omega)]; exact h11 q j hj
        · exact ⟨n', Q, rc, _, BF_old h1 h2 (v := fN W pm m u a b) (by omega) (fun w hw => ((dP_s hb hab).1 hw).elim Or.inl (fun q => Or.inr q.2.symm)), h2, h3, h4, hw, k6 c0, hU', h8.trans k2, k4.trans h9', hfl, h11⟩
      · have c' := (Bool.not_eq_true _).mp c
        rw [c', if_pos (show zi (b01 false) = (0 : Int32) from rfl)]
        have hd : ∀ v, dP T W pm m u a (b + 1) v ↔ dP T W pm m u a b v := fun v => by
          rw [dP_s hb hab]
          exact ⟨fun q => q.elim id (fun r => absurd r.1 c), Or.inl⟩
        exact ⟨(x3, μ), rfl, xS9_eq ⟨n', Q, rc, wi, h1, h2, h3, h4, h5, h6, h7, h8, h9', h10, h11⟩ hd (fun v => by rw [ms_s]; unfold ed; rw [if_neg (fun q => c q.2.1)]; rfl), by omega⟩)
    (m - (a + 1)) (a + 1) s zF (by omega) (by unfold zF; omega) ⟨xS9_eq hs (fun v => dP_a1) (fun v => ms_a1), by omega⟩
  exact ⟨s', e1, xS9_eq e2 (fun v => dP_row.symm) (fun v => ms_row.symm)⟩
theorem x_find72 {T W : zN2} {pm : Nat → Nat} {m st i u : Nat} {μ0 : zMem} (hT : TB T) (hW : WB T W) (hX : XT T μ0) (hm : m ≤ 4) (hpm : ∀ i, i < m → pm i < 8) (hF : xF W pm m μ0) (hu : u < 9 ^ m) (hi : i < 6561) (K : Int32 → zMem → zRes) (s : Int32 × zMem) (hs : xS9 T W pm m st i u μ0 0 0 s) :
    ∃ s', f1_findAll_L72 (zi i) K zF s.1 (zi 0) s.2 = K s'.1 s'.2 ∧ xS9 T W pm m st i u μ0 m 0 s' := by
  obtain ⟨s', e1, e2⟩ := zloopE (L := fun n a (s : Int32 × zMem) => f1_findAll_L72 (zi i) K n s.1 (zi a) s.2) (N := m) (o := fun s => K s.1 s.2) (fun a s => xS9 T W pm m st i u μ0 a 0 s)
    (fun n s hs => by
      obtain ⟨n', Q, rc, wi, h1, h2, h3, h4, h5, h6, h7, h8, h9, h10, h11⟩ := hs
      show f1_findAll_L72 (zi i) K (n + 1) s.1 (zi m) s.2 = _
      rw [f1_findAll_L72, (gfr_xF h8 hF).1, if_pos (Int32.le_refl _)])
    (fun n a s ha hs => by
      have z1 : zi a + (1 : Int32) = zi (a + 1) := zi_add a 1
      obtain ⟨s', k1, k2⟩ := x_find87 hT hW hX hm hpm hF hu hi ha (fun (x3_39 : Int32) (μ40 : zMem) => f1_findAll_L72 (zi i) K n x3_39 (zi (a + 1)) μ40) s hs
      refine ⟨s', ?_, k2⟩
      obtain ⟨n', Q, rc, wi, h1, h2, h3, h4, h5, h6, h7, h8, h9, h10, h11⟩ := hs
      show f1_findAll_L72 (zi i) K (n + 1) s.1 (zi a) s.2 = _
      rw [f1_findAll_L72, (gfr_xF h8 hF).1, if_neg (show ¬ zi m ≤ zi a from by rw [zi_le (by omega) (by omega)]; omega), zlet_e, z1]
      exact k1)
    m 0 s zF (by omega) (by unfold zF; omega) hs
  exact ⟨s', e1, e2⟩
