/-! THE PURE SIDE, 68: FEW in the class, AT MOST, whole -/
theorem tot_le {T W : zN2} {pm : Nat → Nat} {m n v : Nat} {Q0 : Nat → Nat} (hm : m ≤ 4) : nsum (fun j => mu T W pm m (Q0 j) v) n ≤ 20 * n := nsum_le n (fun _ _ => mu_le hm)
/-- where the taking of u's ways stands -/
def xK8 (T W : zN2) (pm : Nat → Nat) (m st n : Nat) (Q0 : Nat → Nat) (μ0 : zMem) (i u ru mo a b : Nat) (s : Int32 × zMem) : Prop :=
  ∃ r Q rc wi, s.1 = zi r ∧ kI T W pm m st n Q0 i u a b r Q rc wi ∧ i < r ∧ Q i = u ∧ rc u = ru ∧ ru ≤ n + i ∧ (∀ j, j < i → rc (Q j) - 1 ≤ mo) ∧ kM n r Q rc wi s.2 ∧ xU m u s.2 ∧ gfr μ0 s.2
theorem x_most82 {T W : zN2} {pm : Nat → Nat} {m st n : Nat} {Q0 : Nat → Nat} {μ0 : zMem} {i u ru mo a : Nat} (hT : TB T) (hW : WB T W) (hX : XT T μ0) (hm : m ≤ 4) (hpm : ∀ i, i < m → pm i < 8) (hF : xF W pm m μ0) (hf : fnd9 T W pm m st n Q0) (hn : n ≤ 6561) (hu : u < 9 ^ m) (ha : a < m) (K : Int32 → zMem → zRes) (s : Int32 × zMem) (hs : xK8 T W pm m st n Q0 μ0 i u ru mo a 0 s) :
    ∃ s', f1_mostWorks_L82 (zi u) (zi a) K zF s.1 (zi (a + 1)) s.2 = K s'.1 s'.2 ∧ xK8 T W pm m st n Q0 μ0 i u ru mo (a + 1) 0 s' := by
  have h9 := pow9 hm
  have conv : ∀ {a b a' b' : Nat} {s : Int32 × zMem}, xK8 T W pm m st n Q0 μ0 i u ru mo a b s → (∀ v, dP T W pm m u a' b' v → dP T W pm m u a b v) → (∀ v, ms T W pm m u v a' b' = ms T W pm m u v a b) → xK8 T W pm m st n Q0 μ0 i u ru mo a' b' s := by
    intro a b a' b' s h hd hms
    obtain ⟨r, Q, rc, wi, h1, h2, h3⟩ := h
    exact ⟨r, Q, rc, wi, h1, kI_eq h2 hd hms, h3⟩
  obtain ⟨s', e1, e2, -⟩ := zloopE (L := fun n b (s : Int32 × zMem) => f1_mostWorks_L82 (zi u) (zi a) K n s.1 (zi b) s.2) (N := m) (o := fun s => K s.1 s.2) (fun b s => xK8 T W pm m st n Q0 μ0 i u ru mo a b s ∧ a < b)
    (fun n' s hs => by
      obtain ⟨⟨r, Q, rc, wi, h1, h2, h3, h4, h5, h6, h7, h8, h10, h11⟩, -⟩ := hs
      show f1_mostWorks_L82 (zi u) (zi a) K (n' + 1) s.1 (zi m) s.2 = _
      rw [f1_mostWorks_L82, (gfr_xF h11 hF).1, if_pos (Int32.le_refl _)])
    (fun n' b s hb hs => by
      obtain ⟨x1, μ⟩ := s
      obtain ⟨⟨r, Q, rc, wi, h1, h2, h3, h4, h5, h6, h7, h8, h10, h11⟩, hab⟩ := hs
      dsimp only at h1 h8 h10 h11
      subst h1
      have z1 : zi b + (1 : Int32) = zi (b + 1) := zi_add b 1
      have zr0 : zi r + (0 : Int32) = zi r := zi_add r 0
      have zr1 : zi r + (1 : Int32) = zi (r + 1) := zi_add r 1
      have hF' := gfr_xF h11 hF
      have hcw := x_canWork hT hW (gfr_XT h11 hX) hm hpm hF' h10 ha hb
      have hle : ¬ zi m ≤ zi b := by rw [zi_le (by omega) (by omega)]; omega
      by_cases c : fC T W pm u a b = true
      · obtain ⟨k1, k2, k3, k4, k5, k6⟩ := kI_step (Q' := fup Q r (fN W pm m u a b)) (rc' := fup rc (fN W pm m u a b) (max (rc (fN W pm m u a b)) (rc u + 1))) (wi' := fup wi (fN W pm m u a b) (wi (fN W pm m u a b) - 1)) hf hm h2 h3 h4 (by omega) hab hb c
        have hlt : fN W pm m u a b < 6561 := Nat.lt_of_lt_of_le fN_lt h9
        have hwl : wi (fN W pm m u a b) < 1000000 := by
          have := h2.2.1 _ hlt
          have := tot_le (T := T) (W := W) (pm := pm) (n := n) (v := fN W pm m u a b) (Q0 := Q0) hm
          omega
        have hil : i < n := by omega
        obtain ⟨x, μ', q1, q2, q3, q4, q5⟩ := x_isReady (u := u) (v := fN W pm m u a b) h8 (by omega) hlt k2 hwl (fun v => by have := h2.2.2.2.2.2.2 v; omega) (by
          by_cases c1 : wi (fN W pm m u a b) = 1
          · have := k4 c1; left; omega
          · exact Or.inr c1) (by omega)
        have hune : fN W pm m u a b ≠ u := fun e => k5 ⟨i, h3, h4.trans e.symm⟩
        have ru' : fup rc (fN W pm m u a b) (max (rc (fN W pm m u a b)) (rc u + 1)) u = ru := by
          unfold fup
          rw [if_neg (fun e => hune e.symm)]; exact h5
        have hU' : xU m u μ' := by unfold xU; rw [q3]; exact h10
        have k6' := k6 (fun v => by
          unfold fup
          by_cases e : v = fN W pm m u a b
          · rw [if_pos e, if_pos e, e]
          · rw [if_neg e, if_neg e]) (fun v => by
          unfold fup
          by_cases e : v = fN W pm m u a b
          · rw [if_pos e, if_pos e, e]
          · rw [if_neg e, if_neg e])
        have hmo : ∀ (Q'' : Nat → Nat), (∀ j, j < r → Q'' j = Q j) → ∀ j, j < i → fup rc (fN W pm m u a b) (max (rc (fN W pm m u a b)) (rc u + 1)) (Q'' j) - 1 ≤ mo := fun Q'' hQ j hj => by
          rw [hQ j (by omega)]
          unfold fup
          rw [if_neg (fun e => k5 ⟨j, by omega, e⟩)]; exact h7 j hj
        have hq : f1_mostWorks_L82 (zi u) (zi a) K (n' + 1) (zi r) (zi b) μ = if x = 0 then f1_mostWorks_L82 (zi u) (zi a) K n' (zi r) (zi (b + 1)) μ' else f1_mostWorks_L82 (zi u) (zi a) K n' (zi (r + 1)) (zi (b + 1)) μ' := by
          rw [f1_mostWorks_L82, hF'.1, if_neg hle, hcw, bnd0_ok, zlet_e, zlet_e, c, if_neg (show ¬ zi (b01 true) = (0 : Int32) from by decide), x_stateBehind hW hm hF' h10 hu ha hb (by omega), bnd0_ok, q1, bnd0_ok, z1]
          by_cases cx : x = 0
          · rw [if_pos cx, if_pos cx]
            show zlet _ _ = _
            rw [zlet_e, zr0]
          · rw [if_neg cx, if_neg cx]
            show zlet _ _ = _
            rw [zlet_e, zr1]
        show ∃ s', f1_mostWorks_L82 (zi u) (zi a) K (n' + 1) (zi r) (zi b) μ = _ ∧ _
        rw [hq]
        rcases q5 with ⟨c1, rfl, c3⟩ | ⟨c1, rfl, c3⟩
        · rw [if_neg (show ¬ zi 1 = (0 : Int32) from by decide)]
          refine ⟨(zi (r + 1), μ'), rfl, ⟨r + 1, _, _, _, rfl, k6'.1 c1 (fun j => rfl), by omega, ?_, ru', h6, hmo _ (fun j hj => if_neg (by omega)), c3, hU', h11.trans q2⟩, by omega⟩
          show (if i = r then _ else _) = _
          rw [if_neg (by omega)]; exact h4
        · rw [if_pos (show zi 0 = (0 : Int32) from rfl)]
          exact ⟨(zi r, μ'), rfl, ⟨r, _, _, _, rfl, k6'.2 c1, h3, h4, ru', h6, hmo _ (fun j hj => rfl), c3, hU', h11.trans q2⟩, by omega⟩
      · have c' := (Bool.not_eq_true _).mp c
        refine ⟨(zi r, μ), ?_, conv ⟨r, Q, rc, wi, rfl, h2, h3, h4, h5, h6, h7, h8, h10, h11⟩ (fun v hv => ((dP_s hb hab).1 hv).elim id (fun q => absurd q.1 c)) (fun v => by rw [ms_s]; unfold ed; rw [if_neg (fun q => c q.2.1)]; rfl), by omega⟩
        show f1_mostWorks_L82 (zi u) (zi a) K (n' + 1) (zi r) (zi b) μ = _
        rw [f1_mostWorks_L82, hF'.1, if_neg hle, hcw, bnd0_ok, zlet_e, zlet_e, c', if_pos (show zi (b01 false) = (0 : Int32) from rfl)]
        show zlet _ _ = _
        rw [zlet_e, zr0, z1])
    (m - (a + 1)) (a + 1) s zF (by omega) (by unfold zF; omega) ⟨conv hs (fun v hv => dP_a1.1 hv) (fun v => ms_a1), by omega⟩
  exact ⟨s', e1, conv e2 (fun v hv => dP_row.2 hv) (fun v => ms_row.symm)⟩
theorem x_most67 {T W : zN2} {pm : Nat → Nat} {m st n : Nat} {Q0 : Nat → Nat} {μ0 : zMem} {i u ru mo : Nat} (hT : TB T) (hW : WB T W) (hX : XT T μ0) (hm : m ≤ 4) (hpm : ∀ i, i < m → pm i < 8) (hF : xF W pm m μ0) (hf : fnd9 T W pm m st n Q0) (hn : n ≤ 6561) (hu : u < 9 ^ m) (K : Int32 → zMem → zRes) (s : Int32 × zMem) (hs : xK8 T W pm m st n Q0 μ0 i u ru mo 0 0 s) :
    ∃ s', f1_mostWorks_L67 (zi u) K zF s.1 (zi 0) s.2 = K s'.1 s'.2 ∧ xK8 T W pm m st n Q0 μ0 i u ru mo m 0 s' := by
  obtain ⟨s', e1, e2⟩ := zloopE (L := fun n a (s : Int32 × zMem) => f1_mostWorks_L67 (zi u) K n s.1 (zi a) s.2) (N := m) (o := fun s => K s.1 s.2) (fun a s => xK8 T W pm m st n Q0 μ0 i u ru mo a 0 s)
    (fun n' s hs => by
      obtain ⟨r, Q, rc, wi, h1, h2, h3, h4, h5, h6, h7, h8, h10, h11⟩ := hs
      show f1_mostWorks_L67 (zi u) K (n' + 1) s.1 (zi m) s.2 = _
      rw [f1_mostWorks_L67, (gfr_xF h11 hF).1, if_pos (Int32.le_refl _)])
    (fun n' a s ha hs => by
      have z1 : zi a + (1 : Int32) = zi (a + 1) := zi_add a 1
      obtain ⟨s', k1, k2⟩ := x_most82 hT hW hX hm hpm hF hf hn hu ha (fun (x1_43 : Int32) (μ44 : zMem) => f1_mostWorks_L67 (zi u) K n' x1_43 (zi (a + 1)) μ44) s hs
      refine ⟨s', ?_, k2⟩
      obtain ⟨r, Q, rc, wi, h1, h2, h3, h4, h5, h6, h7, h8, h10, h11⟩ := hs
      show f1_mostWorks_L67 (zi u) K (n' + 1) s.1 (zi a) s.2 = _
      rw [f1_mostWorks_L67, (gfr_xF h11 hF).1, if_neg (show ¬ zi m ≤ zi a from by rw [zi_le (by omega) (by omega)]; omega), zlet_e, z1]
      exact k1)
    m 0 s zF (by omega) (by unfold zF; omega) hs
  exact ⟨s', e1, e2⟩
/-- where the taking stands between two states -/
def xK7 (T W : zN2) (pm : Nat → Nat) (m st n : Nat) (Q0 : Nat → Nat) (μ0 : zMem) (i : Nat) (s : Int32 × Int32 × zMem) : Prop :=
  ∃ r Q rc wi mo, s.1 = zi r ∧ s.2.1 = zi mo ∧ mo ≤ n + i ∧ kI T W pm m st n Q0 i 0 0 0 r Q rc wi ∧ i ≤ r ∧ (∀ v, rc v ≤ n + i) ∧ (∀ j, j < i → rc (Q j) - 1 ≤ mo) ∧ (∃ v, pth (fE T W pm m) st mo v) ∧ kM n r Q rc wi s.2.2 ∧ gfr μ0 s.2.2
theorem kI_end {T W : zN2} {pm : Nat → Nat} {m st n r mo : Nat} {Q0 Q rc wi : Nat → Nat} (hf : fnd9 T W pm m st n Q0) (h : kI T W pm m st n Q0 r 0 0 0 r Q rc wi) (hmo : ∀ j, j < r → rc (Q j) - 1 ≤ mo) (hp : ∃ v, pth (fE T W pm m) st mo v) : moC (fE T W pm m) st (if r = n then zi mo else zN1) := by
  obtain ⟨⟨h1, h1'⟩, h2, h3, h4, h5, h6, h7⟩ := h
  have hrn := fd_le hf h1 h1'
  have reach : ∀ L v, pth (fE T W pm m) st L v → inq Q0 n v = true := by
    intro L
    induction L with
    | zero => intro v hv; cases hv; exact inq_iff.2 hf.2.2.1
    | succ L ih =>
      rintro v ⟨c, hc, hE⟩
      obtain ⟨j, j1, j2⟩ := inq_iff.1 (ih c hc)
      exact hf.2.2.2 j j1 v (by rw [j2]; exact hE)
  by_cases c : r = n
  · rw [if_pos c]
    have all : ∀ v, inq Q0 n v = true → ∃ j, j < r ∧ Q j = v := fun v hv => by
      apply Classical.byContradiction
      intro hno
      have := fd_less hf h1 h1' hv hno
      omega
    obtain ⟨w, hw⟩ := hp
    refine Or.inr ⟨mo, w, rfl, hw, fun L' v' hp' => ?_⟩
    have grow : ∀ L v, pth (fE T W pm m) st L v → L + 1 ≤ rc v := by
      intro L
      induction L with
      | zero => intro v hv; cases hv; have := (h4 st (inq_iff.2 hf.2.2.1)).1; omega
      | succ L ih =>
        rintro v ⟨d, hd, hE⟩
        have k1 := ih d hd
        obtain ⟨j, j1, j2⟩ := all d (reach L d hd)
        have := h5 j j1 v (by rw [j2]; exact hE)
        rw [j2] at this
        omega
    obtain ⟨j, j1, j2⟩ := all v' (reach L' v' hp')
    have := hmo j j1
    have := grow L' v' hp'
    rw [j2] at *
    omega
  · rw [if_neg c]
    refine Or.inl ⟨rfl, fun k => ?_⟩
    have hex : ∃ v, inq Q0 n v = true ∧ ¬ ∃ j, j < r ∧ Q j = v := by
      apply Classical.byContradiction
      intro hno
      have hall : ∀ j, j < n → inq Q r (Q0 j) = true := fun j hj => by
        apply Classical.byContradiction
        intro hq
        exact hno ⟨Q0 j, inq_iff.2 ⟨j, hj, rfl⟩, fun q => hq (inq_iff.2 q)⟩
      have k1 := nsum_list (Q := Q) (f := fun _ => 1) (N := 6561) r h1 (fun j hj => by
        obtain ⟨k, k1, k2⟩ := inq_iff.1 (h1' j hj)
        rw [← k2]; exact (hf.2.1 k k1).1)
      have k2 := nsum_list (Q := Q0) (f := fun _ => 1) (N := 6561) n hf.1 (fun j hj => (hf.2.1 j hj).1)
      have k3 : nsum (fun s => if inq Q0 n s = true then 1 else 0) 6561 ≤ nsum (fun s => if inq Q r s = true then 1 else 0) 6561 := nsum_mono 6561 (fun s _ => by
        by_cases e : inq Q0 n s = true
        · obtain ⟨j, j1, j2⟩ := inq_iff.1 e
          rw [if_pos e, if_pos (by rw [← j2]; exact hall j j1)]
          exact Nat.le_refl _
        · rw [if_neg e]; exact Nat.zero_le _)
      rw [one] at k1 k2
      omega
    have pred : ∀ v, inq Q0 n v = true → (¬ ∃ j, j < r ∧ Q j = v) → ∃ s, inq Q0 n s = true ∧ (¬ ∃ j, j < r ∧ Q j = s) ∧ fE T W pm m s v := by
      intro v hv hno
      have hv6 : v < 6561 := by
        obtain ⟨k, k1, k2⟩ := inq_iff.1 hv
        rw [← k2]; exact (hf.2.1 k k1).1
      have hw : wi v ≠ 0 := fun q => hno ((h3 v hv).1 q)
      have k0 := h2 v hv6
      have k1 := nsum_list (Q := Q) (f := fun s => mu T W pm m s v) (N := 6561) r h1 (fun j hj => by
        obtain ⟨k, k1, k2⟩ := inq_iff.1 (h1' j hj)
        rw [← k2]; exact (hf.2.1 k k1).1)
      have k2 := nsum_list (Q := Q0) (f := fun s => mu T W pm m s v) (N := 6561) n hf.1 (fun j hj => (hf.2.1 j hj).1)
      have k3 : ms T W pm m 0 v 0 0 = 0 := rfl
      obtain ⟨s, s1, s2⟩ := nsum_ex (f := fun s => if inq Q r s = true then mu T W pm m s v else 0) (g := fun s => if inq Q0 n s = true then mu T W pm m s v else 0) 6561 (by
        rw [k1, k2] at k0
        omega)
      have e1 : inq Q0 n s = true := by
        apply Classical.byContradiction
        intro q
        rw [if_neg q] at s2
        omega
      have e2 : ¬ inq Q r s = true := fun q => by
        rw [if_pos q, if_pos e1] at s2
        omega
      rw [if_neg e2, if_pos e1] at s2
      exact ⟨s, e1, fun q => e2 (inq_iff.2 q), mu_E s2⟩
    have chain : ∀ k v, inq Q0 n v = true → (¬ ∃ j, j < r ∧ Q j = v) → ∃ w, inq Q0 n w = true ∧ pth (fE T W pm m) w k v := by
      intro k
      induction k with
      | zero => intro v hv _; exact ⟨v, hv, rfl⟩
      | succ k ih =>
        intro v hv hno
        obtain ⟨s, s1, s2, s3⟩ := pred v hv hno
        obtain ⟨w, w1, w2⟩ := ih s s1 s2
        exact ⟨w, w1, s, w2, s3⟩
    obtain ⟨v, hv, hno⟩ := hex
    obtain ⟨w, w1, w2⟩ := chain k v hv hno
    obtain ⟨j, j1, j2⟩ := inq_iff.1 w1
    obtain ⟨L, hL⟩ := (hf.2.1 j j1).2
    rw [j2] at hL
    have hp' := pth_add hL k v w2
    rw [Nat.add_comm] at hp'
    exact pth_pre L v hp'
theorem x_most24 {T W : zN2} {pm : Nat → Nat} {m st n : Nat} {Q0 : Nat → Nat} {μ0 : zMem} (hT : TB T) (hW : WB T W) (hX : XT T μ0) (hm : m ≤ 4) (hpm : ∀ i, i < m → pm i < 8) (hF : xF W pm m μ0) (hf : fnd9 T W pm m st n Q0) (hn : n ≤ 6561) (hst : st < 9 ^ m) (K : Int32 → Int32 → zMem → zRes) (s : Int32 × Int32 × zMem) (hs : xK7 T W pm m st n Q0 μ0 0 s) :
    ∃ r mo μ', f1_mostWorks_L24 K zF s.1 s.2.1 (zi 0) s.2.2 = K (zi r) (zi mo) μ' ∧ r ≤ n ∧ moC (fE T W pm m) st (if r = n then zi mo else zN1) ∧ μ' 69 9 = zi n ∧ gfr μ0 μ' := by
  have h9 := pow9 hm
  have fin : ∀ i s, xK7 T W pm m st n Q0 μ0 i s → (∀ r, s.1 = zi r → r ≤ 6561 → r ≤ i) → ∃ r mo μ', s = (zi r, zi mo, μ') ∧ r ≤ n ∧ moC (fE T W pm m) st (if r = n then zi mo else zN1) ∧ μ' 69 9 = zi n ∧ gfr μ0 μ' := by
    intro i s h hle
    obtain ⟨x1, x2, μ⟩ := s
    obtain ⟨r, Q, rc, wi, mo, h1, h2, h2', h3, h4, h5, h6, h7, h8, h10⟩ := h
    dsimp only at h1 h2 h8 h10
    have hrn := fd_le hf h3.1.1 h3.1.2
    have e : i = r := Nat.le_antisymm h4 (hle r h1 (by omega))
    subst e
    exact ⟨i, mo, μ, by rw [h1, h2], hrn, kI_end hf h3 h6 h7, h8.1, h10⟩
  have h := zloopQ (L := fun n' i (s : Int32 × Int32 × zMem) => f1_mostWorks_L24 K n' s.1 s.2.1 (zi i) s.2.2) (N := 6561)
    (fun res => ∃ r mo μ', res = K (zi r) (zi mo) μ' ∧ r ≤ n ∧ moC (fE T W pm m) st (if r = n then zi mo else zN1) ∧ μ' 69 9 = zi n ∧ gfr μ0 μ')
    (fun i s => xK7 T W pm m st n Q0 μ0 i s)
    (fun n' s hI => by
      obtain ⟨r, mo, μ', a1, a2⟩ := fin 6561 s hI (fun r _ h => h)
      subst a1
      refine ⟨r, mo, μ', ?_, a2⟩
      show f1_mostWorks_L24 K (n' + 1) (zi r) (zi mo) (zi 6561) μ' = _
      rw [f1_mostWorks_L24, if_pos (show (6561 : Int32) ≤ zi 6561 from Int32.le_refl _)]
      split <;> rfl)
    (fun n' i s hi hI => by
      have hI' := hI
      obtain ⟨x1, x2, μ⟩ := s
      obtain ⟨r, Q, rc, wi, mo, h1, h2, h2', h3, h4, h5, h6, h7, h8, h10⟩ := hI
      dsimp only at h1 h2 h8 h10
      subst h1 h2
      have hrn := fd_le hf h3.1.1 h3.1.2
      have z1 : zi i + (1 : Int32) = zi (i + 1) := zi_add i 1
      by_cases c : r ≤ i
      · left
        obtain ⟨r2, mo2, μ2, a1, a2⟩ := fin i _ hI' (fun r2 e h => by
          have := zi_inj (by omega) (by omega) e
          omega)
        refine ⟨r2, mo2, μ2, ?_, a2⟩
        injection a1 with e1 e2
        injection e2 with e2 e3
        show f1_mostWorks_L24 K (n' + 1) (zi r) (zi mo) (zi i) μ = _
        rw [f1_mostWorks_L24, if_pos (by rw [zi_le (by omega) (by omega)]; exact c), e1, e2, e3]
      · right
        have hir : i < r := by omega
        have hqF := h3.1.2 i hir
        obtain ⟨j, j1, j2⟩ := inq_iff.1 hqF
        obtain ⟨L, hL⟩ := (hf.2.1 j j1).2
        rw [j2] at hL
        have hu : Q i < 9 ^ m := pth_lt9 hst _ _ hL
        obtain ⟨hr0, hrp⟩ := h3.2.2.2.1 _ hqF
        have hrl := h5 (Q i)
        obtain ⟨μ2, b1, b2, b3⟩ := x_unfold (W := W) (pm := pm) hm (gfr_xF h10 hF) (show Q i < 6561 by omega)
        have g2 : gfr μ μ2 := gfr.big b3 (fun k hk => by omega)
        have hd : ∀ u v, ¬ dP T W pm m u 0 0 v := fun u v q => by
          obtain ⟨a', b', q1, -⟩ := q
          omega
        have hs8 : xK8 T W pm m st n Q0 μ0 i (Q i) (rc (Q i)) mo 0 0 (zi r, μ2) := by
          obtain ⟨p1, p2, p3, p4, p5, p6, p7⟩ := h3
          refine ⟨r, Q, rc, wi, rfl, ⟨p1, p2, p3, p4, p5, fun v hv => absurd hv (hd _ v), p7⟩, hir, rfl, rfl, hrl, h6, ⟨?_, fun j hj => ?_, fun v hv => ?_⟩, b2, h10.trans g2⟩
          · show μ2 69 9 = _
            rw [b3 69 (by decide)]; exact h8.1
          · show μ2 75 j = _
            rw [b3 75 (by decide)]; exact h8.2.1 j hj
          · show μ2 73 v = _ ∧ μ2 74 v = _
            rw [b3 73 (by decide), b3 74 (by decide)]; exact h8.2.2 v hv
        obtain ⟨⟨y1, μ3⟩, c1, r3, Q3, rc3, wi3, d1, d2, d3, d4, d5, d6, d7, d8, d9, d10⟩ := x_most67 hT hW hX hm hpm hF hf hn hu (fun (x1_45 : Int32) (μ46 : zMem) => f1_mostWorks_L24 K n' x1_45 (zi (max mo (rc (Q i) - 1))) (zi (i + 1)) μ46) (zi r, μ2) hs8
        dsimp only at c1 d1 d8 d9 d10
        subst d1
        refine ⟨(zi r3, zi (max mo (rc (Q i) - 1)), μ3), ?_, r3, Q3, rc3, wi3, max mo (rc (Q i) - 1), rfl, rfl, by omega, ?_, by omega, ?_, fun j hj => ?_, ?_, d8, d10⟩
        · show f1_mostWorks_L24 K (n' + 1) (zi r) (zi mo) (zi i) μ = _
          rw [f1_mostWorks_L24, if_neg (show ¬ zi r ≤ zi i from by rw [zi_le (by omega) (by omega)]; omega), if_neg (show ¬ (6561 : Int32) ≤ zi i from by rw [show (6561 : Int32) = zi 6561 from rfl, zi_le (by omega) (by omega)]; omega), zin_i (by omega) (by omega), zlet_e, zi_cl (by omega), h8.2.1 i hir, zin_i (show Q i < 6561 by omega) (by omega), zlet_e, zi_cl (by omega), (h8.2.2 (Q i) (by omega)).1, show zi (rc (Q i)) - (1 : Int32) = zi (rc (Q i) - 1) from zi_sub (b := 1) (by omega), zmax_i (by omega) (by omega), b1, bnd0_ok, z1]
          exact c1
        · obtain ⟨p1, p2, p3, p4, p5, p6, p7⟩ := d2
          refine ⟨p1, fun v hv => ?_, p3, p4, fun j hj v hE => ?_, fun v hv => absurd hv (hd _ v), fun v => by have := p7 v; omega⟩
          · have := p2 v hv
            show wi3 v + (nsum (fun j => mu T W pm m (Q3 j) v) i + mu T W pm m (Q3 i) v) + 0 = _
            rw [d4]
            have e : ms T W pm m (Q i) v m 0 = mu T W pm m (Q i) v := rfl
            omega
          · by_cases ej : j = i
            · rw [ej, d4] at hE ⊢
              exact p6 v (dP_all.2 hE)
            · exact p5 j (by omega) v hE
        · intro v
          have := d2.2.2.2.2.2.2 v
          omega
        · by_cases ej : j = i
          · rw [ej, d4, d5]; exact Nat.le_max_right _ _
          · exact Nat.le_trans (d7 j (by omega)) (Nat.le_max_left _ _)
        · by_cases cm : mo ≤ rc (Q i) - 1
          · rw [Nat.max_eq_right cm]; exact ⟨Q i, hrp⟩
          · rw [Nat.max_eq_left (by omega)]; exact h7)
    6561 0 s zF (by omega) (by unfold zF; omega) hs
  exact h
theorem x_mostWorks {T W : zN2} {pm : Nat → Nat} {m st n : Nat} {Q0 rc wi : Nat → Nat} {μ : zMem} (hT : TB T) (hW : WB T W) (hX : XT T μ) (hm : m ≤ 4) (hpm : ∀ i, i < m → pm i < 8) (hF : xF W pm m μ) (hst : st < 9 ^ m) (hb : BF (fE T W pm m) st n n Q0 rc (fun _ => False)) (hr : ∀ v, rc v ≤ n) (hw : ∀ v, v < 6561 → wi v = nsum (fun j => mu T W pm m (Q0 j) v) n) (hB : xBq n Q0 rc wi μ) :
    ∃ x μ', f1_mostWorks μ = some (0, x, μ') ∧ moC (fE T W pm m) st x ∧ gfr μ μ' := by
  have h9 := pow9 hm
  have hn := (BF_le hb).1
  have hn0 := hb.1.1
  have hQ0 := hb.1.2.2.1
  have hf : fnd9 T W pm m st n Q0 := ⟨hb.1.2.2.2, fun j hj => ⟨(hb.2.1 j hj).1, _, (hb.2.1 j hj).2.2⟩, ⟨0, hn0, hQ0⟩, fun j hj v hE => by
    obtain ⟨k, k1, k2⟩ := hb.2.2.1 v (hb.2.2.2.2.2.1 j hj v hE).1
    exact inq_iff.2 ⟨k, k1, k2⟩⟩
  have hwst : wi st < 1000000 := by
    have := hw st (by omega)
    have := tot_le (T := T) (W := W) (pm := pm) (n := n) (v := st) (Q0 := Q0) hm
    omega
  have hI : ∀ r, (wi st = 0 ∧ r = 1) ∨ (wi st ≠ 0 ∧ r = 0) → xK7 T W pm m st n Q0 μ 0 (zi r, zi 0, μ) := by
    intro r hr'
    have hr1 : r ≤ 1 := by omega
    refine ⟨r, Q0, rc, wi, 0, rfl, rfl, by omega, ⟨⟨fun j j' h1 h2 _ => by omega, fun j hj => ?_⟩, fun v hv => ?_, fun v hv => ?_, fun v hv => ?_, fun j hj => absurd hj (by omega), fun v hv => ?_, fun v => by have := hr v; omega⟩, Nat.zero_le _, fun v => by have := hr v; omega, fun j hj => absurd hj (by omega), ⟨st, rfl⟩, ⟨hB.1, fun j hj => hB.2.1 j (by omega), hB.2.2⟩, gfr.refl⟩
    · have : j = 0 := by omega
      subst this
      exact inq_iff.2 ⟨0, hn0, rfl⟩
    · show wi v + 0 + 0 = _
      rw [hw v hv]; rfl
    · by_cases e : v = st
      · subst e
        constructor
        · intro q
          exact ⟨0, by omega, hQ0⟩
        · rintro ⟨j, j1, -⟩
          omega
      · obtain ⟨j, j1, j2⟩ := inq_iff.1 hv
        have hv6 : v < 6561 := by rw [← j2]; exact (hb.2.1 j j1).1
        constructor
        · intro q
          exfalso
          obtain ⟨p1, p2⟩ := (hb.2.1 j j1).2
          rw [j2] at p1 p2
          cases hL : rc v - 1 with
          | zero => rw [hL] at p2; exact e (by cases p2; rfl)
          | succ L =>
            rw [hL] at p2
            obtain ⟨d, d1, d2⟩ := p2
            obtain ⟨k, k1, k2⟩ := hb.2.2.1 d (BF_all hb d1)
            have t1 := nsum_term (f := fun j => mu T W pm m (Q0 j) v) (u := k) n k1
            have t2 := E_mu d2
            rw [k2] at t1
            have := hw v hv6
            omega
        · rintro ⟨k, k1, k2⟩
          have : k = 0 := by omega
          subst this
          exact absurd (k2.symm.trans hQ0) e
    · obtain ⟨j, j1, j2⟩ := inq_iff.1 hv
      rw [← j2]; exact (hb.2.1 j j1).2
    · obtain ⟨a', b', q1, -⟩ := hv
      omega
  have hz0 : ∀ A, zin (0 : Int32) 6561 A = A := fun A => zin_i (i := 0) (by decide) (by decide)
  have n0 : (0 : Int32).toNatClampNeg = 0 := by decide
  have tail : ∀ r, (wi st = 0 ∧ r = 1) ∨ (wi st ≠ 0 ∧ r = 0) → ∃ x μ', f1_mostWorks_L24 (fun (x1_47 : Int32) (x2_48 : Int32) (μ49 : zMem) => (fun (x1_4 : Int32) (x2_5 : Int32) (μ6 : zMem) => zlet (fun (s7 : Int32) => some (0, s7, μ6)) (fun j8 => if x1_4 = (μ6 69 9) then j8 x2_5 else j8 (-1 : Int32))) x1_47 x2_48 μ49) zF (zi r) (0 : Int32) (0 : Int32) μ = some (0, x, μ') ∧ moC (fE T W pm m) st x ∧ gfr μ μ' := by
    intro r hr'
    obtain ⟨r', mo, μ', a1, a2, a3, a4, a5⟩ := x_most24 hT hW hX hm hpm hF hf hn hst (fun (x1_47 : Int32) (x2_48 : Int32) (μ49 : zMem) => (fun (x1_4 : Int32) (x2_5 : Int32) (μ6 : zMem) => zlet (fun (s7 : Int32) => some (0, s7, μ6)) (fun j8 => if x1_4 = (μ6 69 9) then j8 x2_5 else j8 (-1 : Int32))) x1_47 x2_48 μ49) (zi r, zi 0, μ) (hI r hr')
    refine ⟨_, μ', a1.trans ?_, a3, a5⟩
    show zlet _ _ = _
    rw [zlet_e, a4]
    by_cases c : r' = n
    · rw [if_pos (by rw [c]), if_pos c]
    · rw [if_neg (by rw [zi_eq (by omega) (by omega)]; exact c), if_neg c]; rfl
  unfold f1_mostWorks
  rw [hz0, n0, hB.2.1 0 hn0, hQ0, zin_i (show st < 6561 by omega) (by omega), zlet_e, zi_cl (by omega), (hB.2.2 st (by omega)).2]
  by_cases c : wi st = 0
  · rw [if_pos (show zi (wi st) = (0 : Int32) from by rw [c]; rfl)]
    exact tail 1 (Or.inl ⟨c, rfl⟩)
  · rw [if_neg (show ¬ zi (wi st) = (0 : Int32) from by rw [show (0 : Int32) = zi 0 from rfl, zi_eq (by omega) (by omega)]; exact c)]
    exact tail 0 (Or.inr ⟨c, rfl⟩)
