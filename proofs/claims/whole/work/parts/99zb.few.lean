/-! THE PURE SIDE, 67: FEW in the class, AT MOST -/
theorem nsum_len {f : Nat → Nat} {k : Nat} : ∀ j, nsum f k ≤ nsum f (k + j)
  | 0 => Nat.le_refl _
  | j + 1 => Nat.le_trans (nsum_len j) (Nat.le_add_right _ _)
theorem ms_mu {T W : zN2} {pm : Nat → Nat} {m u v a b : Nat} (ha : a < m) (hb : b ≤ m) : ms T W pm m u v a b ≤ mu T W pm m u v := by
  have h1 : ms T W pm m u v a b ≤ ms T W pm m u v a m := by
    unfold ms
    have := nsum_len (f := ed T W pm m u v a) (k := b) (m - b)
    rw [show b + (m - b) = m by omega] at this
    omega
  have h2 : ms T W pm m u v (a + 1) 0 ≤ mu T W pm m u v := by
    have := nsum_len (f := fun a' => nsum (ed T W pm m u v a') m) (k := a + 1) (m - (a + 1))
    rw [show a + 1 + (m - (a + 1)) = m by omega] at this
    exact this
  exact Nat.le_trans h1 h2
theorem mu_E {T W : zN2} {pm : Nat → Nat} {m u v : Nat} (h : 0 < mu T W pm m u v) : fE T W pm m u v := by
  obtain ⟨a, ha, h1⟩ := nsum_pos m h
  obtain ⟨b, hb, h2⟩ := nsum_pos m h1
  unfold ed at h2
  by_cases c : a < b ∧ fC T W pm u a b = true ∧ fN W pm m u a b = v
  · exact ⟨a, b, c.1, hb, c.2⟩
  · rw [if_neg c] at h2; omega
theorem E_mu {T W : zN2} {pm : Nat → Nat} {m u v : Nat} (h : fE T W pm m u v) : 0 < mu T W pm m u v := by
  obtain ⟨a, b, h1, h2, h3⟩ := h
  have k1 : ed T W pm m u v a b = 1 := if_pos ⟨h1, h3⟩
  have k2 := nsum_term (f := ed T W pm m u v a) (u := b) m h2
  have k3 := nsum_term (f := fun a' => nsum (ed T W pm m u v a') m) (u := a) m (by omega)
  unfold mu
  omega
/-- the states found: n of them, Q0's -/
def fnd9 (T W : zN2) (pm : Nat → Nat) (m st n : Nat) (Q0 : Nat → Nat) : Prop :=
  inj Q0 n ∧ (∀ j, j < n → Q0 j < 6561 ∧ ∃ L, pth (fE T W pm m) st L (Q0 j)) ∧ (∃ j, j < n ∧ Q0 j = st) ∧ ∀ j, j < n → ∀ v, fE T W pm m (Q0 j) v → inq Q0 n v = true
theorem one (n : Nat) : nsum (fun _ => 1) n = n := by
  induction n with
  | zero => rfl
  | succ n ih => show nsum (fun _ => 1) n + 1 = n + 1; rw [ih]
theorem fd_sum {T W : zN2} {pm : Nat → Nat} {m st n : Nat} {Q0 Q : Nat → Nat} (h : fnd9 T W pm m st n Q0) {r : Nat} (hi : inj Q r) (hQ : ∀ j, j < r → inq Q0 n (Q j) = true) (f : Nat → Nat) : nsum (fun j => f (Q j)) r ≤ nsum (fun j => f (Q0 j)) n := by
  have hlt : ∀ j, j < r → Q j < 6561 := fun j hj => by
    obtain ⟨k, k1, k2⟩ := inq_iff.1 (hQ j hj)
    rw [← k2]; exact (h.2.1 k k1).1
  rw [nsum_list (N := 6561) r hi hlt, nsum_list (N := 6561) n h.1 (fun j hj => (h.2.1 j hj).1)]
  apply nsum_mono
  intro s _
  by_cases c : inq Q r s = true
  · obtain ⟨j, k1, k2⟩ := inq_iff.1 c
    rw [if_pos c, if_pos (by rw [← k2]; exact hQ j k1)]
    exact Nat.le_refl _
  · rw [if_neg c]; exact Nat.zero_le _
/-- one found that doesn't stand in Q -/
theorem fd_less {T W : zN2} {pm : Nat → Nat} {m st n : Nat} {Q0 Q : Nat → Nat} (h : fnd9 T W pm m st n Q0) {r : Nat} (hi : inj Q r) (hQ : ∀ j, j < r → inq Q0 n (Q j) = true) {v : Nat} (hv : inq Q0 n v = true) (hno : ¬ ∃ j, j < r ∧ Q j = v) : r < n := by
  have := fd_sum (Q := fun j => if j = r then v else Q j) (r := r + 1) h (fun j j' h1 h2 e => by
    dsimp only at e
    by_cases c1 : j = r
    · by_cases c2 : j' = r
      · omega
      · rw [if_pos c1, if_neg c2] at e
        exact absurd ⟨j', by omega, e.symm⟩ hno
    · by_cases c2 : j' = r
      · rw [if_neg c1, if_pos c2] at e
        exact absurd ⟨j, by omega, e⟩ hno
      · rw [if_neg c1, if_neg c2] at e
        exact hi j j' (by omega) (by omega) e) (fun j hj => by
    by_cases c1 : j = r
    · rw [if_pos c1]; exact hv
    · rw [if_neg c1]; exact hQ j (by omega)) (fun _ => 1)
  rw [one, one] at this
  omega
theorem fd_le {T W : zN2} {pm : Nat → Nat} {m st n : Nat} {Q0 Q : Nat → Nat} (h : fnd9 T W pm m st n Q0) {r : Nat} (hi : inj Q r) (hQ : ∀ j, j < r → inq Q0 n (Q j) = true) : r ≤ n := by
  have := fd_sum h hi hQ (fun _ => 1)
  rw [one, one] at this
  exact this
/-- where the taking stands -/
def kI (T W : zN2) (pm : Nat → Nat) (m st n : Nat) (Q0 : Nat → Nat) (i u a b r : Nat) (Q rc wi : Nat → Nat) : Prop :=
  (inj Q r ∧ ∀ j, j < r → inq Q0 n (Q j) = true) ∧ (∀ v, v < 6561 → wi v + nsum (fun j => mu T W pm m (Q j) v) i + ms T W pm m u v a b = nsum (fun j => mu T W pm m (Q0 j) v) n)
  ∧ (∀ v, inq Q0 n v = true → (wi v = 0 ↔ ∃ j, j < r ∧ Q j = v)) ∧ (∀ v, inq Q0 n v = true → 0 < rc v ∧ pth (fE T W pm m) st (rc v - 1) v)
  ∧ (∀ j, j < i → ∀ v, fE T W pm m (Q j) v → rc (Q j) + 1 ≤ rc v) ∧ (∀ v, dP T W pm m u a b v → rc u + 1 ≤ rc v) ∧ (∀ v, rc v ≤ n + i + 1)
def kM (n r : Nat) (Q rc wi : Nat → Nat) (μ : zMem) : Prop := μ 69 9 = zi n ∧ (∀ j, j < r → μ 75 j = zi (Q j)) ∧ ∀ v, v < 6561 → μ 73 v = zi (rc v) ∧ μ 74 v = zi (wi v)
theorem kI_eq {T W : zN2} {pm : Nat → Nat} {m st n : Nat} {Q0 : Nat → Nat} {i u a b a' b' r : Nat} {Q rc wi : Nat → Nat} (h : kI T W pm m st n Q0 i u a b r Q rc wi) (hd : ∀ v, dP T W pm m u a' b' v → dP T W pm m u a b v) (hm : ∀ v, ms T W pm m u v a' b' = ms T W pm m u v a b) : kI T W pm m st n Q0 i u a' b' r Q rc wi := by
  obtain ⟨h1, h2, h3, h4, h5, h6, h7⟩ := h
  exact ⟨h1, fun v hv => by rw [hm]; exact h2 v hv, h3, h4, h5, fun v hv => h6 v (hd v hv), h7⟩
/-- one way more is taken -/
theorem kI_step {T W : zN2} {pm : Nat → Nat} {m st n : Nat} {Q0 : Nat → Nat} {i u a b r : Nat} {Q rc wi Q' rc' wi' : Nat → Nat} (hf : fnd9 T W pm m st n Q0) (hm : m ≤ 4) (h : kI T W pm m st n Q0 i u a b r Q rc wi) (hi : i < r) (hu : Q i = u) (hru : rc u ≤ n + i) (hab : a < b) (hb : b < m) (hc : fC T W pm u a b = true) :
    inq Q0 n (fN W pm m u a b) = true ∧ 1 ≤ wi (fN W pm m u a b) ∧ r ≤ n ∧ (wi (fN W pm m u a b) = 1 → r < n) ∧ (¬ ∃ j, j < r ∧ Q j = fN W pm m u a b) ∧
    ((∀ v, rc' v = if v = fN W pm m u a b then max (rc v) (rc u + 1) else rc v) → (∀ v, wi' v = if v = fN W pm m u a b then wi v - 1 else wi v) → (wi (fN W pm m u a b) = 1 → (∀ j, Q' j = if j = r then fN W pm m u a b else Q j) → kI T W pm m st n Q0 i u a (b + 1) (r + 1) Q' rc' wi') ∧ (wi (fN W pm m u a b) ≠ 1 → kI T W pm m st n Q0 i u a (b + 1) r Q rc' wi')) := by
  obtain ⟨⟨h1, h1'⟩, h2, h3, h4, h5, h6, h7⟩ := h
  have hE : fE T W pm m u (fN W pm m u a b) := ⟨a, b, hab, hb, hc, rfl⟩
  have huF : inq Q0 n u = true := hu ▸ h1' i hi
  obtain ⟨ju, ju1, ju2⟩ := inq_iff.1 huF
  have hvF : inq Q0 n (fN W pm m u a b) = true := hf.2.2.2 ju ju1 _ (by rw [ju2]; exact hE)
  have hv6 : fN W pm m u a b < 6561 := by
    obtain ⟨k, k1, k2⟩ := inq_iff.1 hvF
    rw [← k2]; exact (hf.2.1 k k1).1
  have hed : ed T W pm m u (fN W pm m u a b) a b = 1 := if_pos ⟨hab, hc, rfl⟩
  have hle : ms T W pm m u (fN W pm m u a b) a b + 1 ≤ mu T W pm m u (fN W pm m u a b) := by
    have := ms_mu (T := T) (W := W) (pm := pm) (m := m) (u := u) (v := fN W pm m u a b) (a := a) (b := b + 1) (by omega) (by omega)
    rw [ms_s, hed] at this
    exact this
  have hsum : nsum (fun j => mu T W pm m (Q j) (fN W pm m u a b)) i + mu T W pm m u (fN W pm m u a b) ≤ nsum (fun j => mu T W pm m (Q0 j) (fN W pm m u a b)) n := by
    have := fd_sum hf (Q := Q) (r := i + 1) (fun j j' q1 q2 e => h1 j j' (by omega) (by omega) e) (fun j hj => h1' j (by omega)) (fun s => mu T W pm m s (fN W pm m u a b))
    rw [show nsum (fun j => mu T W pm m (Q j) (fN W pm m u a b)) (i + 1) = nsum (fun j => mu T W pm m (Q j) (fN W pm m u a b)) i + mu T W pm m (Q i) (fN W pm m u a b) from rfl, hu] at this
    exact this
  have h2v := h2 _ hv6
  have hw1 : 1 ≤ wi (fN W pm m u a b) := by omega
  have hno : ¬ ∃ j, j < r ∧ Q j = fN W pm m u a b := fun q => by
    have := (h3 _ hvF).2 q
    omega
  have hne : ∀ j, j < r → Q j ≠ fN W pm m u a b := fun j hj e => hno ⟨j, hj, e⟩
  have hune : u ≠ fN W pm m u a b := fun e => hne i hi (hu.trans e)
  refine ⟨hvF, hw1, fd_le hf h1 h1', fun _ => fd_less hf h1 h1' hvF hno, hno, fun hr hw => ?_⟩
  have rold : ∀ j, j < r → rc' (Q j) = rc (Q j) := fun j hj => by rw [hr, if_neg (hne j hj)]
  have rge : ∀ v, rc v ≤ rc' v := fun v => by
    rw [hr]
    split
    · exact Nat.le_max_left _ _
    · exact Nat.le_refl _
  have k2 : ∀ (Q'' : Nat → Nat), (∀ j, j < i → Q'' j = Q j) → ∀ v, v < 6561 → wi' v + nsum (fun j => mu T W pm m (Q'' j) v) i + ms T W pm m u v a (b + 1) = nsum (fun j => mu T W pm m (Q0 j) v) n := fun Q'' hQ v hv => by
    rw [nsum_congr i (fun j hj => by rw [hQ j hj]), ms_s, hw]
    have := h2 v hv
    by_cases e : v = fN W pm m u a b
    · rw [if_pos e, e, hed]
      rw [e] at this
      omega
    · rw [if_neg e, show ed T W pm m u v a b = 0 from if_neg (fun q => e q.2.2.symm)]; omega
  have k4 : ∀ v, inq Q0 n v = true → 0 < rc' v ∧ pth (fE T W pm m) st (rc' v - 1) v := fun v hv => by
    rw [hr]
    by_cases e : v = fN W pm m u a b
    · rw [if_pos e]
      by_cases c : rc u + 1 ≤ rc v
      · rw [Nat.max_eq_left c]; exact h4 v hv
      · rw [Nat.max_eq_right (by omega)]
        have hup := h4 u huF
        refine ⟨by omega, ?_⟩
        rw [show rc u + 1 - 1 = (rc u - 1) + 1 by omega]
        exact ⟨u, hup.2, by rw [e]; exact hE⟩
    · rw [if_neg e]; exact h4 v hv
  have ru' : rc' u = rc u := by rw [hr, if_neg hune]
  have k6 : ∀ v, dP T W pm m u a (b + 1) v → rc' u + 1 ≤ rc' v := fun v hv => by
    rw [ru']
    rcases (dP_s hb hab).1 hv with q | q
    · exact Nat.le_trans (h6 v q) (rge v)
    · rw [hr, if_pos q.2.symm]; exact Nat.le_max_right _ _
  have k7 : ∀ v, rc' v ≤ n + i + 1 := fun v => by
    rw [hr]
    have := h7 v
    split
    · omega
    · exact this
  constructor
  · intro hone hQ
    have q1 : ∀ j, j < r → Q' j = Q j := fun j hj => by rw [hQ, if_neg (by omega)]
    have qr : Q' r = fN W pm m u a b := by rw [hQ, if_pos rfl]
    refine ⟨⟨fun j j' hj hj' e => ?_, fun j hj => ?_⟩, k2 Q' (fun j hj => q1 j (by omega)), fun v hv => ?_, k4, fun j hj v hE' => ?_, k6, k7⟩
    · by_cases c1 : j = r
      · by_cases c2 : j' = r
        · omega
        · rw [c1, qr, q1 j' (by omega)] at e
          exact absurd e.symm (hne j' (by omega))
      · by_cases c2 : j' = r
        · rw [c2, qr, q1 j (by omega)] at e
          exact absurd e (hne j (by omega))
        · rw [q1 j (by omega), q1 j' (by omega)] at e
          exact h1 j j' (by omega) (by omega) e
    · by_cases c1 : j = r
      · rw [c1, qr]; exact hvF
      · rw [q1 j (by omega)]; exact h1' j (by omega)
    · rw [hw]
      by_cases e : v = fN W pm m u a b
      · rw [if_pos e, e, hone]
        exact ⟨fun _ => ⟨r, by omega, qr⟩, fun _ => rfl⟩
      · rw [if_neg e, h3 v hv]
        constructor
        · rintro ⟨j, j1, j2⟩
          exact ⟨j, by omega, by rw [q1 j j1]; exact j2⟩
        · rintro ⟨j, j1, j2⟩
          by_cases c : j = r
          · rw [c, qr] at j2; exact absurd j2.symm e
          · exact ⟨j, by omega, by rw [← q1 j (by omega)]; exact j2⟩
    · rw [q1 j (by omega)] at hE' ⊢
      rw [rold j (by omega)]
      exact Nat.le_trans (h5 j hj v hE') (rge v)
  · intro hnone
    refine ⟨⟨h1, h1'⟩, k2 Q (fun _ _ => rfl), fun v hv => ?_, k4, fun j hj v hE' => ?_, k6, k7⟩
    · rw [hw]
      by_cases e : v = fN W pm m u a b
      · rw [if_pos e, e]
        exact ⟨fun q => by omega, fun q => absurd q hno⟩
      · rw [if_neg e]; exact h3 v hv
    · rw [rold j (by omega)]
      exact Nat.le_trans (h5 j hj v hE') (rge v)
theorem x_isReady {u v n r : Nat} {Q rc wi : Nat → Nat} {μ : zMem} (hM : kM n r Q rc wi μ) (hu : u < 6561) (hv : v < 6561) (hw : 1 ≤ wi v) (hw' : wi v < 1000000) (hrc : ∀ v, rc v < 1000000) (hr : r < 6561 ∨ wi v ≠ 1) (hr6 : r ≤ 6561) :
    ∃ x μ', f1_isReadyBehind (zi u) (zi v) (zi r) μ = some (0, x, μ') ∧ gfr μ μ' ∧ μ' 72 = μ 72 ∧ μ' 69 10 = μ 69 10 ∧ ((wi v = 1 ∧ x = zi 1 ∧ kM n (r + 1) (fup Q r v) (fup rc v (max (rc v) (rc u + 1))) (fup wi v (wi v - 1)) μ') ∨ (wi v ≠ 1 ∧ x = zi 0 ∧ kM n r Q (fup rc v (max (rc v) (rc u + 1))) (fup wi v (wi v - 1)) μ')) := by
  obtain ⟨b1, b2, b3⟩ := hM
  have r1 := hrc u
  have r2 := hrc v
  have hzv : ∀ A, zin (zi v) 6561 A = A := fun A => zin_i hv (by omega)
  have e72 : ∀ w, w < 6561 → zset μ 73 v (zi (max (rc v) (rc u + 1))) 73 w = zi (fup rc v (max (rc v) (rc u + 1)) w) := fun w hw => by
    unfold fup
    by_cases e : w = v
    · rw [e, zset_eq, if_pos rfl]
    · rw [zset_nj e, if_neg e]; exact (b3 w hw).1
  have e73 : ∀ w, w < 6561 → zset (zset μ 73 v (zi (max (rc v) (rc u + 1)))) 74 v (zi (wi v - 1)) 74 w = zi (fup wi v (wi v - 1) w) := fun w hw => by
    unfold fup
    by_cases e : w = v
    · rw [e, zset_eq, if_pos rfl]
    · rw [zset_nj e, if_neg e, zset_nk (by decide)]; exact (b3 w hw).2
  unfold f1_isReadyBehind
  rw [hzv, zin_i hu (by omega), hzv, zlet_e, zi_cl (n := v) (by omega), zi_cl (n := u) (by omega), (b3 v hv).1, (b3 u hu).1, show zi (rc u) + (1 : Int32) = zi (rc u + 1) from zi_add _ 1, zmax_i (by omega) (by omega), hzv, hzv, zlet_e, zset_nk (by decide), (b3 v hv).2, show zi (wi v) - (1 : Int32) = zi (wi v - 1) from zi_sub (b := 1) hw, hzv, zlet_e, zset_eq]
  by_cases c : wi v = 1
  · have hr' : r < 6561 := hr.resolve_right (fun q => q c)
    rw [if_pos (show zi (wi v - 1) = (0 : Int32) from by rw [c]; rfl), if_pos (show zi r < (6561 : Int32) from by rw [show (6561 : Int32) = zi 6561 from rfl, zi_lt (by omega) (by omega)]; exact hr'), zin_i hr' (by omega), zlet_e, zi_cl (n := r) (by omega)]
    refine ⟨_, _, rfl, gfr.big (S := fun k => 72 ≤ k) (((zfr.refl.set (show 72 ≤ 73 by decide)).set (show 72 ≤ 74 by decide)).set (show 72 ≤ 75 by decide)) (fun k hk => hk), ?_, ?_, Or.inl ⟨c, rfl, ?_, fun j hj => ?_, fun w hw => ⟨?_, ?_⟩⟩⟩
    · rw [zset_nk (by decide), zset_nk (by decide), zset_nk (by decide)]
    · rw [zset_nk (by decide), zset_nk (by decide), zset_nk (by decide)]
    · rw [zset_nk (by decide), zset_nk (by decide), zset_nk (by decide)]; exact b1
    · unfold fup
      by_cases e : j = r
      · rw [e, zset_eq, if_pos rfl]
      · rw [zset_nj e, if_neg e, zset_nk (by decide), zset_nk (by decide)]; exact b2 j (by omega)
    · rw [zset_nk (by decide), zset_nk (by decide)]; exact e72 w hw
    · rw [zset_nk (by decide)]; exact e73 w hw
  · rw [if_neg (show ¬ zi (wi v - 1) = (0 : Int32) from by rw [show (0 : Int32) = zi 0 from rfl, zi_eq (by omega) (by omega)]; omega)]
    refine ⟨_, _, rfl, gfr.big (S := fun k => 72 ≤ k) ((zfr.refl.set (show 72 ≤ 73 by decide)).set (show 72 ≤ 74 by decide)) (fun k hk => hk), ?_, ?_, Or.inr ⟨c, rfl, ?_, fun j hj => ?_, fun w hw => ⟨?_, ?_⟩⟩⟩
    · rw [zset_nk (by decide), zset_nk (by decide)]
    · rw [zset_nk (by decide), zset_nk (by decide)]
    · rw [zset_nk (by decide), zset_nk (by decide)]; exact b1
    · rw [zset_nk (by decide), zset_nk (by decide)]; exact b2 j hj
    · rw [zset_nk (by decide)]; exact e72 w hw
    · exact e73 w hw
