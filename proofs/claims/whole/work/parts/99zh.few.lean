/-! THE PURE SIDE, 73: FEW in the reference: how deep AT MOST goes -/
theorem nsum_slt {f g : Nat → Nat} {u : Nat} : ∀ N, u < N → (∀ i, i < N → f i ≤ g i) → f u < g u → nsum f N < nsum g N
  | 0, h, _, _ => absurd h (by omega)
  | N + 1, h, hle, hlt => by
    show nsum f N + f N < nsum g N + g N
    by_cases e : u = N
    · have := nsum_mono N (fun i hi => hle i (by omega))
      rw [← e] at *
      omega
    · have := nsum_slt N (by omega) (fun i hi => hle i (by omega)) hlt
      have := hle N (by omega)
      omega
theorem dg_fN {W : zN2} {pm : Nat → Nat} {m v i j k : Nat} (hk : k < m) : dg (fN W pm m v i j) k = fW W pm v i j k := dg_val9 m k hk (fun _ _ => fW_le)
def phi (m v : Nat) : Nat := nsum (fun i => 2 ^ dg v i) m
theorem phi_le {m v : Nat} (hm : m ≤ 4) : phi m v ≤ 1024 := by
  have : phi m v ≤ 256 * m := nsum_le m (fun i _ => Nat.pow_le_pow_right (n := 2) (by decide) (dg_le v i))
  omega
theorem nHi_lt {lo hi a b : Nat} (h : lo < hi) (hb : 1 ≤ b) : nLo lo hi a b ≤ nHi lo hi a b ∧ nHi lo hi a b ≤ hi - 1 := by
  refine ⟨(nHi_le (by omega)).1, ?_⟩
  unfold nHi
  split
  · omega
  · have : (hi - lo) * a / (a + b) < hi - lo := by
      apply Nat.div_lt_of_lt_mul
      rw [Nat.mul_comm (a + b)]
      exact Nat.mul_lt_mul_of_pos_left (by omega) (by omega)
    omega
theorem pow_two {x y hi : Nat} (h1 : x ≤ y) (h2 : y ≤ hi - 1) (h3 : 1 ≤ hi) : 2 ^ x + 2 ^ y ≤ 2 ^ hi := by
  have a1 : 2 ^ x ≤ 2 ^ (hi - 1) := Nat.pow_le_pow_right (by decide) (by omega)
  have a2 : 2 ^ y ≤ 2 ^ (hi - 1) := Nat.pow_le_pow_right (by decide) h2
  have a3 : 2 ^ hi = 2 ^ (hi - 1) * 2 := by rw [← Nat.pow_succ]; congr 1; omega
  omega
theorem phi_lt {T W : zN2} {pm : Nat → Nat} {m v u : Nat} (hg : 1 ≤ W 0 2) (hl : ∀ i, i < m → 1 ≤ W 2 (pm i)) (h : fE T W pm m v u) : phi m u < phi m v := by
  obtain ⟨i, j, hij, hj, hc, rfl⟩ := h
  have hd : dg v i ≠ dg v j := fun e => by
    have := (of_decide_eq_true hc).2
    rw [e] at this
    unfold zd at this
    omega
  have h1 := nsum_at (f := fun k => 2 ^ (if k = i then fW W pm v i j k else dg v k)) (g := fun k => 2 ^ dg v k) (u := i) m (by omega) (fun k _ hne => by rw [if_neg hne])
  have h2 := nsum_at (f := fun k => 2 ^ dg (fN W pm m v i j) k) (g := fun k => 2 ^ (if k = i then fW W pm v i j k else dg v k)) (u := j) m hj (fun k hk hne => by
    rw [dg_fN hk]
    by_cases e : k = i
    · rw [if_pos e]
    · rw [if_neg e]
      unfold fW
      rw [if_neg e, if_neg hne])
  simp only [if_true, if_neg (show ¬ j = i by omega), dg_fN hj] at h1 h2
  have gi : fW W pm v i j i = nA (dg v i) (dg v j) (W 2 (pm i)) (W 2 (pm j)) := if_pos rfl
  have gj : fW W pm v i j j = nB (dg v i) (dg v j) (W 2 (pm i)) (W 2 (pm j)) := by unfold fW; rw [if_neg (by omega), if_pos rfl]
  rw [gi] at h1
  rw [gj] at h2
  have key : 2 ^ nA (dg v i) (dg v j) (W 2 (pm i)) (W 2 (pm j)) + 2 ^ nB (dg v i) (dg v j) (W 2 (pm i)) (W 2 (pm j)) < 2 ^ dg v i + 2 ^ dg v j := by
    have l1 := hl i (by omega)
    have l2 := hl j hj
    have q1 := Nat.two_pow_pos (dg v i)
    have q2 := Nat.two_pow_pos (dg v j)
    by_cases c : dg v i ≤ dg v j
    · have e1 : nA (dg v i) (dg v j) (W 2 (pm i)) (W 2 (pm j)) = nLo (dg v i) (dg v j) (W 2 (pm i)) (W 2 (pm j)) := if_pos c
      have e2 : nB (dg v i) (dg v j) (W 2 (pm i)) (W 2 (pm j)) = nHi (dg v i) (dg v j) (W 2 (pm i)) (W 2 (pm j)) := if_pos c
      obtain ⟨k1, k2⟩ := nHi_lt (lo := dg v i) (hi := dg v j) (a := W 2 (pm i)) (b := W 2 (pm j)) (by omega) l2
      have := pow_two k1 k2 (by omega)
      rw [e1, e2]
      omega
    · have e1 : nA (dg v i) (dg v j) (W 2 (pm i)) (W 2 (pm j)) = nHi (dg v j) (dg v i) (W 2 (pm j)) (W 2 (pm i)) := if_neg c
      have e2 : nB (dg v i) (dg v j) (W 2 (pm i)) (W 2 (pm j)) = nLo (dg v j) (dg v i) (W 2 (pm j)) (W 2 (pm i)) := if_neg c
      obtain ⟨k1, k2⟩ := nHi_lt (lo := dg v j) (hi := dg v i) (a := W 2 (pm j)) (b := W 2 (pm i)) (by omega) l1
      have := pow_two k1 k2 (by omega)
      rw [e1, e2]
      omega
  unfold phi
  omega
/-- who isn't led stays -/
theorem nA_0 {x y b : Nat} : nA x y 0 b = x := by
  unfold nA
  split
  · unfold nLo
    split
    · rfl
    · rw [Nat.mul_zero, Nat.zero_div]; rfl
  · unfold nHi
    split
    · rfl
    · rw [Nat.add_zero, Nat.mul_div_cancel _ (by omega)]; omega
theorem nB_0 {x y a : Nat} : nB x y a 0 = y := by
  unfold nB
  split
  · unfold nHi
    split
    · rfl
    · rw [Nat.add_zero, Nat.mul_div_cancel _ (by omega)]; omega
  · unfold nLo
    split
    · rfl
    · rw [Nat.mul_zero, Nat.zero_div]; rfl
theorem stays {T W : zN2} {pm : Nat → Nat} {m v u c : Nat} (hc : c < m) (hl : W 2 (pm c) = 0) (h : fE T W pm m v u) : dg u c = dg v c := by
  obtain ⟨i, j, hij, hj, _, rfl⟩ := h
  rw [dg_fN hc]
  unfold fW
  by_cases e1 : c = i
  · rw [if_pos e1, ← e1, hl, nA_0]
  · by_cases e2 : c = j
    · rw [if_neg e1, if_pos e2, ← e2, hl, nB_0]
    · rw [if_neg e1, if_neg e2]
theorem stays_p {T W : zN2} {pm : Nat → Nat} {m st c : Nat} (hc : c < m) (hl : W 2 (pm c) = 0) : ∀ L v, pth (fE T W pm m) st L v → dg v c = dg st c
  | 0, v, h => by cases h; rfl
  | L + 1, v, ⟨d, h1, h2⟩ => (stays hc hl h2).trans (stays_p hc hl L d h1)
/-- a state without one digit -/
def rm9 (c v : Nat) : Nat := v / 9 ^ (c + 1) * 9 ^ c + v % 9 ^ c
def in9 (c x w : Nat) : Nat := w / 9 ^ c * 9 ^ (c + 1) + x * 9 ^ c + w % 9 ^ c
theorem in_rm {c v : Nat} : in9 c (dg v c) (rm9 c v) = v := by
  have hp : 0 < 9 ^ c := Nat.pow_pos (by decide)
  have hm : v % 9 ^ c < 9 ^ c := Nat.mod_lt _ hp
  have e1 : rm9 c v / 9 ^ c = v / 9 ^ (c + 1) := by
    unfold rm9
    rw [Nat.add_comm, Nat.add_mul_div_right _ _ hp, Nat.div_eq_of_lt hm, Nat.zero_add]
  have e2 : rm9 c v % 9 ^ c = v % 9 ^ c := by
    unfold rm9
    rw [Nat.add_comm, Nat.add_mul_mod_self_right, Nat.mod_mod]
  unfold in9
  rw [e1, e2]
  have k1 : v / 9 ^ (c + 1) = v / 9 ^ c / 9 := by rw [Nat.pow_succ, Nat.div_div_eq_div_mul]
  have k2 : v / 9 ^ c = 9 * (v / 9 ^ (c + 1)) + dg v c := by
    have := Nat.div_add_mod (v / 9 ^ c) 9
    rw [k1]; exact this.symm
  have k3 := Nat.div_add_mod v (9 ^ c)
  rw [k2, Nat.mul_add] at k3
  have k4 : v / 9 ^ (c + 1) * 9 ^ (c + 1) = 9 ^ c * (9 * (v / 9 ^ (c + 1))) := by
    rw [Nat.pow_succ, Nat.mul_comm (v / (9 ^ c * 9)), Nat.mul_assoc]
  rw [k4, Nat.mul_comm (dg v c)]
  exact k3
theorem rm_lt {c v m : Nat} (hm : m ≤ 4) (hc : c < m) (hv : v < 9 ^ m) : rm9 c v < 729 := by
  have hp : 0 < 9 ^ c := Nat.pow_pos (by decide)
  have h1 : v % 9 ^ c < 9 ^ c := Nat.mod_lt _ hp
  have h2 : v / 9 ^ (c + 1) < 9 ^ (m - (c + 1)) := by
    apply Nat.div_lt_of_lt_mul
    rw [← Nat.pow_add, show c + 1 + (m - (c + 1)) = m by omega]
    exact hv
  have h3 : (v / 9 ^ (c + 1) + 1) * 9 ^ c ≤ 9 ^ (m - (c + 1)) * 9 ^ c := Nat.mul_le_mul_right _ h2
  rw [← Nat.pow_add, show m - (c + 1) + c = m - 1 by omega, Nat.add_mul, Nat.one_mul] at h3
  have h4 : 9 ^ (m - 1) ≤ 9 ^ 3 := Nat.pow_le_pow_right (by decide) (by omega)
  unfold rm9
  omega
theorem m_mostFew {T W : zN2} {pm : Nat → Nat} {m q st : Nat} {μ : zMem} (hT : TB T) (hW : WB T W) (hg : 1 ≤ W 0 2) (hm : m ≤ 4) (hpm : pmOk T pm m) (hB : mB9 T W pm m μ) (hq : q < T 2 0) (hst : st < 9 ^ m) (h0 : ∀ v, v < 6561 → μ 1130 v = zi 0) :
    ∃ x μ', f9_mostFrom 2000 (zi st) (zi q) μ = some (0, x, μ') ∧ moC (fE T W pm m) st x ∧ rF9 (pm, m, q) μ μ' := by
  have h9 := pow9 hm
  have fin : ∀ (Kf : (Nat → Nat) → Nat → Nat), (∀ sn v, 1 ≤ Kf sn v) → (∀ sn sn' v u L, pth (fE T W pm m) st L v → sn v = 0 → sn' v ≠ 0 → (∀ s, sn s ≠ 0 → sn' s ≠ 0) → fE T W pm m v u → Kf sn' u < Kf sn v) → Kf (fun _ => 0) st ≤ 2000 → ∃ x μ', f9_mostFrom 2000 (zi st) (zi q) μ = some (0, x, μ') ∧ moC (fE T W pm m) st x ∧ rF9 (pm, m, q) μ μ' := by
    intro Kf k1 k2 k3
    obtain ⟨x, μ', sn', mb', a1, a2, a3⟩ := m_mostFrom hT hW hg hm hpm hB hq hst Kf k1 k2 2000 st (fun _ => 0) (fun _ => 0) μ 0 k3 rfl (fun v hv => ⟨h0 v hv, fun q => absurd (show 0 = 2 from q) (by decide)⟩) (fun _ => Nat.zero_le _) (fun s hs => absurd (show 0 = 2 from hs) (by decide)) (fun s hs => absurd (show 0 = 1 from hs) (by decide)) rF9.refl
    exact ⟨x, μ', a1, a2, a3.2.2.2.2.2⟩
  by_cases hl : ∃ c, c < m ∧ W 2 (pm c) = 0
  · obtain ⟨c, hc, hc0⟩ := hl
    refine fin (fun sn _ => nsum (fun w => if sn (in9 c (dg st c) w) = 0 then 1 else 0) 729 + 1) (fun sn v => by omega) (fun sn sn' v u L hp s0 s1 hmono hE => ?_) ?_
    · have hv9 := pth_lt9 hst _ _ hp
      have hdv := stays_p hc hc0 L v hp
      have e : in9 c (dg st c) (rm9 c v) = v := by rw [← hdv]; exact in_rm
      have := nsum_slt (f := fun w => if sn' (in9 c (dg st c) w) = 0 then 1 else 0) (g := fun w => if sn (in9 c (dg st c) w) = 0 then 1 else 0) (u := rm9 c v) 729 (rm_lt hm hc hv9) (fun w _ => by
        by_cases c1 : sn (in9 c (dg st c) w) = 0
        · rw [if_pos c1]; split <;> omega
        · rw [if_neg (hmono _ c1), if_neg c1]; exact Nat.le_refl _) (by
        rw [e, if_neg s1, if_pos s0]; decide)
      omega
    · have : nsum (fun w => if (0 : Nat) = 0 then 1 else 0) 729 ≤ 1 * 729 := nsum_le (c := 1) 729 (fun w _ => by split <;> omega)
      show nsum (fun w => if (0 : Nat) = 0 then 1 else 0) 729 + 1 ≤ 2000
      omega
  · refine fin (fun _ v => phi m v + 1) (fun sn v => by omega) (fun sn sn' v u L hp s0 s1 hmono hE => ?_) ?_
    · have := phi_lt hg (fun i hi => Nat.pos_of_ne_zero (fun e => hl ⟨i, hi, e⟩)) hE
      omega
    · have := phi_le (m := m) (v := st) hm
      show phi m st + 1 ≤ 2000
      omega
