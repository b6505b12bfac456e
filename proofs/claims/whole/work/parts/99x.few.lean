/-! THE PURE SIDE, 63: ways through a graph -/
def pth (E : Nat → Nat → Prop) (a : Nat) : Nat → Nat → Prop
  | 0, b => a = b
  | n + 1, b => ∃ c, pth E a n c ∧ E c b
theorem pth_add {E : Nat → Nat → Prop} {a b : Nat} {k : Nat} (h : pth E a k b) : ∀ n c, pth E b n c → pth E a (k + n) c
  | 0, c, h' => by cases h'; exact h
  | n + 1, c, ⟨d, h1, h2⟩ => ⟨d, pth_add h n d h1, h2⟩
theorem pth_pre {E : Nat → Nat → Prop} {a : Nat} {k : Nat} : ∀ n c, pth E a (k + n) c → ∃ b, pth E a k b
  | 0, c, h => ⟨c, h⟩
  | n + 1, c, ⟨d, h1, _⟩ => pth_pre n d h1
/-- how soon one comes to rest -/
def soC (E : Nat → Nat → Prop) (st : Nat) (x : Int32) : Prop := (x = zN1 ∧ ∀ L v, pth E st L v → ∃ u, E v u) ∨ ∃ L v, x = zi L ∧ pth E st L v ∧ (¬ ∃ u, E v u) ∧ ∀ L' v', pth E st L' v' → (¬ ∃ u, E v' u) → L ≤ L'
/-- how far one can go -/
def moC (E : Nat → Nat → Prop) (st : Nat) (x : Int32) : Prop := (x = zN1 ∧ ∀ n, ∃ v, pth E st n v) ∨ ∃ L v, x = zi L ∧ pth E st L v ∧ ∀ L' v', pth E st L' v' → L' ≤ L
theorem soC_eq {E : Nat → Nat → Prop} {st : Nat} {x y : Int32} (h : soC E st x) (h' : soC E st y) : x = y := by
  rcases h with ⟨h1, h2⟩ | ⟨L, v, h1, h2, h3, h4⟩
  · rcases h' with ⟨k1, k2⟩ | ⟨L', v', k1, k2, k3, k4⟩
    · rw [h1, k1]
    · exact absurd (h2 L' v' k2) k3
  · rcases h' with ⟨k1, k2⟩ | ⟨L', v', k1, k2, k3, k4⟩
    · exact absurd (k2 L v h2) h3
    · have := h4 L' v' k2 k3
      have := k4 L v h2 h3
      rw [h1, k1, show L = L' by omega]
theorem moC_eq {E : Nat → Nat → Prop} {st : Nat} {x y : Int32} (h : moC E st x) (h' : moC E st y) : x = y := by
  rcases h with ⟨h1, h2⟩ | ⟨L, v, h1, h2, h4⟩
  · rcases h' with ⟨k1, k2⟩ | ⟨L', v', k1, k2, k4⟩
    · rw [h1, k1]
    · obtain ⟨w, hw⟩ := h2 (L' + 1)
      have := k4 _ w hw
      omega
  · rcases h' with ⟨k1, k2⟩ | ⟨L', v', k1, k2, k4⟩
    · obtain ⟨w, hw⟩ := k2 (L + 1)
      have := h4 _ w hw
      omega
    · have := h4 L' v' k2
      have := k4 L v h2
      rw [h1, k1, show L = L' by omega]
theorem nsum_at {f g : Nat → Nat} {u : Nat} : ∀ N, u < N → (∀ i, i < N → i ≠ u → f i = g i) → nsum f N + g u = nsum g N + f u
  | 0, h, _ => absurd h (by omega)
  | N + 1, h, hh => by
    show nsum f N + f N + g u = nsum g N + g N + f u
    by_cases e : u = N
    · subst e
      rw [nsum_congr u (fun i hi => hh i (by omega) (by omega))]
      omega
    · have := nsum_at N (by omega) (fun i hi hne => hh i (by omega) hne)
      have := hh N (by omega) (by omega)
      omega
theorem nsum_mono {f g : Nat → Nat} : ∀ N, (∀ i, i < N → f i ≤ g i) → nsum f N ≤ nsum g N
  | 0, _ => Nat.le_refl _
  | N + 1, h => by
    have h1 := nsum_mono N (fun i hi => h i (by omega))
    have h2 := h N (by omega)
    show nsum f N + f N ≤ nsum g N + g N
    omega
theorem nsum_ex {f g : Nat → Nat} (N : Nat) (h : nsum f N < nsum g N) : ∃ i, i < N ∧ f i < g i := by
  apply Classical.byContradiction
  intro hno
  have := nsum_mono (f := g) (g := f) N (fun i hi => by
    apply Classical.byContradiction
    intro hh
    exact hno ⟨i, hi, by omega⟩)
  omega
theorem nsum_term {f : Nat → Nat} {u : Nat} : ∀ N, u < N → f u ≤ nsum f N
  | 0, h => absurd h (by omega)
  | N + 1, h => by
    show f u ≤ nsum f N + f N
    by_cases e : u = N
    · rw [e]; omega
    · have := nsum_term (f := f) (u := u) N (by omega)
      omega
theorem nsum_pos {f : Nat → Nat} (N : Nat) (h : 0 < nsum f N) : ∃ i, i < N ∧ 0 < f i := by
  have := nsum_ex (f := fun _ => 0) (g := f) N (by rw [nsum_0 N (fun _ _ => rfl)]; exact h)
  exact this
/-- whether s stands in a queue -/
def inq (Q : Nat → Nat) : Nat → Nat → Bool
  | 0, _ => false
  | n + 1, s => inq Q n s || decide (Q n = s)
theorem inq_iff {Q : Nat → Nat} : ∀ {n s : Nat}, inq Q n s = true ↔ ∃ j, j < n ∧ Q j = s
  | 0, s => ⟨fun h => absurd (show false = true from h) (by decide), fun h => by obtain ⟨j, h1, _⟩ := h; omega⟩
  | n + 1, s => by
    show (inq Q n s || decide (Q n = s)) = true ↔ _
    rw [Bool.or_eq_true, inq_iff (n := n), decide_eq_true_iff]
    constructor
    · rintro (⟨j, h1, h2⟩ | h)
      · exact ⟨j, by omega, h2⟩
      · exact ⟨n, by omega, h⟩
    · rintro ⟨j, h1, h2⟩
      by_cases e : j = n
      · exact Or.inr (e ▸ h2)
      · exact Or.inl ⟨j, by omega, h2⟩
def inj (Q : Nat → Nat) (n : Nat) : Prop := ∀ j j', j < n → j' < n → Q j = Q j' → j = j'
theorem nsum_list {Q f : Nat → Nat} {N : Nat} : ∀ n, inj Q n → (∀ j, j < n → Q j < N) → nsum (fun j => f (Q j)) n = nsum (fun s => if inq Q n s = true then f s else 0) N
  | 0, _, _ => (nsum_0 N (fun _ _ => rfl)).symm
  | n + 1, hi, hN => by
    show nsum (fun j => f (Q j)) n + f (Q n) = _
    rw [nsum_list n (fun j j' h1 h2 e => hi j j' (by omega) (by omega) e) (fun j hj => hN j (by omega))]
    have hno : inq Q n (Q n) = false := by
      cases e : inq Q n (Q n)
      · rfl
      · obtain ⟨j, h1, h2⟩ := inq_iff.1 e
        have := hi j n (by omega) (by omega) h2
        omega
    have hyes : inq Q (n + 1) (Q n) = true := inq_iff.2 ⟨n, by omega, rfl⟩
    have := nsum_at (f := fun s => if inq Q (n + 1) s = true then f s else 0) (g := fun s => if inq Q n s = true then f s else 0) (u := Q n) N (hN n (by omega)) (fun s _ hne => by
      have : inq Q (n + 1) s = inq Q n s := by
        show (inq Q n s || decide (Q n = s)) = _
        rw [decide_eq_false (fun e => hne e.symm), Bool.or_false]
      rw [this])
    rw [hno, hyes, if_pos rfl, if_neg (by decide)] at this
    omega
/-- a search by breadth: i of the queue's n looked at, D what is handled of the next one's -/
def BF (E : Nat → Nat → Prop) (st i n : Nat) (Q rc : Nat → Nat) (D : Nat → Prop) : Prop :=
  (0 < n ∧ i ≤ n ∧ Q 0 = st ∧ inj Q n) ∧ (∀ j, j < n → Q j < 6561 ∧ 0 < rc (Q j) ∧ pth E st (rc (Q j) - 1) (Q j)) ∧ (∀ v, 0 < rc v → ∃ j, j < n ∧ Q j = v)
  ∧ (∀ j j', j ≤ j' → j' < n → rc (Q j) ≤ rc (Q j')) ∧ (∀ j, j < n → i < n → rc (Q j) ≤ rc (Q i) + 1)
  ∧ (∀ j, j < i → ∀ v, E (Q j) v → 0 < rc v ∧ rc v ≤ rc (Q j) + 1) ∧ (i < n → ∀ v, D v → 0 < rc v ∧ rc v ≤ rc (Q i) + 1) ∧ (rc (Q 0) = 1)
theorem BF_cnt {E : Nat → Nat → Prop} {st i n : Nat} {Q rc : Nat → Nat} {D : Nat → Prop} (h : BF E st i n Q rc D) : n = nsum (fun s => if inq Q n s = true then 1 else 0) 6561 := by
  have := nsum_list (Q := Q) (f := fun _ => 1) (N := 6561) n h.1.2.2.2 (fun j hj => (h.2.1 j hj).1)
  rw [← this]
  clear this h
  induction n with
  | zero => rfl
  | succ n ih =>
    show n + 1 = nsum _ n + 1
    rw [← ih]
theorem BF_le {E : Nat → Nat → Prop} {st i n : Nat} {Q rc : Nat → Nat} {D : Nat → Prop} (h : BF E st i n Q rc D) : n ≤ 6561 ∧ ∀ v, v < 6561 → rc v = 0 → n < 6561 := by
  have hc := BF_cnt h
  have h1 : nsum (fun s => if inq Q n s = true then 1 else 0) 6561 ≤ 1 * 6561 := nsum_le (c := 1) 6561 (fun s _ => by split <;> omega)
  refine ⟨by omega, fun v hv h0 => ?_⟩
  have hno : inq Q n v = false := by
    cases e : inq Q n v
    · rfl
    · obtain ⟨j, k1, k2⟩ := inq_iff.1 e
      have := (h.2.1 j k1).2.1
      rw [k2] at this
      omega
  have h2 := nsum_at (f := fun s => if inq Q n s = true then 1 else 0) (g := fun s => if inq Q n s = true then 1 else if s = v then 1 else 0) (u := v) 6561 hv (fun s _ hne => by rw [if_neg hne])
  have h3 : nsum (fun s => if inq Q n s = true then 1 else if s = v then 1 else 0) 6561 ≤ 1 * 6561 := nsum_le (c := 1) 6561 (fun s _ => by split; omega; split <;> omega)
  simp only [hno, if_neg Bool.false_ne_true, if_pos] at h2
  omega
/-- a way to v is looked at -/
theorem BF_old {E : Nat → Nat → Prop} {st i n : Nat} {Q rc : Nat → Nat} {D D' : Nat → Prop} (h : BF E st i n Q rc D) (hi : i < n) {v : Nat} (h0 : 0 < rc v) (hD : ∀ w, D' w → D w ∨ w = v) : BF E st i n Q rc D' := by
  obtain ⟨h1, h2, h3, h4, h5, h6, h7, h8⟩ := h
  refine ⟨h1, h2, h3, h4, h5, h6, fun _ w hw => ?_, h8⟩
  rcases hD w hw with q | q
  · exact h7 hi w q
  · obtain ⟨j, k1, k2⟩ := h3 v h0
    rw [q]
    refine ⟨h0, ?_⟩
    rw [← k2]; exact h5 j k1 hi
theorem BF_new {E : Nat → Nat → Prop} {st i n : Nat} {Q rc Q' rc' : Nat → Nat} {D D' : Nat → Prop} (h : BF E st i n Q rc D) (hi : i < n) {v : Nat} (hE : E (Q i) v) (hv : v < 6561) (h0 : rc v = 0) (hD : ∀ w, D' w → D w ∨ w = v)
    (hQ : ∀ j, Q' j = if j = n then v else Q j) (hr : ∀ w, rc' w = if w = v then rc (Q i) + 1 else rc w) : BF E st i (n + 1) Q' rc' D' := by
  obtain ⟨⟨a1, a2, a3, a4⟩, h2, h3, h4, h5, h6, h7, h8⟩ := h
  have hne : ∀ j, j < n → Q j ≠ v := fun j hj e => by
    have := (h2 j hj).2.1
    rw [e] at this; omega
  have q1 : ∀ j, j < n → Q' j = Q j := fun j hj => by rw [hQ, if_neg (by omega)]
  have r1 : ∀ j, j < n → rc' (Q j) = rc (Q j) := fun j hj => by rw [hr, if_neg (hne j hj)]
  have qn : Q' n = v := by rw [hQ, if_pos rfl]
  have rv : rc' v = rc (Q i) + 1 := by rw [hr, if_pos rfl]
  have mono : ∀ w, 0 < rc w → rc' w = rc w := fun w hw => by
    rw [hr, if_neg]
    intro e; rw [e] at hw; omega
  refine ⟨⟨by omega, by omega, by rw [q1 0 a1]; exact a3, fun j j' hj hj' e => ?_⟩, fun j hj => ?_, fun w hw => ?_, fun j j' hj hj' => ?_, fun j hj _ => ?_, fun j hj w hw => ?_, fun _ w hw => ?_, by rw [q1 0 a1, r1 0 a1]; exact h8⟩
  · by_cases c : j = n
    · by_cases c' : j' = n
      · omega
      · rw [c, qn, q1 j' (by omega)] at e
        exact absurd e.symm (hne j' (by omega))
    · by_cases c' : j' = n
      · rw [c', qn, q1 j (by omega)] at e
        exact absurd e (hne j (by omega))
      · rw [q1 j (by omega), q1 j' (by omega)] at e
        exact a4 j j' (by omega) (by omega) e
  · by_cases c : j = n
    · rw [c, qn, rv]
      refine ⟨hv, by omega, ?_⟩
      have e : rc (Q i) + 1 - 1 = (rc (Q i) - 1) + 1 := by have := (h2 i hi).2.1; omega
      rw [e]; exact ⟨Q i, (h2 i hi).2.2, hE⟩
    · rw [q1 j (by omega), r1 j (by omega)]; exact h2 j (by omega)
  · by_cases c : w = v
    · exact ⟨n, by omega, by rw [qn, c]⟩
    · rw [hr, if_neg c] at hw
      obtain ⟨j, k1, k2⟩ := h3 w hw
      exact ⟨j, by omega, by rw [q1 j k1]; exact k2⟩
  · by_cases c' : j' = n
    · rw [c', qn, rv]
      by_cases c : j = n
      · rw [c, qn, rv]; exact Nat.le_refl _
      · rw [q1 j (by omega), r1 j (by omega)]; exact h5 j (by omega) hi
    · rw [q1 j (by omega), q1 j' (by omega), r1 j (by omega), r1 j' (by omega)]; exact h4 j j' hj (by omega)
  · rw [q1 i hi, r1 i hi]
    by_cases c : j = n
    · rw [c, qn, rv]; exact Nat.le_refl _
    · rw [q1 j (by omega), r1 j (by omega)]; exact h5 j (by omega) hi
  · rw [q1 j (by omega)] at hw
    obtain ⟨k1, k2⟩ := h6 j hj w hw
    rw [q1 j (by omega), r1 j (by omega), mono w k1]; exact ⟨k1, k2⟩
  · rw [q1 i hi, r1 i hi]
    by_cases c : w = v
    · rw [c, rv]; exact ⟨by omega, Nat.le_refl _⟩
    · obtain ⟨k1, k2⟩ := h7 hi w ((hD w hw).resolve_right c)
      rw [mono w k1]; exact ⟨k1, k2⟩
theorem BF_next {E : Nat → Nat → Prop} {st i n : Nat} {Q rc : Nat → Nat} {D : Nat → Prop} (h : BF E st i n Q rc D) (hi : i < n) (hD : ∀ v, E (Q i) v → D v) : BF E st (i + 1) n Q rc (fun _ => False) := by
  obtain ⟨⟨a1, a2, a3, a4⟩, h2, h3, h4, h5, h6, h7, h8⟩ := h
  refine ⟨⟨a1, by omega, a3, a4⟩, h2, h3, h4, fun j hj hi' => ?_, fun j hj w hw => ?_, fun _ w hw => hw.elim, h8⟩
  · have := h5 j hj hi
    have := h4 i (i + 1) (by omega) hi'
    omega
  · by_cases c : j = i
    · subst c; exact h7 hi w (hD w hw)
    · exact h6 j (by omega) w hw
/-- every way stays among what is found, as long as it is shorter than the next one's -/
theorem BF_way {E : Nat → Nat → Prop} {st i n : Nat} {Q rc : Nat → Nat} {D : Nat → Prop} (h : BF E st i n Q rc D) (B : Nat) (hB : i < n → B ≤ rc (Q i) - 1) : ∀ L v, L ≤ B → pth E st L v → 0 < rc v ∧ rc v ≤ L + 1
  | 0, v, _, hp => by
    cases hp
    rw [← h.1.2.2.1, h.2.2.2.2.2.2.2]
    exact ⟨by decide, Nat.le_refl _⟩
  | L + 1, v, hL, ⟨u, hp, hE⟩ => by
    obtain ⟨k1, k2⟩ := BF_way h B hB L u (by omega) hp
    obtain ⟨j, j1, j2⟩ := h.2.2.1 u k1
    have hj : j < i := by
      apply Classical.byContradiction
      intro hno
      have hin : i < n := by omega
      have := h.2.2.2.1 i j (by omega) j1
      have := hB hin
      rw [j2] at *
      have := (h.2.1 i hin).2.1
      omega
    obtain ⟨e1, e2⟩ := h.2.2.2.2.2.1 j hj v (by rw [j2]; exact hE)
    rw [j2] at e2
    exact ⟨e1, by omega⟩
theorem BF_rest {E : Nat → Nat → Prop} {st i n : Nat} {Q rc : Nat → Nat} {D : Nat → Prop} (h : BF E st i n Q rc D) (hi : i < n) (hno : ∀ j, j < i → ∃ u, E (Q j) u) (hr : ¬ ∃ u, E (Q i) u) : soC E st (zi (rc (Q i) - 1)) := by
  refine Or.inr ⟨_, Q i, rfl, (h.2.1 i hi).2.2, hr, fun L' v' hp hr' => ?_⟩
  apply Classical.byContradiction
  intro hlt
  obtain ⟨k1, k2⟩ := BF_way h (rc (Q i) - 1) (fun _ => Nat.le_refl _) L' v' (by omega) hp
  obtain ⟨j, j1, j2⟩ := h.2.2.1 v' k1
  have hj : j < i := by
    apply Classical.byContradiction
    intro hno'
    have := h.2.2.2.1 i j (by omega) j1
    rw [j2] at this
    omega
  exact hr' (j2 ▸ hno j hj)
theorem BF_all {E : Nat → Nat → Prop} {st n : Nat} {Q rc : Nat → Nat} {D : Nat → Prop} (h : BF E st n n Q rc D) {L v : Nat} (hp : pth E st L v) : 0 < rc v := (BF_way h L (fun q => absurd q (by omega)) L v (Nat.le_refl _) hp).1
theorem BF_none {E : Nat → Nat → Prop} {st n : Nat} {Q rc : Nat → Nat} {D : Nat → Prop} (h : BF E st n n Q rc D) (hno : ∀ j, j < n → ∃ u, E (Q j) u) : soC E st zN1 := by
  refine Or.inl ⟨rfl, fun L v hp => ?_⟩
  obtain ⟨j, j1, j2⟩ := h.2.2.1 v (BF_all h hp)
  exact j2 ▸ hno j j1
theorem BF_start {E : Nat → Nat → Prop} {st : Nat} {Q rc : Nat → Nat} (hs : st < 6561) (hQ : Q 0 = st) (hr : ∀ v, rc v = if v = st then 1 else 0) : BF E st 0 1 Q rc (fun _ => False) := by
  have r0 : rc st = 1 := by rw [hr, if_pos rfl]
  refine ⟨⟨by decide, by decide, hQ, fun j j' h1 h2 _ => by omega⟩, fun j hj => ?_, fun v hv => ?_, fun j j' h1 h2 => ?_, fun j hj _ => ?_, fun j hj => absurd hj (by omega), fun _ w hw => hw.elim, by rw [hQ, r0]⟩
  · have : j = 0 := by omega
    subst this
    rw [hQ, r0]; exact ⟨hs, by decide, rfl⟩
  · refine ⟨0, by decide, ?_⟩
    rw [hQ]
    apply Classical.byContradiction
    intro hne
    rw [hr, if_neg (fun e => hne e.symm)] at hv
    omega
  · have e1 : j = 0 := by omega
    have e2 : j' = 0 := by omega
    rw [e1, e2]; exact Nat.le_refl _
  · have e1 : j = 0 := by omega
    rw [e1]; omega
