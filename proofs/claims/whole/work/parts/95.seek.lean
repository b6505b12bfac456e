/-! THE PURE SIDE, 35: the best WORK now; the first two for a DOOR -/
def bS (T W : zN2) (c : Nat) (b : Option Nat) : Option Nat := if tE T W (c / 100) (c / 10 % 10) (c % 10) = 0 then (match b with
  | none => some c
  | some e => if T 8 (e / 100) < T 8 (c / 100) then some c else some e) else b
def bN (T W : zN2) : Option Nat := zcand (T 2 2) (T 2 1) (bS T W) none
/-- the first two for a DOOR, as a WORK's code -/
def fS (T W : zN2) (c : Nat) (b : Option Nat) : Option Nat := match b with
  | some e => some e
  | none => if tE T W (c / 100) (c / 10 % 10) (c % 10) = 0 then some c else none
def fT (T W : zN2) (d : Nat) : Option Nat := zit (fun a => zit (fun b => fS T W (100 * d + 10 * a + b)) (T 2 1 - (a + 1)) (a + 1)) (T 2 1) 0 none
/-- a DOOR is looked at -/
def dS (T W : zN2) (d : Nat) (b : Option Nat) : Option Nat := match fT T W d with
  | none => b
  | some c => (match b with
    | none => some c
    | some e => if T 8 (e / 100) < T 8 d then some c else some e)
theorem zit_rel {σ τ : Type} {F : Nat → σ → σ} {G : Nat → τ → τ} (R : σ → τ → Prop) : ∀ m i s t, R s t → (∀ j s t, i ≤ j → j < i + m → R s t → R (F j s) (G j t)) → R (zit F m i s) (zit G m i t)
  | 0, _, _, _, h, _ => h
  | m + 1, i, s, t, h, hs => zit_rel R m (i + 1) (F i s) (G i t) (hs i s t (by omega) (by omega) h) (fun j s t h1 h2 h3 => hs j s t (by omega) (by omega) h3)
def bR (T : zN2) (d : Nat) (b s t : Option Nat) : Prop := (∀ c, t = some c → c / 100 = d) ∧ s = match t with
      | none => b
      | some c => (match b with
        | none => some c
        | some e => if T 8 (e / 100) < T 8 d then some c else some e)
/-- door by door -/
theorem bS_door {T W : zN2} (hT : TB T) {d : Nat} (b : Option Nat) : zit (fun a => zit (fun b => bS T W (100 * d + 10 * a + b)) (T 2 1 - (a + 1)) (a + 1)) (T 2 1) 0 b = dS T W d b := by
  have hPP := hT.2.1
  have key := zit_rel (F := fun a => zit (fun b => bS T W (100 * d + 10 * a + b)) (T 2 1 - (a + 1)) (a + 1)) (G := fun a => zit (fun b => fS T W (100 * d + 10 * a + b)) (T 2 1 - (a + 1)) (a + 1))
    (bR T d b) (T 2 1) 0 b none ⟨fun c hc => (nomatch hc), rfl⟩
    (fun a s t _ ha h => zit_rel (bR T d b) (T 2 1 - (a + 1)) (a + 1) s t h (fun j s t h1 h2 h => by
      obtain ⟨ht, hs⟩ := h
      have q1 : (100 * d + 10 * a + j) / 100 = d := by omega
      have q2 : (100 * d + 10 * a + j) / 10 % 10 = a := by omega
      have q3 : (100 * d + 10 * a + j) % 10 = j := by omega
      unfold bS fS bR
      rw [q1, q2, q3]
      by_cases h0 : tE T W d a j = 0
      · cases t with
        | none =>
          have hs : s = b := hs
          subst hs
          refine ⟨fun c hc => ?_, ?_⟩
          · simp only [h0, if_true] at hc
            rw [← Option.some.inj hc]; exact q1
          · simp only [h0, if_true]
        | some c =>
          refine ⟨fun c' hc => ht c' hc, ?_⟩
          have hcd := ht c rfl
          simp only [h0, if_true]
          cases b with
          | none =>
            have hs : s = some c := hs
            rw [hs]
            simp only [hcd, Nat.lt_irrefl, if_false]
          | some e =>
            have hs : s = if T 8 (e / 100) < T 8 d then some c else some e := hs
            by_cases hc : T 8 (e / 100) < T 8 d
            · rw [if_pos hc] at hs
              rw [hs]
              simp only [hcd, Nat.lt_irrefl, if_false, hc, if_true]
            · rw [if_neg hc] at hs
              rw [hs]
              simp only [hc, if_false]
      · cases t with
        | none => simp only [h0, if_false]; exact ⟨ht, hs⟩
        | some c => simp only [h0, if_false]; exact ⟨ht, hs⟩))
  unfold dS fT
  exact key.2
theorem bN_doors {T W : zN2} (hT : TB T) : bN T W = zit (dS T W) (T 2 2) 0 none := by
  unfold bN zcand
  apply zit_congr
  intro d t _ _
  exact bS_door hT t
theorem fT_ok {T W : zN2} (hT : TB T) {d c : Nat} (hd : d < T 2 2) (h : fT T W d = some c) : c / 100 = d ∧ cok T c ∧ c < 1000 := by
  have hPP := hT.2.1
  have hD := hT.2.2.1
  have := zit_inv (F := fun a => zit (fun b => fS T W (100 * d + 10 * a + b)) (T 2 1 - (a + 1)) (a + 1)) (fun t => ∀ c, t = some c → c / 100 = d ∧ cok T c ∧ c < 1000) (T 2 1) 0 none (fun c hc => (nomatch hc)) (fun a t _ ha ht => zit_inv (fun t => ∀ c, t = some c → c / 100 = d ∧ cok T c ∧ c < 1000) (T 2 1 - (a + 1)) (a + 1) t ht (fun j t h1 h2 ht c hc => by
    have q1 : (100 * d + 10 * a + j) / 100 = d := by omega
    have q2 : (100 * d + 10 * a + j) / 10 % 10 = a := by omega
    have q3 : (100 * d + 10 * a + j) % 10 = j := by omega
    cases t with
    | some e => exact ht c hc
    | none =>
      unfold fS at hc
      by_cases h0 : tE T W ((100 * d + 10 * a + j) / 100) ((100 * d + 10 * a + j) / 10 % 10) ((100 * d + 10 * a + j) % 10) = 0
      · simp only [h0, if_true] at hc
        rw [← Option.some.inj hc]
        exact ⟨q1, ⟨by rw [q1]; exact hd, by rw [q2]; omega, by rw [q3]; omega⟩, by omega⟩
      · simp only [h0, if_false] at hc
        exact (nomatch hc)))
  exact this c h
/-- what a seeker keeps: WORTH, the first, the second -/
abbrev qT : Type := Nat × Int32 × Int32
/-- a second WORK behind a first one, door by door, as the class looks -/
def qS (T V : zN2) (had : Nat) (fw : Int32) (d : Nat) (s : qT) : qT := if had + T 8 d ≤ s.1 then s else (match fT T V d with
  | none => s
  | some c => (had + T 8 d, fw, zi c))
/-- .. and as the reference does: the best one at once -/
def qB (T V : zN2) (had : Nat) (fw : Int32) (s : qT) : qT := match bN T V with
  | none => s
  | some c => if s.1 < had + T 8 (c / 100) then (had + T 8 (c / 100), fw, zi c) else s
theorem qS_qB {T V : zN2} (hT : TB T) (had : Nat) (fw : Int32) (s : qT) : zit (qS T V had fw) (T 2 2) 0 s = qB T V had fw s := by
  have key := zit_rel (F := qS T V had fw) (G := dS T V) (fun (s' : qT) (b : Option Nat) => s' = match b with
    | none => s
    | some c => if s.1 < had + T 8 (c / 100) then (had + T 8 (c / 100), fw, zi c) else s) (T 2 2) 0 s none rfl
    (fun d s' b _ hd h => by
      unfold qS dS
      cases hf : fT T V d with
      | none =>
        simp only
        split <;> exact h
      | some c =>
        have hcd := (fT_ok hT (by omega) hf).1
        cases b with
        | none =>
          have h : s' = s := h
          rw [h]
          show _ = if s.1 < had + T 8 (c / 100) then (had + T 8 (c / 100), fw, zi c) else s
          rw [hcd]
          by_cases hc : s.1 < had + T 8 d
          · rw [if_pos hc, if_neg (by omega)]
          · rw [if_neg hc, if_pos (by omega)]
        | some e =>
          have h : s' = if s.1 < had + T 8 (e / 100) then (had + T 8 (e / 100), fw, zi e) else s := h
          by_cases hw : T 8 (e / 100) < T 8 d
          · simp only [hw, if_true]
            show _ = if s.1 < had + T 8 (c / 100) then (had + T 8 (c / 100), fw, zi c) else s
            rw [hcd]
            by_cases he : s.1 < had + T 8 (e / 100)
            · rw [if_pos he] at h
              rw [h, if_neg (show ¬ had + T 8 d ≤ had + T 8 (e / 100) by omega), if_pos (show s.1 < had + T 8 d by omega)]
            · rw [if_neg he] at h
              rw [h]
              by_cases hc : s.1 < had + T 8 d
              · rw [if_pos hc, if_neg (by omega)]
              · rw [if_neg hc, if_pos (by omega)]
          · simp only [hw, if_false]
            show _ = if s.1 < had + T 8 (e / 100) then (had + T 8 (e / 100), fw, zi e) else s
            by_cases he : s.1 < had + T 8 (e / 100)
            · rw [if_pos he] at h ⊢
              rw [h, if_pos (show had + T 8 d ≤ had + T 8 (e / 100) by omega)]
            · rw [if_neg he] at h ⊢
              rw [h, if_pos (show had + T 8 d ≤ s.1 by omega)])
  unfold qB
  rw [bN_doors hT]
  exact key
