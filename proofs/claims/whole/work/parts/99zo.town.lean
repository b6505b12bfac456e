/-! THE PURE SIDE, 80: a TOWN's draft; the class reads -/
abbrev aS : Type := (Nat × Nat) ⊕ (Nat × zN2)
def abo (x : Nat) : Int32 := if x = 0 then zN1 else zi (x - 1)
def XD (D : zN2) (μ : zMem) : Prop :=
  (μ 12 0 = zi (D 2 0) ∧ μ 12 1 = zi (D 2 1) ∧ μ 12 2 = zi (D 2 2) ∧ μ 12 3 = zi (D 2 3) ∧ μ 12 4 = zi (D 2 4) ∧ μ 12 5 = zi (D 2 5))
  ∧ (∀ i, i < D 2 5 → μ 13 i = zi (D 3 i)) ∧ (∀ p, p < D 2 1 → μ 15 p = zi (D 5 p) ∧ ∀ q, q < D 2 0 → μ 14 (p * 4 + q) = zi (D (20 + p) q))
  ∧ (∀ p, p < 9 → μ 16 p = zi (D 6 p) ∧ μ 17 p = zi (D 7 p)) ∧ (∀ d, d < D 2 2 → μ 18 d = zi (D 8 d) ∧ μ 19 d = zi (D 9 d) ∧ μ 20 d = zi (D 10 d) ∧ μ 21 d = abo (D 11 d))
theorem XD_of {D : zN2} {μ μ' : zMem} (h : ∀ k, 12 ≤ k → k < 22 → μ' k = μ k) (hD : XD D μ) : XD D μ' := by
  unfold XD
  rw [h 12 (by decide) (by decide), h 13 (by decide) (by decide), h 14 (by decide) (by decide), h 15 (by decide) (by decide), h 16 (by decide) (by decide), h 17 (by decide) (by decide), h 18 (by decide) (by decide), h 19 (by decide) (by decide), h 20 (by decide) (by decide), h 21 (by decide) (by decide)]
  exact hD
theorem XD_22 {D : zN2} {μ : zMem} {j : Nat} {v : Int32} (hD : XD D μ) : XD D (zset μ 22 j v) := XD_of (fun k _ h => zset_nk (by omega)) hD
def DB (D : zN2) : Prop := TB D ∧ 0 < D 2 0 ∧ (∀ p q, D (20 + p) q ≤ 8) ∧ ∀ p, D 2 1 ≤ p → D 6 p = 0
/-! what the clauses do to the draft -/
def dPer (D : zN2) (f : Nat → Nat) (l : Nat) : zN2 := fun k j => if k = 2 ∧ j = 1 then D 2 1 + 1 else if k = 5 ∧ j = D 2 1 then l else if k = 20 + D 2 1 then f j else D k j
def dKin (D : zN2) (p o : Nat) : zN2 := nup (nup D 7 p (D 7 p ||| 2 ^ o)) 7 o (D 7 o ||| 2 ^ p)
def dDoor (D : zN2) (w m u b : Nat) : zN2 := fun k j => if k = 2 ∧ j = 2 then D 2 2 + 1 else if k = 8 ∧ j = D 2 2 then w else if k = 9 ∧ j = D 2 2 then m else if k = 10 ∧ j = D 2 2 then u else if k = 11 ∧ j = D 2 2 then b else D k j
def dSl (D : zN2) (n : Nat) (f : Nat → Nat) : zN2 := fun k j => if k = 2 ∧ j = 5 then n else if k = 3 then f j else D k j
def dF (c : Nat → Nat) (b n j : Nat) : Nat := if j < n then c (b + j) - 48 else 0
/-! what is read -/
def aPer (c : Nat → Nat) (N : Nat) (D : zN2) (a : Nat) : aS := match aDig c N 9 (D 2 0) (D 2 0) a with
  | .inl q => .inl q
  | .inr (b, e) => match aNum c N 0 5 1000000 e with
    | .inl q => .inl q
    | .inr (v, e2) => .inr (e2, dPer D (dF c b (D 2 0)) v)
def aFei (c : Nat → Nat) (N : Nat) (D : zN2) (a : Nat) : aS := match aNum c N 0 (D 2 1) 1000000 a with
  | .inl q => .inl q
  | .inr (p, e) => match aNum c N 0 10 1000000 e with
    | .inl q => .inl q
    | .inr (v, e2) => .inr (e2, nup D 6 p v)
def aKin (c : Nat → Nat) (N : Nat) (D : zN2) (a : Nat) : aS := match aNum c N 0 (D 2 1) 1000000 a with
  | .inl q => .inl q
  | .inr (p, e) => match aNum c N 0 (D 2 1) p e with
    | .inl q => .inl q
    | .inr (o, e2) => .inr (e2, dKin D p o)
def aAbo (c : Nat → Nat) (N : Nat) (D : zN2) (e : Nat) : aR := if (decide (bl9 c N e < N) && isD c (bl9 c N e)) = true then (match aNum c N 0 (D 2 0) 1000000 (bl9 c N e) with
  | .inl q => .inl q
  | .inr (v, e2) => .inr (v + 1, e2)) else .inr (0, bl9 c N e)
def aDoor (c : Nat → Nat) (N : Nat) (D : zN2) (a : Nat) : aS := match aNum c N 1 100 1000000 a with
  | .inl q => .inl q
  | .inr (w, e) => match aNum c N 1 241 1000000 e with
    | .inl q => .inl q
    | .inr (m, e2) => match aNum c N 0 30 1000000 e2 with
      | .inl q => .inl q
      | .inr (u, e3) => match aAbo c N D e3 with
        | .inl q => .inl q
        | .inr (b, e4) => .inr (e4, dDoor D w m u b)
def aGap (c : Nat → Nat) (N : Nat) (D : zN2) (a : Nat) : aS := match aNum c N 1 9 1000000 a with
  | .inl q => .inl q
  | .inr (v, e) => .inr (e, nup D 2 3 v)
def aDay (c : Nat → Nat) (N : Nat) (D : zN2) (a : Nat) : aS := match aNum c N 30 1000 1000000 a with
  | .inl q => .inl q
  | .inr (v, e) => .inr (e, nup D 2 4 v)
def aSla (c : Nat → Nat) (N : Nat) (D : zN2) (a : Nat) : aS := match aDig c N (D 2 0) 1 7 a with
  | .inl q => .inl q
  | .inr (b, e) => .inr (e, dSl D (e - b) (dF c b (e - b)))
/-! the class -/
def rfX (μ μ' : zMem) : Prop := (∀ k, (k < 12 ∨ 22 < k) → μ' k = μ k) ∧ μ' 22 2 = μ 22 2
theorem rfX.refl {μ : zMem} : rfX μ μ := ⟨fun _ _ => rfl, rfl⟩
theorem rfX.trans {μ μ' μ'' : zMem} (h : rfX μ μ') (h' : rfX μ' μ'') : rfX μ μ'' := ⟨fun k hk => (h'.1 k hk).trans (h.1 k hk), h'.2.trans h.2⟩
theorem rfX.set {μ μ' : zMem} {k j : Nat} {v : Int32} (h : rfX μ μ') (hk : 12 ≤ k ∧ k ≤ 22) (hj : ¬ (k = 22 ∧ j = 2)) : rfX μ (zset μ' k j v) :=
  ⟨fun k' hk' => by rw [zset_nk (by omega)]; exact h.1 k' hk', by rw [zset_at, if_neg (by omega)]; exact h.2⟩
theorem rfX.w {k p : Nat} {μ μ1 μ' : zMem} (h : rfX μ μ1) (hw : xW k p μ1 μ') : rfX μ μ' := by
  obtain ⟨y, rfl⟩ := hw
  exact ((h.set (by decide) (by decide)).set (by decide) (by decide)).set (by decide) (by decide)
theorem rfX.tx {c : Nat → Nat} {N : Nat} {μ μ' : zMem} (h : rfX μ μ') (hc : tx c N μ) : tx c N μ' := ⟨hc.1, fun j hj => by rw [h.1 1 (by decide)]; exact hc.2 j hj⟩
def xO (r : aS) (x : Int32) (μ μ' : zMem) : Prop := rfX μ μ' ∧ match r with
  | .inl (k, p) => x = zi 0 ∧ μ' 22 4 = zi k ∧ μ' 22 5 = zi p
  | .inr (e, D') => x = zi 1 ∧ XD D' μ' ∧ μ' 22 3 = zi e ∧ μ' 22 4 = zi 0
theorem xO_w {k p : Nat} {x : Int32} {μ μ1 μ' : zMem} (h : rfX μ μ1) (hx : x = zi 0) (hw : xW k p μ1 μ') : xO (.inl (k, p)) x μ μ' := by
  refine ⟨h.w hw, hx, ?_, ?_⟩
  · obtain ⟨y, rfl⟩ := hw
    rw [zset_nj (by decide), zset_eq]
  · obtain ⟨y, rfl⟩ := hw
    rw [zset_eq]
theorem xW_4 {k p : Nat} {μ μ' : zMem} (h : xW k p μ μ') : μ' 22 4 = zi k := by
  obtain ⟨y, rfl⟩ := h
  rw [zset_nj (by decide), zset_eq]
theorem xW_5 {k p : Nat} {μ μ' : zMem} (h : xW k p μ μ') : μ' 22 5 = zi p := by
  obtain ⟨y, rfl⟩ := h
  rw [zset_eq]
theorem xW_k {k p key : Nat} {μ μ' : zMem} (h : xW k p μ μ') (hk : key ≠ 22) : μ' key = μ key := by
  obtain ⟨y, rfl⟩ := h
  rw [zset_nk hk, zset_nk hk, zset_nk hk]
theorem hle {H : Nat} {x : Int32} (h : x = zi H - zi 1) (hH : H < 200000) : ∀ v, v ≤ 100000 → (zi v ≤ x) = (v < H) := fun v hv => by
  apply propext
  rw [h, Int32.le_iff_toInt_le, zI_sub (by rw [zi_int (by omega), zi_int (by omega)]; omega) (by rw [zi_int (by omega), zi_int (by omega)]; omega), zi_int (by omega), zi_int (by omega), zi_int (by omega)]
  omega
theorem zne {k : Nat} (h : 0 < k) (h' : k < 10) : ¬ zi k = (0 : Int32) := by rw [show (0 : Int32) = zi 0 from rfl, zi_eq (by omega) (by omega)]; omega
theorem x_perL {c : Nat → Nat} {N b Q P : Nat} {μ : zMem} (hc : tx c N μ) (hQ : Q ≤ 4) (hP : P < 8) (h0 : μ 12 0 = zi Q) (h1 : μ 12 1 = zi P) (hb : b + Q ≤ N) (hd : ∀ i, i < Q → 48 ≤ c (b + i) ∧ c (b + i) ≤ 57) (K : zMem → zRes) :
    ∃ μ', f3_readPerson_L49 (zi b) K zF (zi 0) μ = K μ' ∧ (∀ q, q < Q → μ' 14 (P * 4 + q) = zi (c (b + q) - 48)) ∧ (∀ j, j < P * 4 → μ' 14 j = μ 14 j) ∧ zfr (fun k => k = 14) μ μ' := by
  have hN := hc.1
  obtain ⟨μ', e1, e2, e3, e4⟩ := zloopE (L := fun n i (x : zMem) => f3_readPerson_L49 (zi b) K n (zi i) x) (N := Q) (o := fun x => K x)
    (fun i x => (∀ q, q < i → x 14 (P * 4 + q) = zi (c (b + q) - 48)) ∧ (∀ j, j < P * 4 → x 14 j = μ 14 j) ∧ zfr (fun k => k = 14) μ x)
    (fun n x hx => by
      show f3_readPerson_L49 (zi b) K (n + 1) (zi Q) x = _
      rw [f3_readPerson_L49, hx.2.2 12 (by decide), h0, if_pos (Int32.le_refl _)])
    (fun n i x hi hx => by
      obtain ⟨x1, x2, x3⟩ := hx
      have hdi := hd i hi
      refine ⟨zset x 14 (P * 4 + i) (zi (c (b + i) - 48)), ?_, fun q hq => ?_, fun j hj => ?_, x3.set rfl⟩
      · show f3_readPerson_L49 (zi b) K (n + 1) (zi i) x = _
        rw [f3_readPerson_L49, x3 12 (by decide), h0, h1, if_neg (show ¬ zi Q ≤ zi i from by rw [zi_le (by omega) (by omega)]; omega), zi_add, zin_i (by omega) (by omega), show (4 : Int32) = zi 4 from rfl, zi_mul, zi_add, zin_i (by omega) (by omega), zlet_e, zi_cl (by omega), zi_cl (by omega), x3 1 (by decide), (hc.2 (b + i) (by omega)).2, show (48 : Int32) = zi 48 from rfl, zi_sub (by omega), show zi i + (1 : Int32) = zi (i + 1) from zi_add i 1]
      · by_cases e : q = i
        · rw [e, zset_eq]
        · rw [zset_nj (by omega)]; exact x1 q (by omega)
      · rw [zset_nj (by omega)]; exact x2 j hj)
    Q 0 μ zF (by omega) (by unfold zF; omega) ⟨fun q hq => absurd hq (by omega), fun _ _ => rfl, fun _ _ => rfl⟩
  exact ⟨μ', e1, e2, e3, e4⟩
theorem x_person {c : Nat → Nat} {N a : Nat} {D : zN2} {μ : zMem} (hc : tx c N μ) (hA : xA N a μ) (h4 : μ 22 4 = zi 0) (hB : DB D) (hD : XD D μ) (hP : D 2 1 < 8) : ∃ x μ', f3_readPerson μ = some (0, x, μ') ∧ xO (aPer c N D a) x μ μ' := by
  have hN := hc.1
  have hQ := hB.1.1
  have b0 : ∀ A, zbl (zi 0) A = A := fun A => zbl_0
  have b1 : ∀ A, zbl (zi 1) A = A := fun A => zbl_1
  obtain ⟨k1, k2⟩ := bl9_sp (c := c) hA.2.2
  obtain ⟨d1, d2, d3⟩ := de9_sp (c := c) k2
  unfold f3_readPerson aPer
  rw [x_readDigits hc hA]
  unfold aDig
  by_cases e : de9 c N (bl9 c N a) = bl9 c N a
  · rw [if_pos e, if_pos e, bnd0_ok, zset_nj (by decide), zset_eq, if_neg (zne (by decide) (by decide))]
    exact ⟨zi 0, _, rfl, xO_w rfX.refl rfl ⟨_, rfl⟩⟩
  · rw [if_neg e, if_neg e, bnd0_ok, zset_nj (by decide), h4, if_pos (show zi 0 = (0 : Int32) from rfl), zlet_e, zset_eq, zset_nk (by decide), hD.1.1, zi_sub d1]
    have ew : ∀ μ1 : zMem, bnd0 (f3_wrong (2 : Int32) (zi (bl9 c N a)) μ1) (fun (v6 : Int32) (μ7 : zMem) => zbl v6 (some (0, v6, μ7))) = some (0, zi 0, zset (zset μ1 22 4 (zi 2)) 22 5 (zi (bl9 c N a))) := fun μ1 => by
      show bnd0 (f3_wrong (zi 2) (zi (bl9 c N a)) μ1) _ = _
      rw [x_wrong, bnd0_ok, b0]
    have tx1 : tx c N (zset μ 22 3 (zi (de9 c N (bl9 c N a)))) := tx_22 hc
    by_cases en : de9 c N (bl9 c N a) - bl9 c N a = D 2 0
    · rw [if_pos (by rw [en]), x_areDigits (G := 9) tx1 zset_eq d1 d2 d3 (fun v hv => by rw [show (8 : Int32) = zi 8 from rfl, zi_le (by omega) (by omega)]; apply propext; omega), bnd0_ok]
      cases ok : okD c (bl9 c N a) (de9 c N (bl9 c N a) - bl9 c N a) 9
      · rw [if_pos (show zi (b01 false) = (0 : Int32) from rfl), if_neg (fun q => absurd q.1 (by decide))]
        refine ⟨zi 0, _, ew _, xO_w rfX.refl rfl ⟨_, rfl⟩⟩
      · rw [if_neg (show ¬ zi (b01 true) = (0 : Int32) from by decide), if_pos ⟨rfl, by omega, by omega⟩]
        have hD1 : XD D (zset μ 22 3 (zi (de9 c N (bl9 c N a)))) := XD_22 hD
        obtain ⟨μ1, l1, l2, l3, l4⟩ := x_perL (b := bl9 c N a) (Q := D 2 0) (P := D 2 1) tx1 hQ hP hD1.1.1 hD1.1.2.1 (by omega) (fun i hi => d3 _ (by omega) (by omega)) (fun (μ20 : zMem) => bnd0 (f3_readNumber (0 : Int32) (4 : Int32) μ20) (fun (v21 : Int32) (μ22 : zMem) => zin (μ20 12 1) 9 (zlet (zset μ22 15 (μ20 12 1).toNatClampNeg v21) (fun (μ24 : zMem) => zlet (zset μ24 12 1 ((μ24 12 1) + (1 : Int32))) (fun (μ25 : zMem) => zlet (fun (s26 : Int32) => zbl s26 (some (0, s26, μ25))) (fun j27 => if (μ25 22 4) = 0 then j27 (1 : Int32) else j27 (0 : Int32)))))))
        have g22 : μ1 22 = zset μ 22 3 (zi (de9 c N (bl9 c N a))) 22 := l4 22 (by decide)
        have f1 : rfX μ μ1 := ⟨fun k hk => by rw [l4 k (by omega), zset_nk (by omega)], by rw [g22, zset_nj (by decide)]⟩
        have tx2 := f1.tx hc
        have hA2 : xA N (de9 c N (bl9 c N a)) μ1 := ⟨by rw [f1.2]; exact hA.1, by rw [g22, zset_eq], d2⟩
        have h42 : μ1 22 4 = zi 0 := by rw [g22, zset_nj (by decide)]; exact h4
        obtain ⟨x, μ2, n1, n2⟩ := x_number (lo := 0) (H := 5) (x2 := (4 : Int32)) tx2 hA2 h42 (by decide) (hle (by rfl) (by decide))
        have e12 : μ1 12 1 = zi (D 2 1) := by rw [l4 12 (by decide)]; exact hD1.1.2.1
        have run : f3_readPerson_L49 (zi (bl9 c N a)) (fun (μ20 : zMem) => bnd0 (f3_readNumber (0 : Int32) (4 : Int32) μ20) (fun (v21 : Int32) (μ22 : zMem) => zin (μ20 12 1) 9 (zlet (zset μ22 15 (μ20 12 1).toNatClampNeg v21) (fun (μ24 : zMem) => zlet (zset μ24 12 1 ((μ24 12 1) + (1 : Int32))) (fun (μ25 : zMem) => zlet (fun (s26 : Int32) => zbl s26 (some (0, s26, μ25))) (fun j27 => if (μ25 22 4) = 0 then j27 (1 : Int32) else j27 (0 : Int32))))))) zF (0 : Int32) (zset μ 22 3 (zi (de9 c N (bl9 c N a)))) = zlet (zset μ2 15 (D 2 1) x) (fun (μ24 : zMem) => zlet (zset μ24 12 1 ((μ24 12 1) + (1 : Int32))) (fun (μ25 : zMem) => zlet (fun (s26 : Int32) => zbl s26 (some (0, s26, μ25))) (fun j27 => if (μ25 22 4) = 0 then j27 (1 : Int32) else j27 (0 : Int32)))) := by
          refine l1.trans ?_
          show bnd0 (f3_readNumber (zi 0) (4 : Int32) μ1) _ = _
          rw [n1, bnd0_ok, e12, zin_i (by omega) (by omega), zi_cl (by omega)]
        show ∃ x μ', f3_readPerson_L49 _ _ _ _ _ = _ ∧ _
        rw [run, zlet_e, zlet_e, zlet_e]
        dsimp only
        rcases hn : aNum c N 0 5 1000000 (de9 c N (bl9 c N a)) with ⟨k, p⟩ | ⟨v, e2⟩
        · rw [hn] at n2
          obtain ⟨n3, n4⟩ := n2
          have hk := (aNum_l d2 hn).1
          rw [show zset (zset μ2 15 (D 2 1) x) 12 1 (zset μ2 15 (D 2 1) x 12 1 + (1 : Int32)) 22 4 = zi k from by rw [zset_nk (by decide), zset_nk (by decide)]; exact xW_4 n4, if_neg (zne (by omega) (by omega))]
          refine ⟨zi 0, _, b0 _, (((f1.w n4).set (by decide) (by omega)).set (by decide) (by decide)), rfl, ?_, ?_⟩
          · rw [zset_nk (by decide), zset_nk (by decide)]; exact xW_4 n4
          · rw [zset_nk (by decide), zset_nk (by decide)]; exact xW_5 n4
        · rw [hn] at n2
          obtain ⟨n3, n4⟩ := n2
          subst n3 n4
          have hz : zset (zset (zset μ1 22 3 (zi e2)) 15 (D 2 1) (zi v)) 12 1 (zset (zset μ1 22 3 (zi e2)) 15 (D 2 1) (zi v) 12 1 + (1 : Int32)) 22 4 = zi 0 := by rw [zset_nk (by decide), zset_nk (by decide), zset_nj (by decide)]; exact h42
          rw [hz, if_pos (show zi 0 = (0 : Int32) from rfl)]
          refine ⟨zi 1, _, b1 _, (((f1.set (by decide) (by decide)).set (by decide) (by omega)).set (by decide) (by decide)), rfl, ?_, ?_, hz⟩
          · have e12' : zset (zset μ1 22 3 (zi e2)) 15 (D 2 1) (zi v) 12 1 = zi (D 2 1) := by rw [zset_nk (by decide), zset_nk (by decide)]; exact e12
            rw [e12', show zi (D 2 1) + (1 : Int32) = zi (D 2 1 + 1) from zi_add _ 1]
            obtain ⟨⟨D1, D2, D3, D4, D5, D6⟩, E2, E3, E4, E5⟩ := hD
            have g : ∀ k, k ≠ 14 → k ≠ 22 → μ1 k = μ k := fun k h1 h2 => by rw [l4 k h1, zset_nk h2]
            have r : ∀ k j, ¬ (k = 2 ∧ j = 1) → ¬ (k = 5 ∧ j = D 2 1) → k ≠ 20 + D 2 1 → dPer D (dF c (bl9 c N a) (D 2 0)) v k j = D k j := fun k j h1 h2 h3 => by unfold dPer; rw [if_neg h1, if_neg h2, if_neg h3]
            have r21 : dPer D (dF c (bl9 c N a) (D 2 0)) v 2 1 = D 2 1 + 1 := if_pos ⟨rfl, rfl⟩
            refine ⟨⟨?_, ?_, ?_, ?_, ?_, ?_⟩, fun i hi => ?_, fun p hp => ⟨?_, fun q hq => ?_⟩, fun p hp => ⟨?_, ?_⟩, fun d hd => ⟨?_, ?_, ?_, ?_⟩⟩
            · rw [r 2 0 (by omega) (by omega) (by omega), zset_nj (by decide), zset_nk (by decide), zset_nk (by decide), g 12 (by decide) (by decide)]; exact D1
            · rw [r21, zset_eq]
            · rw [r 2 2 (by omega) (by omega) (by omega), zset_nj (by decide), zset_nk (by decide), zset_nk (by decide), g 12 (by decide) (by decide)]; exact D3
            · rw [r 2 3 (by omega) (by omega) (by omega), zset_nj (by decide), zset_nk (by decide), zset_nk (by decide), g 12 (by decide) (by decide)]; exact D4
            · rw [r 2 4 (by omega) (by omega) (by omega), zset_nj (by decide), zset_nk (by decide), zset_nk (by decide), g 12 (by decide) (by decide)]; exact D5
            · rw [r 2 5 (by omega) (by omega) (by omega), zset_nj (by decide), zset_nk (by decide), zset_nk (by decide), g 12 (by decide) (by decide)]; exact D6
            · rw [r 2 5 (by omega) (by omega) (by omega)] at hi
              rw [r 3 i (by omega) (by omega) (by omega), zset_nk (by decide), zset_nk (by decide), zset_nk (by decide), g 13 (by decide) (by decide)]; exact E2 i hi
            · rw [r21] at hp
              rw [zset_nk (by decide)]
              by_cases ep : p = D 2 1
              · rw [ep, zset_eq]
                unfold dPer
                rw [if_neg (by omega), if_pos ⟨rfl, rfl⟩]
              · rw [zset_nj ep, zset_nk (by decide), g 15 (by decide) (by decide), r 5 p (by omega) (by omega) (by omega)]; exact (E3 p (by omega)).1
            · rw [r21] at hp
              rw [r 2 0 (by omega) (by omega) (by omega)] at hq
              rw [zset_nk (by decide), zset_nk (by decide), zset_nk (by decide)]
              by_cases ep : p = D 2 1
              · rw [ep, l2 q hq]
                unfold dPer
                rw [if_neg (by omega), if_neg (by omega), if_pos rfl, show dF c (bl9 c N a) (D 2 0) q = c (bl9 c N a + q) - 48 from if_pos hq]
              · rw [l3 _ (by omega), zset_nk (by decide), r (20 + p) q (by omega) (by omega) (by omega)]; exact (E3 p (by omega)).2 q hq
            · rw [r 6 p (by omega) (by omega) (by omega), zset_nk (by decide), zset_nk (by decide), zset_nk (by decide), g 16 (by decide) (by decide)]; exact (E4 p hp).1
            · rw [r 7 p (by omega) (by omega) (by omega), zset_nk (by decide), zset_nk (by decide), zset_nk (by decide), g 17 (by decide) (by decide)]; exact (E4 p hp).2
            · rw [r 2 2 (by omega) (by omega) (by omega)] at hd
              rw [r 8 d (by omega) (by omega) (by omega), zset_nk (by decide), zset_nk (by decide), zset_nk (by decide), g 18 (by decide) (by decide)]; exact (E5 d hd).1
            · rw [r 2 2 (by omega) (by omega) (by omega)] at hd
              rw [r 9 d (by omega) (by omega) (by omega), zset_nk (by decide), zset_nk (by decide), zset_nk (by decide), g 19 (by decide) (by decide)]; exact (E5 d hd).2.1
            · rw [r 2 2 (by omega) (by omega) (by omega)] at hd
              rw [r 10 d (by omega) (by omega) (by omega), zset_nk (by decide), zset_nk (by decide), zset_nk (by decide), g 20 (by decide) (by decide)]; exact (E5 d hd).2.2.1
            · rw [r 2 2 (by omega) (by omega) (by omega)] at hd
              rw [r 11 d (by omega) (by omega) (by omega), zset_nk (by decide), zset_nk (by decide), zset_nk (by decide), g 21 (by decide) (by decide)]; exact (E5 d hd).2.2.2
          · rw [zset_nk (by decide), zset_nk (by decide), zset_eq]
    · rw [if_neg (by rw [zi_eq (by omega) (by omega)]; exact en), if_neg (fun q => by omega)]
      exact ⟨zi 0, _, ew _, xO_w rfX.refl rfl ⟨_, rfl⟩⟩
