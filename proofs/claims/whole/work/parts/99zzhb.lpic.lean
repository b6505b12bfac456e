/-! THE LAW'S WALK, 4: its picture: the reference 0 .. 1133, out 1134, the class 1135 and on; the script is a constant -/
def zrl (sh : zSh) : Prop := ∀ j r, sh.2.2.2 j = some r → r < 1134
theorem zl_zn {a b c : Nat} : zrl (a, b, c, zn) := fun j r h => by cases (show (none : Option Nat) = some r from h)
theorem zl_zrw {a b c N B : Nat} (h : B + N ≤ 1134) : zrl (a, b, c, zrw N B) := fun j r q => by
  have q : (if j < N then some (B + j) else none) = some r := q
  by_cases hj : j < N
  · rw [if_pos hj] at q; cases q; omega
  · rw [if_neg hj] at q; cases q
theorem zl_m0 {a b c : Nat} : zrl (a, b, c, mR0) := fun j r q => by
  have h1 : ∀ j, j < 60 → (mR0 j).all (fun r => decide (r < 1134)) = true := by decide +kernel
  have q : mR0 j = some r := q
  rcases Nat.lt_or_ge j 60 with hj | hj
  · have h2 := h1 j hj
    rw [q] at h2
    exact of_decide_eq_true h2
  · obtain ⟨i, rfl⟩ := Nat.exists_eq_add_of_le hj
    have h3 : mR0 (i + 60) = none := rfl
    rw [Nat.add_comm 60 i, h3] at q
    cases q
theorem zSMl_ok : ∀ sh ∈ SMl, zrl sh := List.forall_mem_cons.mpr ⟨zl_m0, List.forall_mem_cons.mpr ⟨zl_zn, List.forall_mem_cons.mpr ⟨zl_zn, List.forall_mem_cons.mpr ⟨zl_zn, List.forall_mem_cons.mpr ⟨zl_zn, List.forall_mem_cons.mpr ⟨(zl_zrw (by decide)), List.forall_mem_cons.mpr ⟨zl_zn, List.forall_mem_cons.mpr ⟨zl_zn, List.forall_mem_cons.mpr ⟨zl_zn, List.forall_mem_cons.mpr ⟨zl_zn, List.forall_mem_cons.mpr ⟨zl_zn, List.forall_mem_cons.mpr ⟨zl_zn, List.forall_mem_cons.mpr ⟨zl_zn, List.forall_mem_cons.mpr ⟨zl_zn, List.forall_mem_cons.mpr ⟨(zl_zrw (by decide)), List.forall_mem_cons.mpr ⟨zl_zn, List.forall_mem_cons.mpr ⟨zl_zn, List.forall_mem_cons.mpr ⟨zl_zn, List.forall_mem_cons.mpr ⟨zl_zn, List.forall_mem_cons.mpr ⟨zl_zn, List.forall_mem_cons.mpr ⟨zl_zn, List.forall_mem_cons.mpr ⟨zl_zn, List.forall_mem_cons.mpr ⟨zl_zn, List.forall_mem_cons.mpr ⟨zl_zn, List.forall_mem_cons.mpr ⟨(zl_zrw (by decide)), List.forall_mem_cons.mpr ⟨zl_zn, List.forall_mem_cons.mpr ⟨zl_zn, List.forall_mem_cons.mpr ⟨zl_zn, List.forall_mem_cons.mpr ⟨zl_zn, List.forall_mem_cons.mpr ⟨zl_zn, List.forall_mem_cons.mpr ⟨zl_zn, List.forall_mem_cons.mpr ⟨zl_zn, List.forall_mem_cons.mpr ⟨zl_zn, List.forall_mem_cons.mpr ⟨zl_zn, List.forall_mem_cons.mpr ⟨zl_zn, List.forall_mem_cons.mpr ⟨(zl_zrw (by decide)), List.forall_mem_cons.mpr ⟨zl_zn, List.forall_mem_cons.mpr ⟨zl_zn, List.forall_mem_cons.mpr ⟨zl_zn, List.forall_mem_cons.mpr ⟨zl_zn, List.forall_mem_cons.mpr ⟨zl_zn, List.forall_mem_cons.mpr ⟨zl_zn, List.forall_mem_cons.mpr ⟨zl_zn, List.forall_mem_cons.mpr ⟨zl_zn, List.forall_mem_cons.mpr ⟨zl_zn, List.forall_mem_cons.mpr ⟨zl_zn, List.forall_mem_cons.mpr ⟨zl_zn, List.forall_mem_cons.mpr ⟨zl_zn, List.forall_mem_cons.mpr ⟨zl_zn, List.forall_mem_cons.mpr ⟨zl_zn, List.forall_mem_cons.mpr ⟨(zl_zrw (by decide)), List.forall_mem_cons.mpr ⟨zl_zn, List.forall_mem_cons.mpr ⟨zl_zn, List.forall_mem_cons.mpr ⟨zl_zn, List.forall_mem_cons.mpr ⟨zl_zn, List.forall_mem_cons.mpr ⟨zl_zn, List.forall_mem_cons.mpr ⟨zl_zn, List.forall_mem_cons.mpr ⟨zl_zn, List.forall_mem_cons.mpr ⟨zl_zn, List.forall_mem_cons.mpr ⟨zl_zn, List.forall_mem_cons.mpr ⟨(zl_zrw (by decide)), List.forall_mem_cons.mpr ⟨zl_zn, List.forall_mem_cons.mpr ⟨zl_zn, List.forall_mem_cons.mpr ⟨zl_zn, List.forall_mem_cons.mpr ⟨zl_zn, List.forall_mem_cons.mpr ⟨zl_zn, List.forall_mem_cons.mpr ⟨zl_zn, List.forall_mem_cons.mpr ⟨zl_zn, List.forall_mem_cons.mpr ⟨zl_zn, List.forall_mem_cons.mpr ⟨zl_zn, List.forall_mem_cons.mpr ⟨zl_zn, List.forall_mem_cons.mpr ⟨zl_zn, List.forall_mem_cons.mpr ⟨zl_zn, List.forall_mem_cons.mpr ⟨zl_zn, List.forall_mem_cons.mpr ⟨zl_zn, List.forall_mem_cons.mpr ⟨zl_zn, List.forall_mem_cons.mpr ⟨zl_zn, List.forall_mem_cons.mpr ⟨zl_zn, List.forall_mem_cons.mpr ⟨zl_zn, List.forall_mem_cons.mpr ⟨zl_zn, List.forall_mem_cons.mpr ⟨zl_zn, List.forall_mem_cons.mpr ⟨zl_zn, List.forall_mem_cons.mpr ⟨zl_zn, List.forall_mem_cons.mpr ⟨zl_zn, List.forall_mem_cons.mpr ⟨zl_zn, List.forall_mem_cons.mpr ⟨zl_zn, List.forall_mem_cons.mpr ⟨zl_zn, List.forall_mem_cons.mpr ⟨zl_zn, List.forall_mem_cons.mpr ⟨zl_zn, List.forall_mem_cons.mpr ⟨zl_zn, List.forall_mem_cons.mpr ⟨zl_zn, List.forall_mem_cons.mpr ⟨zl_zn, List.forall_mem_cons.mpr ⟨zl_zn, List.forall_mem_cons.mpr ⟨(zl_zrw (by decide)), List.forall_mem_cons.mpr ⟨zl_zn, List.forall_mem_cons.mpr ⟨zl_zn, List.forall_mem_cons.mpr ⟨zl_zn, List.forall_mem_cons.mpr ⟨(zl_zrw (by decide)), List.forall_mem_cons.mpr ⟨zl_zn, List.forall_mem_cons.mpr ⟨zl_zn, List.forall_mem_cons.mpr ⟨(zl_zrw (by decide)), fun _ h => absurd h List.not_mem_nil⟩⟩⟩⟩⟩⟩⟩⟩⟩⟩⟩⟩⟩⟩⟩⟩⟩⟩⟩⟩⟩⟩⟩⟩⟩⟩⟩⟩⟩⟩⟩⟩⟩⟩⟩⟩⟩⟩⟩⟩⟩⟩⟩⟩⟩⟩⟩⟩⟩⟩⟩⟩⟩⟩⟩⟩⟩⟩⟩⟩⟩⟩⟩⟩⟩⟩⟩⟩⟩⟩⟩⟩⟩⟩⟩⟩⟩⟩⟩⟩⟩⟩⟩⟩⟩⟩⟩⟩⟩⟩⟩⟩⟩⟩⟩⟩⟩⟩⟩⟩⟩
theorem zSMh_ok : ∀ sh ∈ SMh, zrl sh := List.forall_mem_cons.mpr ⟨zl_zn, List.forall_mem_cons.mpr ⟨zl_zn, List.forall_mem_cons.mpr ⟨zl_zn, List.forall_mem_cons.mpr ⟨zl_zn, List.forall_mem_cons.mpr ⟨zl_zn, List.forall_mem_cons.mpr ⟨zl_zn, List.forall_mem_cons.mpr ⟨zl_zn, List.forall_mem_cons.mpr ⟨zl_zn, List.forall_mem_cons.mpr ⟨zl_zn, fun _ h => absurd h List.not_mem_nil⟩⟩⟩⟩⟩⟩⟩⟩⟩
theorem zrl_get {l : List zSh} (h : ∀ sh ∈ l, zrl sh) (k : Nat) : zrl (l.getD k (3, 0, 0, zn)) := by
  rw [List.getD_eq_getElem?_getD]
  cases hk : l[k]? with
  | none => exact zl_zn
  | some sh => exact h sh (List.mem_of_getElem? hk)
theorem zwfM : zWf 1134 SM := by
  intro k j r _ h
  unfold SM at h
  by_cases h1 : k < 101
  · rw [if_pos h1] at h; exact zrl_get zSMl_ok k j r h
  · rw [if_neg h1] at h
    by_cases h2 : k < 1125
    · rw [if_pos h2] at h; cases (show (none : Option Nat) = some r from h)
    · rw [if_neg h2] at h; exact zrl_get zSMh_ok _ j r h
def SL (g : Bool) : Nat → zSh := fun k => if k < 1134 then SM k else zshf 1134 (zSW g (k - 1134))
def ML (μM : zMem) (f : Nat → Int32) (μX : zMem) : zMem := fun k => if k < 1134 then μM k else zMW f μX (k - 1134)
theorem zrh_0 (k : Nat) : zrh 0 k = k := by
  unfold zrh
  by_cases h : k < 1000000
  · rw [if_pos h, Nat.zero_add]
  · rw [if_neg h]
theorem zsh_map {h h' : Nat → Nat} {a b c : Nat} {r : Nat → Option Nat} (q : ∀ j x, r j = some x → h x = h' x) : ((a, b, c, fun j => (r j).map h) : zSh) = (a, b, c, fun j => (r j).map h') := by
  have e : (fun j => (r j).map h) = (fun j => (r j).map h') := by
    funext j
    cases hj : r j with
    | none => rfl
    | some x => exact congrArg some (q j x hj)
  rw [e]
theorem zshf_0 (sh : zSh) : zshf 0 sh = sh := by
  obtain ⟨a, b, c, r⟩ := sh
  have e : (fun j => (r j).map (zrh 0)) = r := by
    funext j
    cases r j with
    | none => rfl
    | some x => exact congrArg some (zrh_0 x)
  show (a, b, c, fun j => (r j).map (zrh 0)) = _
  rw [e]
theorem zshf_2 {sh : zSh} (h : ∀ j r, sh.2.2.2 j = some r → r < 1000) : zshf 1134 (zshf 1 sh) = zshf 1135 sh := by
  obtain ⟨a, b, c, r⟩ := sh
  have e : (fun j => ((r j).map (zrh 1)).map (zrh 1134)) = (fun j => (r j).map (zrh 1135)) := by
    funext j
    cases hj : r j with
    | none => rfl
    | some x =>
      have hx := h j x hj
      show some (zrh 1134 (zrh 1 x)) = some (zrh 1135 x)
      unfold zrh
      rw [if_pos (show x < 1000000 by omega), if_pos (by omega), if_pos (by omega)]
      congr 1
      omega
  show (a, b, c, fun j => ((r j).map (zrh 1)).map (zrh 1134)) = _
  rw [e]
  rfl
theorem SL_subM {g : Bool} {μM : zMem} {f : Nat → Int32} {μX : zMem} : zSub 0 1134 SM μM (SL g) (ML μM f μX) := by
  intro k hk
  unfold SL ML
  rw [Nat.zero_add, if_pos hk, if_pos hk, zshf_0]
  exact ⟨rfl, rfl⟩
theorem SL_subW {g : Bool} {μM : zMem} {f : Nat → Int32} {μX : zMem} : zSub 1134 (1 + nX g) (zSW g) (zMW f μX) (SL g) (ML μM f μX) := by
  intro k hk
  unfold SL ML
  rw [if_neg (by omega), if_neg (by omega), Nat.add_sub_cancel_left]
  exact ⟨rfl, rfl⟩
theorem SL_X {g : Bool} {k : Nat} (hk : k < nX g) : SL g (1135 + k) = zshf 1135 (SX g k) := by
  have hg := nX_le g
  unfold SL
  rw [if_neg (by omega), show 1135 + k - 1134 = 1 + k by omega]
  unfold zSW
  rw [if_neg (by omega), Nat.add_sub_cancel_left]
  exact zshf_2 (fun j r h => by have := zwfG g k j r hk h; omega)
theorem ML_X {μM : zMem} {f : Nat → Int32} {μX : zMem} {k : Nat} : ML μM f μX (1135 + k) = μX k := by
  unfold ML
  rw [if_neg (by omega), show 1135 + k - 1134 = 1 + k by omega]
  unfold zMW
  rw [if_neg (by omega), Nat.add_sub_cancel_left]
theorem SL_subX {g : Bool} {μM : zMem} {f : Nat → Int32} {μX : zMem} : zSub 1135 (nX g) (SX g) μX (SL g) (ML μM f μX) := fun k hk => ⟨SL_X hk, ML_X⟩
theorem zshf_ref {B j r : Nat} {sh : zSh} (h : (zshf B sh).2.2.2 j = some r) : ∃ q, sh.2.2.2 j = some q ∧ zrh B q = r := by
  have h2 : (sh.2.2.2 j).map (zrh B) = some r := h
  cases h3 : sh.2.2.2 j with
  | none => rw [h3] at h2; cases h2
  | some q => rw [h3] at h2; exact ⟨q, rfl, Option.some.inj h2⟩
theorem SL_wf (g : Bool) : zWf (1135 + nX g) (SL g) := by
  intro k j r hk h
  have hg := nX_le g
  unfold SL at h
  by_cases h1 : k < 1134
  · rw [if_pos h1] at h
    have := zwfM k j r h1 h
    omega
  · rw [if_neg h1] at h
    obtain ⟨q, h3, h4⟩ := zshf_ref h
    have h5 := zSW_wf g (k - 1134) j q (by omega) h3
    unfold zrh at h4
    rw [if_pos (by omega)] at h4
    omega
theorem put_M {g : Bool} {μM μM' : zMem} {f : Nat → Int32} {μX : zMem} : ∀ k, k < 1135 + nX g → zputS 0 1134 SM (SL g) k = SL g k ∧ zputM 0 1134 μM' (ML μM f μX) k = ML μM' f μX k := by
  intro k hk
  unfold zputS zputM
  by_cases h : k < 1134
  · rw [if_pos (by omega), if_pos (by omega), Nat.sub_zero, zshf_0]
    unfold SL ML
    rw [if_pos h, if_pos h]
    exact ⟨rfl, rfl⟩
  · rw [if_neg (by omega), if_neg (by omega)]
    unfold SL ML
    rw [if_neg h, if_neg h, if_neg h]
    exact ⟨rfl, rfl⟩
theorem put_W {g g' : Bool} {μM : zMem} {f f' : Nat → Int32} {μX μX' : zMem} : ∀ k, k < 1135 + nX g' → zputS 1134 (1 + nX g') (zSW g') (SL g) k = SL g' k ∧ zputM 1134 (1 + nX g') (zMW f' μX') (ML μM f μX) k = ML μM f' μX' k := by
  intro k hk
  unfold zputS zputM
  by_cases h : k < 1134
  · rw [if_neg (by omega), if_neg (by omega)]
    unfold SL ML
    rw [if_pos h, if_pos h, if_pos h, if_pos h]
    exact ⟨rfl, rfl⟩
  · rw [if_pos (by omega), if_pos (by omega)]
    unfold SL ML
    rw [if_neg h, if_neg h]
    exact ⟨rfl, rfl⟩
theorem put_X {g : Bool} {μM : zMem} {f : Nat → Int32} {μX μX' : zMem} : ∀ k, k < 1135 + nX g → zputS 1135 (nX g) (SX g) (SL g) k = SL g k ∧ zputM 1135 (nX g) μX' (ML μM f μX) k = ML μM f μX' k := by
  intro k hk
  unfold zputS zputM
  by_cases h : k < 1135
  · rw [if_neg (by omega), if_neg (by omega)]
    refine ⟨rfl, ?_⟩
    unfold ML
    by_cases h1 : k < 1134
    · rw [if_pos h1, if_pos h1]
    · rw [if_neg h1, if_neg h1]
      unfold zMW
      rw [if_pos (by omega), if_pos (by omega)]
  · rw [if_pos (by omega), if_pos (by omega)]
    obtain ⟨i, rfl⟩ := Nat.exists_eq_add_of_le (show 1135 ≤ k by omega)
    rw [Nat.add_sub_cancel_left, ML_X, SL_X (by omega)]
    exact ⟨rfl, rfl⟩
def zLoc (i : Int32) (a b : Value) : List Value := [.ref 6000000, .ref 1135, .ref 0, .ref 1134, .int i, a, b]
theorem zLoc_ok {g : Bool} {i : Int32} {a b : Value} (ha : ∀ q, a ≠ .ref q) (hb : ∀ q, b ≠ .ref q) : ∀ v ∈ zLoc i a b, ∀ q, v = .ref q → q < 1135 + nX g ∨ 1000000 ≤ q := by
  have hg := nX_le g
  unfold zLoc
  exact List.forall_mem_cons.mpr ⟨by rw [zltEq]; omega, List.forall_mem_cons.mpr ⟨by rw [zltEq]; omega, List.forall_mem_cons.mpr ⟨by rw [zltEq]; omega, List.forall_mem_cons.mpr ⟨by rw [zltEq]; omega, List.forall_mem_cons.mpr ⟨(fun q e => by cases e), List.forall_mem_cons.mpr ⟨fun q e => absurd e (ha q), List.forall_mem_cons.mpr ⟨fun q e => absurd e (hb q), fun _ h => absurd h List.not_mem_nil⟩⟩⟩⟩⟩⟩⟩
abbrev zLaw (len : Nat) (sc : Nat → Int32) (pc : Nat) (L st : List Value) (g : Bool) (μM : zMem) (f : Nat → Int32) (μX : zMem) (ca cb : Nat) : Prop := zLW len sc yL_law cL_law 7 (some .boolean) 2048 pc L st (1135 + nX g) (SL g) (ML μM f μX) ca cb
theorem L_one {x : Int32} : ∀ w ∈ ([.int x] : List Value), ∀ q, w = .ref q → False := List.forall_mem_cons.mpr ⟨(fun q e => by cases e), fun _ h => absurd h List.not_mem_nil⟩
section LCALL
variable {len : Nat} {sc : Nat → Int32} {pc idx na nL' d' a1 b1 ca cb ca' cb' I : Nat} {L st stk As : List Value} {g g' : Bool} {μM μM' : zMem} {f f' : Nat → Int32} {μX μX' : zMem} {y' : MethodName} {cc' : ByteArray} {hh : List (Nat × Nat × Nat × Nat)} {i v w : Int32} {a b : Value} {r : zRes}
theorem L_wrap (hw : zCwr hh RL idx y' cc' nL' (some .int) na) (hM : zMH hh y' cc' nL' (some .int) d' As (1 + nX g) (zSW g) (zMW f μX) (.inl (some (.int v)), 1 + nX g', zSW g', zMW f' μX', a1, b1)) (hd : d' + 1 ≤ 2048) (hn : As.length = na) (hs : stk = (As.map (zvr 1134)).reverse ++ []) (hgg : g = g' ∨ g = false) (h1 : ca + a1 ≤ ca') (h2 : cb + b1 ≤ cb') (dg : decode cL_law pc = .ok (.invokestatic idx, 3))
    (k : zLaw len sc (pc + 3) (zLoc i .null .null) [.int v] g' μM f' μX' ca cb) : zLaw len sc pc (zLoc i .null .null) stk g μM f μX ca' cb' := by
  have hg := nX_le g
  have hg' := nX_le g'
  have hle : nX g ≤ nX g' := by
    rcases hgg with rfl | rfl
    · exact Nat.le_refl _
    · exact hg'.1
  refine yA_more h1 h2 ?_
  refine yA_callFW (B := 1134) (st := []) (As := As) (n := 1 + nX g) (n1 := 1 + nX g') (S1 := zSW g') (μ1 := zMW f' μX') (v := some (.int v)) hw hM (fun q e => by cases e) hd hn hs (by decide) SL_subW (by omega) (SL_wf g) (by omega) (Or.inr (by omega)) (by omega) (zSW_wf g') (zLoc_ok (fun q e => by cases e) (fun q e => by cases e)) (fun v hv => absurd hv List.not_mem_nil) dg ?_
  rw [show 1135 + nX g + (1 + nX g' - (1 + nX g)) = 1135 + nX g' by omega]
  exact yA_congr put_W k
theorem L_ref (hw : zCv RL idx y' cc' nL' (some .int) na 9) (hM : zMR y' cc' nL' (some .int) d' (.ref 0 :: As) 1134 SM μM r) (hr : r = some (0, v, μM')) (hd : d' + 1 ≤ 2048) (hn : As.length = na) (hs : stk = (As.map (zvr 0)).reverse ++ .ref (0 + 0) :: st) (ha : ∀ q, a ≠ .ref q) (hb : ∀ q, b ≠ .ref q) (hst : ∀ w ∈ st, ∀ q, w = .ref q → False) (hrm : (st.map (fun v => v.category)).sum ≤ 8) (dg : decode cL_law pc = .ok (.invokevirtual idx, 3))
    (k : zLaw len sc (pc + 3) (zLoc i a b) (.int v :: st) g μM' f μX ca cb) : zLaw len sc pc (zLoc i a b) stk g μM f μX ca cb := by
  have hg := nX_le g
  refine yA_callFV (B := 0) (b := 0) (st := st) (As := As) (n := 1134) (n1 := 1134) (S := SM) (μ := μM) (S1 := SM) (μ1 := μM') (v := some (.int v)) (a1 := 0) (b1 := 0) (ca := ca) (cb := cb) hw (zMR_ok hM hr) (fun q e => by cases e) hd (by decide) sm_0 hn hs hrm SL_subM (by omega) (SL_wf g) (Nat.le_refl _) (Or.inl rfl) (by omega) zwfM (zLoc_ok ha hb) (fun w hw q e => absurd e (fun e => hst w hw q e)) dg ?_
  rw [Nat.sub_self, Nat.add_zero]
  exact yA_congr put_M k
theorem L_cls (hw : zCv RL idx y' cc' nL' (some .int) na 8) (hM : zMR y' cc' nL' (some .int) d' (.ref 0 :: As) (nX g) (SX g) μX r) (hr : r = some (0, v, μX')) (hd : d' + 1 ≤ 2048) (hn : As.length = na) (hs : stk = (As.map (zvr 1135)).reverse ++ .ref (1135 + 0) :: st) (hst : ∀ w ∈ st, ∀ q, w = .ref q → False) (hrm : (st.map (fun v => v.category)).sum ≤ 8) (dg : decode cL_law pc = .ok (.invokevirtual idx, 3))
    (k : zLaw len sc (pc + 3) (zLoc i .null .null) (.int v :: st) g μM f μX' ca cb) : zLaw len sc pc (zLoc i .null .null) stk g μM f μX ca cb := by
  have hg := nX_le g
  refine yA_callFV (B := 1135) (b := 0) (st := st) (As := As) (n := nX g) (n1 := nX g) (S := SX g) (μ := μX) (S1 := SX g) (μ1 := μX') (v := some (.int v)) (a1 := 0) (b1 := 0) (ca := ca) (cb := cb) hw (zMR_ok hM hr) (fun q e => by cases e) hd (by omega) (sx_0 g) hn hs hrm SL_subX (Nat.le_refl _) (SL_wf g) (Nat.le_refl _) (Or.inl rfl) (by omega) (zwfG g) (zLoc_ok (fun q e => by cases e) (fun q e => by cases e)) (fun w hw q e => absurd e (fun e => hst w hw q e)) dg ?_
  rw [Nat.sub_self, Nat.add_zero]
  exact yA_congr put_X k
theorem L_in {k : Nat} (hI : I + 7 ≤ len) (hl : len ≤ 3584) (hk : k < 7) : vp_in (zi (I + k)) len ∧ (zi (I + k)).toNatClampNeg = I + k := by
  have e1 : (zi (I + k)).toNatClampNeg = I + k := zi_cl (by omega)
  refine ⟨?_, e1⟩
  unfold vp_in
  rintro (h | h)
  · have h : zi (I + k) < zi 0 := h
    rw [zi_lt (by omega) (by omega)] at h
    omega
  · rw [e1] at h
    omega
theorem L_arg {k : Nat} {z : Int} (hI : I + 7 ≤ len) (hl : len ≤ 3584) (hk : k < 7) (d0 : decode cL_law pc = .ok (.aload_n 0, 1)) (d1 : decode cL_law (pc + 1) = .ok (.iload 4, 2)) (d3 : decode cL_law (pc + 1 + 2) = .ok (.iconst z, 1)) (hz : Int32.ofInt z = zi k) (d4 : decode cL_law (pc + 1 + 2 + 1) = .ok (.iadd, 1)) (d5 : decode cL_law (pc + 1 + 2 + 1 + 1) = .ok (.iaload, 1))
    (kk : zLaw len sc (pc + 6) (zLoc (zi I) a b) (.int (sc (I + k)) :: st) g μM f μX ca cb) : zLaw len sc pc (zLoc (zi I) a b) st g μM f μX ca cb := by
  obtain ⟨h1, h2⟩ := L_in hI hl hk
  refine yA_aload_n d0 rfl ?_
  refine yA_iload d1 rfl ?_
  refine yA_iconst (zi k) d3 hz ?_
  refine yA_iadd d4 ?_
  rw [zi_add]
  refine yA_sld h1 d5 ?_
  rw [h2]
  exact kk
theorem L_arg6 {k : Nat} {z : Int} (hI : I + 7 ≤ len) (hl : len ≤ 3584) (hk : k < 7) (d0 : decode cL_law pc = .ok (.aload_n 0, 1)) (d1 : decode cL_law (pc + 1) = .ok (.iload 4, 2)) (d3 : decode cL_law (pc + 1 + 2) = .ok (.bipush z, 2)) (hz : (Int8.ofInt z).toInt32 = zi k) (d4 : decode cL_law (pc + 1 + 2 + 2) = .ok (.iadd, 1)) (d5 : decode cL_law (pc + 1 + 2 + 2 + 1) = .ok (.iaload, 1))
    (kk : zLaw len sc (pc + 7) (zLoc (zi I) a b) (.int (sc (I + k)) :: st) g μM f μX ca cb) : zLaw len sc pc (zLoc (zi I) a b) st g μM f μX ca cb := by
  obtain ⟨h1, h2⟩ := L_in hI hl hk
  refine yA_aload_n d0 rfl ?_
  refine yA_iload d1 rfl ?_
  refine yA_bipush (zi k) d3 hz ?_
  refine yA_iadd d4 ?_
  rw [zi_add]
  refine yA_sld h1 d5 ?_
  rw [h2]
  exact kk
/-- the end of a case with a wrapper, in the law's code -/
def zTl (P : Nat) : Prop := decode cL_law P = .ok (.istore 6, 2) ∧ decode cL_law (P + 2) = .ok (.aload_n 2, 1) ∧ decode cL_law (P + 3) = .ok (.invokevirtual 140, 3) ∧ decode cL_law (P + 6) = .ok (.iload 5, 2) ∧ decode cL_law (P + 8) = .ok (.if_icmp .eq 5, 3) ∧ decode cL_law (P + 13) = .ok (.iload 5, 2) ∧ decode cL_law (P + 15) = .ok (.ifCond .ne 15, 3) ∧ decode cL_law (P + 18) = .ok (.aload_n 3, 1) ∧ decode cL_law (P + 19) = .ok (.iconst 0, 1) ∧ decode cL_law (P + 20) = .ok (.laload, 1) ∧ decode cL_law (P + 21) = .ok (.iload 6, 2) ∧ decode cL_law (P + 23) = .ok (.i2l, 1) ∧ decode cL_law (P + 24) = .ok (.lcmp, 1) ∧ decode cL_law (P + 25) = .ok (.ifCond .eq 5, 3) ∧ ∃ off : Int, decode cL_law (P + 30) = .ok (.goto off, 3) ∧ ((P + 30 : Nat) : Int) + off = ((2685 : Nat) : Int)
theorem L_end {kx : Value} (hk : kx.category = 1) {z : Value} (k : zLaw len sc pc (zLoc i .null .null) st g μM f μX ca cb) : zLaw len sc pc (zLoc i kx z) st g μM f μX ca cb := by
  refine yA_locals (L' := zLoc i .null .null) (fun j v hj hv => ?_) k
  match j, hj with
  | 0, hj => exact hj
  | 1, hj => exact hj
  | 2, hj => exact hj
  | 3, hj => exact hj
  | 4, hj => exact hj
  | 5, hj => exact absurd (Option.some.inj hj).symm hv
  | 6, hj => exact absurd (Option.some.inj hj).symm hv
  | j + 7, hj => exact nomatch hj
theorem L_tail {P : Nat} {kx : Int32} (hP : zTl P) (h0 : μM 0 0 = kx) (hv : kx = 0 → f 0 = w) (k : zLaw len sc 2685 (zLoc i .null .null) [] g μM f μX ca cb) : zLaw len sc P (zLoc i (.int kx) .null) [.int w] g μM f μX ca cb := by
  obtain ⟨d0, d2, d3, d6, d8, d13, d15, d18, d19, d20, d21, d23, d24, d25, off, d30, ht⟩ := hP
  have hg := nX_le g
  have fin : ∀ z : Value, zLaw len sc (P + 30) (zLoc i (.int kx) z) [] g μM f μX ca cb := fun z => yA_goto (tgt := 2685) d30 ht (L_end rfl k)
  refine yA_istore (pc := P) (L' := zLoc i (.int kx) (.int w)) d0 (by decide) rfl ?_
  refine yA_aload_n (pc := P + 2) d2 rfl ?_
  refine L_ref (pc := P + 2 + 1) (As := []) (st := []) (v := kx) (μM' := μM) kvL_140 (t9_thrown μM) (by unfold f9_thrown; rw [h0]) (by decide) rfl rfl (fun q e => by cases e) (fun q e => by cases e) (fun w hw => absurd hw List.not_mem_nil) (by decide) d3 ?_
  refine yA_iload (pc := P + 6) d6 rfl ?_
  refine yA_icmp_eq_t (pc := P + 8) (tgt := P + 13) d8 (by omega) rfl ?_
  refine yA_iload (pc := P + 13) d13 rfl ?_
  by_cases hk : kx = 0
  · refine yA_if_ne_f (pc := P + 15) (tgt := P + 30) d15 (by omega) hk ?_
    refine yA_aload_n (pc := P + 18) d18 rfl ?_
    refine yA_iconst (pc := P + 19) (0 : Int32) d19 (by decide) ?_
    refine yA_lald (pc := P + 20) (a := 1134) (z := 1) (rf := fun j => (zn j).map (zrh 1134)) (by omega) rfl (by unfold vp_in; decide) d20 ?_
    rw [show ML μM f μX 1134 (0 : Int32).toNatClampNeg = w from hv hk]
    refine yA_iload (pc := P + 21) d21 rfl ?_
    refine yA_i2l (pc := P + 23) d23 ?_
    refine yA_lcmp0 (pc := P + 24) d24 ?_
    exact yA_if_eq_t (pc := P + 25) (tgt := P + 30) d25 (by omega) rfl (fin _)
  · exact yA_if_ne_t (pc := P + 15) (tgt := P + 30) d15 (by omega) hk (fin _)
end LCALL
theorem cI_cases {e : Nat} (h : 0 < cI e) : e = 1 := by
  unfold cI at h
  by_cases a : e = 1
  · exact a
  · rw [if_neg a] at h; omega
theorem cS_cases {e : Nat} (h : 0 < cS e) : e = 4 := by
  unfold cS at h
  by_cases a : e = 4
  · exact a
  · rw [if_neg a] at h; omega
theorem cNI_cases {e : Nat} (h : 0 < cNI e) : e = 2 ∨ e = 1 := by
  unfold cNI at h
  by_cases a : e = 2
  · exact Or.inl a
  · by_cases b : e = 1
    · exact Or.inr b
    · rw [if_neg a, if_neg b] at h; omega
theorem cBI_cases {e : Nat} (h : 0 < cBI e) : e = 3 ∨ e = 1 := by
  unfold cBI at h
  by_cases a : e = 3
  · exact Or.inl a
  · by_cases b : e = 1
    · exact Or.inr b
    · rw [if_neg a, if_neg b] at h; omega
theorem cBN_cases {e : Nat} (h : 0 < cBN e) : e = 3 ∨ e = 2 := by
  unfold cBN at h
  by_cases a : e = 3
  · exact Or.inl a
  · by_cases b : e = 2
    · exact Or.inr b
    · rw [if_neg a, if_neg b] at h; omega
theorem cIB_cases {e : Nat} (h : 0 < cIB e) : e = 1 ∨ e = 3 := by
  unfold cIB at h
  by_cases a : e = 1
  · exact Or.inl a
  · by_cases b : e = 3
    · exact Or.inr b
    · rw [if_neg a, if_neg b] at h; omega
theorem cBNI_cases {e : Nat} (h : 0 < cBNI e) : e = 3 ∨ e = 2 ∨ e = 1 := by
  unfold cBNI at h
  by_cases a : e = 3
  · exact Or.inl a
  · by_cases b : e = 2
    · exact Or.inr (Or.inl b)
    · by_cases c : e = 1
      · exact Or.inr (Or.inr c)
      · rw [if_neg a, if_neg b, if_neg c] at h; omega
theorem few_keep {μ : zMem} : ∀ k, k < 69 → cM1 69 70 (zup μ 69 (fun _ => 0)) k = μ k := by
  intro k hk
  unfold cM1 zset zup
  simp only [show ¬ k = 69 by omega, show ¬ k = 70 by omega, show ¬ k = 70 + 1 by omega, show ¬ k = 70 + 2 by omega, show ¬ k = 70 + 3 by omega, show ¬ k = 70 + 4 by omega, show ¬ k = 70 + 5 by omega, if_false]
theorem few_true {x y z v1 v5 v6 v : Int32} {μX μ9 : zMem} (k1 : fJ6_bitCount_0f7a4 x μX = some (0, v1, μX)) (k2 : ¬ x < 0) (k3 : ¬ zshl (1 : Int32) (μX 2 1) ≤ x) (k4 : ¬ v1 < (2 : Int32)) (k5 : v1 ≤ (4 : Int32)) (k6 : f8_needQuestion y μX = some (0, v5, μX)) (k7 : f8_needWhat z (1 : Int32) μX = some (0, v6, μX)) (b1 : fewT x y z μX = some (0, v, μ9)) : f8_few x y z μX = some (0, v, μ9) := by
  unfold f8_few
  rw [k1, bnd0_ok, zlet_e, if_neg k2, if_neg k3, if_neg k4, if_pos k5, k6, bnd_ok, k7, bnd_ok]
  exact b1
