/-! FRAME: a call that sees a part of the caller's picture alone: its key k is the caller's B + k -/
def zrh (B k : Nat) : Nat := if k < 1000000 then B + k else k
def zshf (B : Nat) (sh : zSh) : zSh := (sh.1, sh.2.1, sh.2.2.1, fun j => (sh.2.2.2 j).map (zrh B))
def zvr (B : Nat) (v : Value) : Value := match v with
  | .ref q => .ref (zrh B q)
  | v => v
def zsr (σ : Nat → Nat) (B : Nat) : Nat → Nat := fun k => σ (zrh B k)
theorem cv_zvr {σ : Nat → Nat} {B : Nat} {v : Value} : cv σ (zvr B v) = cv (zsr σ B) v := by cases v <;> rfl
theorem cv_zvrs {σ : Nat → Nat} {B : Nat} {vs : List Value} : (vs.map (zvr B)).map (cv σ) = vs.map (cv (zsr σ B)) := by
  rw [List.map_map]
  exact List.map_congr_left (fun v _ => cv_zvr)
theorem zE_cg {σ σ' : Nat → Nat} {tc : Nat → ClassId} {sh : zSh} {f : Nat → Int32} (h : ∀ j r, sh.2.2.2 j = some r → σ r = σ' r) : zE σ tc sh f = zE σ' tc sh f := by
  have e : ∀ j, (sh.2.2.2 j).map σ = (sh.2.2.2 j).map σ' := by
    intro j
    cases hj : sh.2.2.2 j with
    | none => rfl
    | some r => exact congrArg some (h j r hj)
  have e2 : zFs σ sh.2.1 sh.2.2.2 f = zFs σ' sh.2.1 sh.2.2.2 f := by
    unfold zFs
    apply List.map_congr_left
    intro j _
    unfold zFld
    rw [e j]
  unfold zE
  rw [e2, funext e]
theorem zE_shf {σ : Nat → Nat} {tc : Nat → ClassId} {B : Nat} {sh : zSh} {f : Nat → Int32} : zE σ tc (zshf B sh) f = zE (zsr σ B) tc sh f := by
  have e : ∀ j, ((sh.2.2.2 j).map (zrh B)).map σ = (sh.2.2.2 j).map (zsr σ B) := by
    intro j
    cases sh.2.2.2 j <;> rfl
  have e2 : zFs σ sh.2.1 (zshf B sh).2.2.2 f = zFs (zsr σ B) sh.2.1 sh.2.2.2 f := by
    unfold zFs
    apply List.map_congr_left
    intro j _
    unfold zFld
    show (if zInt sh.2.1 j = true then _ else va_rf (((sh.2.2.2 j).map (zrh B)).map σ)) = _
    rw [e j]
  unfold zE
  show (if sh.1 = 0 then Sum.inr (sh.2.1, zFs σ sh.2.1 (zshf B sh).2.2.2 f) else if sh.1 = 1 then _ else if sh.1 = 3 then _ else (Sum.inl (tc sh.2.1, sh.2.2.1, .inr (.inr (.inr (.inr (fun j => ((sh.2.2.2 j).map (zrh B)).map σ))))) : va_E)) = _
  rw [e2, funext e]
  rfl
/-- the part of the picture that begins at B -/
def zSub (B n : Nat) (S : Nat → zSh) (μ : zMem) (S2 : Nat → zSh) (μ2 : zMem) : Prop := ∀ k, k < n → S2 (B + k) = zshf B (S k) ∧ μ2 (B + k) = μ k
def zputS (B n1 : Nat) (S1 S2 : Nat → zSh) : Nat → zSh := fun k => if B ≤ k ∧ k < B + n1 then zshf B (S1 (k - B)) else S2 k
def zputM (B n1 : Nat) (μ1 μ2 : zMem) : zMem := fun k => if B ≤ k ∧ k < B + n1 then μ1 (k - B) else μ2 k
theorem zW_sub {σ : Nat → Nat} {tc : Nat → ClassId} {B n k : Nat} {S S2 : Nat → zSh} {μ μ2 : zMem} (h : zSub B n S μ S2 μ2) (hm : n ≤ 1000000) (hk : k < n) : (zW (zsr σ B) tc n S μ)[k]? = some (σ (B + k), zE σ tc (S2 (B + k)) (μ2 (B + k))) := by
  rw [zW_get hk, (h k hk).1, (h k hk).2, zE_shf]
  show some (σ (zrh B k), _) = _
  unfold zrh
  rw [if_pos (by omega)]
section ZFRAME
variable {D : va_G} {A : Nat → Prop} {tc adK : Nat → Nat} {σ0 σ : Nat → Nat} {n0 n n2 B : Nat} {S S2 : Nat → zSh} {μ μ2 : zMem} {H : Heap}
theorem zsub_idx (h : zSub B n S μ S2 μ2) (hm : n2 ≤ 1000000) (hB : B + n ≤ n2) {k : Nat} {q : Nat × va_E} (hk : (zW (zsr σ B) tc n S μ)[k]? = some q) : k < n ∧ (zW σ tc n2 S2 μ2)[B + k]? = some q := by
  have h1 := (zW_inv hk).1
  refine ⟨h1, ?_⟩
  rw [zW_sub h (by omega) h1] at hk
  rw [zW_get (by omega)]
  exact hk
theorem zsub_P (h : zSub B n S μ S2 μ2) (hm : n2 ≤ 1000000) (hB : B + n ≤ n2) (hP : va_P D zCl (zW σ tc n2 S2 μ2) H) : va_P D zCl (zW (zsr σ B) tc n S μ) H := fun k q hk => hP (B + k) q (zsub_idx h hm hB hk).2
theorem zsub_D {A1 : Nat → Prop} (h : zSub B n S μ S2 μ2) (hm : n2 ≤ 1000000) (hB : B + n ≤ n2) (hD : va_D A1 (zW σ tc n2 S2 μ2)) : va_D A1 (zW (zsr σ B) tc n S μ) := by
  refine ⟨fun i j p q hi hj e => ?_, fun k q hk => hD.2 (B + k) q (zsub_idx h hm hB hk).2⟩
  have := hD.1 (B + i) (B + j) p q (zsub_idx h hm hB hi).2 (zsub_idx h hm hB hj).2 e
  omega
theorem zsub_A (h : zSub B n S μ S2 μ2) (hm : n2 ≤ 1000000) (hB : B + n ≤ n2) {sz : Nat} {q : Nat} (hq : zA (zsr σ B) n sz q) : (∃ k, k < n ∧ q = σ (B + k)) ∨ sz ≤ q := by
  rcases hq with ⟨k, h1, rfl⟩ | hq
  · refine Or.inl ⟨k, h1, ?_⟩
    show σ (zrh B k) = _
    unfold zrh
    rw [if_pos (by omega)]
  · exact Or.inr hq
def zsig (B n n1 : Nat) (σ σ1 : Nat → Nat) : Nat → Nat := fun k => if B + n ≤ k ∧ k < B + n1 then σ1 (k - B) else σ k
/-- behind the call: the caller's picture as it is then -/
theorem zframe (hsub : zSub B n S μ S2 μ2) (hB : B + n ≤ n2) (hw2 : zWf n2 S2) (hP : va_P D zCl (zW σ tc n2 S2 μ2) H) (hD : va_D A (zW σ tc n2 S2 μ2)) (hag : zAg σ0 n0 σ adK) (hn0 : n0 ≤ n2) (hnn : n2 = n0 → σ = σ0)
    {σ1 : Nat → Nat} {n1 : Nat} {S1 : Nat → zSh} {μ1 : zMem} {H1 : Heap} (hn : n ≤ n1) (hg : n1 = n ∨ B + n = n2) (hm : n2 + (n1 - n) ≤ 1000000) (hw1 : zWf n1 S1) (hk : ∀ q : Nat, q < H.size → ¬ zA (zsr σ B) n H.size q → H1[q]? = H[q]?) (hF : ∀ q, zA (zsr σ B) n H.size q → A q)
    (h : zHe D (zA (zsr σ B) n H.size) tc adK (zsr σ B) n σ1 n1 S1 μ1 H1) : (∀ k, k < n2 → zsig B n n1 σ σ1 k = σ k) ∧ n0 ≤ n2 + (n1 - n) ∧ zHe D A tc adK σ0 n0 (zsig B n n1 σ σ1) (n2 + (n1 - n)) (zputS B n1 S1 S2) (zputM B n1 μ1 μ2) H1 := by
  have hm2 : n2 ≤ 1000000 := by omega
  have hsig : ∀ k, k < n2 → zsig B n n1 σ σ1 k = σ k := fun k hk2 => by
    unfold zsig
    rw [if_neg (by omega)]
  have hin : ∀ i, i < n1 → zsig B n n1 σ σ1 (B + i) = σ1 i := fun i hi => by
    unfold zsig
    by_cases hc : n ≤ i
    · rw [if_pos (by omega), Nat.add_sub_cancel_left]
    · rw [if_neg (by omega), h.1.1 i (by omega)]
      show _ = σ (zrh B i)
      unfold zrh
      rw [if_pos (by omega)]
  have eIn : ∀ i, i < n1 → (zW (zsig B n n1 σ σ1) tc (n2 + (n1 - n)) (zputS B n1 S1 S2) (zputM B n1 μ1 μ2))[B + i]? = (zW σ1 tc n1 S1 μ1)[i]? := by
    intro i hi
    rw [zW_get (by omega), zW_get hi, hin i hi]
    have e1 : zputS B n1 S1 S2 (B + i) = zshf B (S1 i) := by unfold zputS; rw [if_pos (by omega), Nat.add_sub_cancel_left]
    have e2 : zputM B n1 μ1 μ2 (B + i) = μ1 i := by unfold zputM; rw [if_pos (by omega), Nat.add_sub_cancel_left]
    rw [e1, e2, zE_shf, zE_cg (σ' := σ1)]
    intro j r hr
    have hr1 := hw1 i j r hi hr
    show zsig B n n1 σ σ1 (zrh B r) = _
    unfold zrh
    rw [if_pos (by omega)]
    exact hin r hr1
  have eOut : ∀ k, k < n2 + (n1 - n) → ¬ (B ≤ k ∧ k < B + n1) → k < n2 ∧ (zW (zsig B n n1 σ σ1) tc (n2 + (n1 - n)) (zputS B n1 S1 S2) (zputM B n1 μ1 μ2))[k]? = (zW σ tc n2 S2 μ2)[k]? := by
    intro k hk1 hk2
    have hk3 : k < n2 := by omega
    refine ⟨hk3, ?_⟩
    rw [zW_get hk1, zW_get hk3, hsig k hk3]
    have e1 : zputS B n1 S1 S2 k = S2 k := by unfold zputS; rw [if_neg hk2]
    have e2 : zputM B n1 μ1 μ2 k = μ2 k := by unfold zputM; rw [if_neg hk2]
    rw [e1, e2, zE_cg (σ' := σ)]
    intro j r hr
    exact hsig r (hw2 k j r hk3 hr)
  have hap : ∀ k q, k < n2 → ¬ (B ≤ k ∧ k < B + n1) → (zW σ tc n2 S2 μ2)[k]? = some q → ¬ zA (zsr σ B) n H.size q.1 := by
    intro k q hk1 hk2 hq hz
    rcases zsub_A hsub hm2 hB hz with ⟨i, hi, e⟩ | hz
    · have := hD.1 k (B + i) q _ hq (zW_get (by omega)) e
      omega
    · have := (hP k q hq).lt
      omega
  have cas : ∀ k q, (zW (zsig B n n1 σ σ1) tc (n2 + (n1 - n)) (zputS B n1 S1 S2) (zputM B n1 μ1 μ2))[k]? = some q → (∃ i, i < n1 ∧ k = B + i ∧ (zW σ1 tc n1 S1 μ1)[i]? = some q) ∨ (k < n2 ∧ ¬ (B ≤ k ∧ k < B + n1) ∧ (zW σ tc n2 S2 μ2)[k]? = some q) := by
    intro k q hq
    have hk1 := (zW_inv hq).1
    by_cases hc : B ≤ k ∧ k < B + n1
    · obtain ⟨i, rfl⟩ := Nat.exists_eq_add_of_le hc.1
      rw [eIn i (by omega)] at hq
      exact Or.inl ⟨i, by omega, rfl, hq⟩
    · obtain ⟨h1, h2⟩ := eOut k hk1 hc
      rw [h2] at hq
      exact Or.inr ⟨h1, hc, hq⟩
  refine ⟨hsig, by omega, ⟨fun k hk1 => ?_, fun i => ?_⟩, fun k q hq => ?_, ⟨fun i j p q hi hj e => ?_, fun k q hq => ?_⟩, fun e => ?_⟩
  · rw [hsig k (by omega)]
    exact hag.1 k hk1
  · unfold zsig
    rw [if_neg (by omega)]
    exact hag.2 i
  · rcases cas k q hq with ⟨i, -, -, h1⟩ | ⟨h1, h2, h3⟩
    · exact h.2.1 i q h1
    · exact (hP k q h3).kept (hk q.1 (hP k q h3).lt (hap k q h1 h2 h3))
  · rcases cas i p hi with ⟨i1, a1, a2, a3⟩ | ⟨a1, a2, a3⟩
    · rcases cas j q hj with ⟨j1, b1, b2, b3⟩ | ⟨b1, b2, b3⟩
      · have := h.2.2.1.1 i1 j1 p q a3 b3 e
        omega
      · exact absurd (e ▸ h.2.2.1.2 i1 p a3) (hap j q b1 b2 b3)
    · rcases cas j q hj with ⟨j1, b1, b2, b3⟩ | ⟨b1, b2, b3⟩
      · exact absurd (e ▸ h.2.2.1.2 j1 q b3) (hap i p a1 a2 a3)
      · exact hD.1 i j p q a3 b3 e
  · rcases cas k q hq with ⟨i, -, -, h1⟩ | ⟨h1, h2, h3⟩
    · exact hF q.1 (h.2.2.1.2 i q h1)
    · exact hD.2 k q h3
  · have e1 : n1 = n := by omega
    have e2 : zsig B n n1 σ σ1 = σ := by
      funext k
      unfold zsig
      rw [if_neg (by omega)]
    rw [e2]
    exact hnn (by omega)
end ZFRAME
