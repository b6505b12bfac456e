/-! THE LAW'S WALK, 1: the keys of a picture may be named anew -/
def rsh (π : Nat → Nat) (sh : zSh) : zSh := (sh.1, sh.2.1, sh.2.2.1, fun j => (sh.2.2.2 j).map π)
def rvl (π : Nat → Nat) (v : Value) : Value := match v with
  | .ref k => .ref (π k)
  | w => w
theorem cv_rvl {σ π : Nat → Nat} {v : Value} : cv σ (rvl π v) = cv (fun k => σ (π k)) v := by cases v <;> rfl
theorem rvl_null {π : Nat → Nat} {v : Value} : rvl π v = .null ↔ v = .null := by cases v <;> simp [rvl]
theorem rvl_cat {π : Nat → Nat} {v : Value} : (rvl π v).category = v.category := by cases v <;> rfl
theorem zE_rsh {σ π : Nat → Nat} {tc : Nat → ClassId} {sh : zSh} {f : Nat → Int32} : zE σ tc (rsh π sh) f = zE (fun k => σ (π k)) tc sh f := by
  have e : ∀ j, ((sh.2.2.2 j).map π).map σ = (sh.2.2.2 j).map (fun k => σ (π k)) := by
    intro j
    cases sh.2.2.2 j <;> rfl
  have e2 : zFs σ sh.2.1 (rsh π sh).2.2.2 f = zFs (fun k => σ (π k)) sh.2.1 sh.2.2.2 f := by
    unfold zFs
    apply List.map_congr_left
    intro j _
    unfold zFld
    show (if zInt sh.2.1 j = true then _ else va_rf (((sh.2.2.2 j).map π).map σ)) = _
    rw [e j]
  unfold zE
  show (if sh.1 = 0 then Sum.inr (sh.2.1, zFs σ sh.2.1 (rsh π sh).2.2.2 f) else if sh.1 = 1 then _ else if sh.1 = 3 then _ else (Sum.inl (tc sh.2.1, sh.2.2.1, .inr (.inr (.inr (.inr (fun j => ((sh.2.2.2 j).map π).map σ))))) : va_E)) = _
  rw [e2, funext e]
  rfl
theorem zls_rvl {σ π : Nat → Nat} {L : List Value} : zls σ (L.map (rvl π)) = zls (fun k => σ (π k)) L := by
  unfold zls
  rw [List.length_map]
  congr 1
  funext i
  rw [List.getElem?_map]
  cases L[i]? with
  | none => rfl
  | some v => cases v <;> rfl
section ZPERM
variable {y : MethodName} {cc : ByteArray} {nL : Nat} {ret : Option FieldType} {d pc : Nat} {L st : List Value} {n n1 : Nat} {S S' S1 : Nat → zSh} {μ μ' μ1 : zMem} {ca cb : Nat} {π ρ : Nat → Nat} {v : Int32}
theorem zA_perm (h1 : ∀ k, ρ (π k) = k) (h2 : ∀ k, π (ρ k) = k) (hf : ∀ k, n ≤ k → π k = k) (hm : n ≤ 1000000) (hn1 : n ≤ n1) (hSM : ∀ k, k < n → S' (π k) = rsh π (S k) ∧ μ' (π k) = μ k)
    (k : zAW y cc nL ret d pc (L.map (rvl π)) (st.map (rvl π)) n S' μ' (.inl (some (.int v)), n1, S1, μ1, ca, cb)) :
    zAW y cc nL ret d pc L st n S μ (.inl (some (.int v)), n1, (fun k => rsh ρ (S1 (π k))), (fun k => μ1 (π k)), ca, cb) := by
  intro p l e R s m args below meth c D A tc adK adV C σ0 n0 σ H locs ls cells slots mc ms hH hS hl hB
  have hlt : ∀ q, q < n → π q < n := fun q hq => by
    by_cases e : π q < n
    · exact e
    · have := hf (π q) (by omega)
      have h3 := congrArg ρ this
      rw [h1, h1] at h3
      omega
  have hfr : ∀ q, n ≤ q → ρ q = q := fun q hq => by
    have := h1 q
    rw [hf q hq] at this
    exact this
  have hltr : ∀ q, q < n → ρ q < n := fun q hq => by
    by_cases e : ρ q < n
    · exact e
    · have := hf (ρ q) (by omega)
      rw [h2] at this
      omega
  have hlt1 : ∀ q, q < n1 → π q < n1 := fun q hq => by
    by_cases e : q < n
    · have := hlt q e; omega
    · rw [hf q (by omega)]; exact hq
  have es : (fun q => (fun j => σ (ρ j)) (π q)) = σ := by funext q; show σ (ρ (π q)) = σ q; rw [h1]
  obtain ⟨hn0, ⟨hg1, hg2⟩, hP, hD, hE⟩ := hH
  have idx : ∀ j q, (zW (fun j => σ (ρ j)) tc n S' μ')[j]? = some q → (zW σ tc n S μ)[ρ j]? = some q := fun j q hj => by
    obtain ⟨i1, i2⟩ := zW_inv hj
    rw [zW_get (hltr j i1), i2]
    have e3 := hSM (ρ j) (hltr j i1)
    rw [h2] at e3
    rw [e3.1, e3.2, zE_rsh, es]
  have hl' : zL (fun j => σ (ρ j)) nL (L.map (rvl π)) ls := by
    refine ⟨?_, fun w hw => ?_⟩
    · rw [zls_rvl, es]; exact hl.1
    · obtain ⟨w', hw', rfl⟩ := List.mem_map.mp hw
      rw [rvl_cat]; exact hl.2 w' hw'
  have hst : (st.map (rvl π)).map (cv (fun j => σ (ρ j))) = st.map (cv σ) := by
    rw [List.map_map]
    apply List.map_congr_left
    intro w _
    show cv (fun j => σ (ρ j)) (rvl π w) = _
    rw [cv_rvl, es]
  have run := k p l e R s m args below meth c D A tc adK adV C (fun j => σ (ρ j)) n (fun j => σ (ρ j)) H locs ls cells slots mc ms ⟨Nat.le_refl _, ⟨fun _ _ => rfl, fun i => by show σ (ρ (1000000 + i)) = _; rw [hfr _ (by omega)]; exact hg2 i⟩, fun j q hj => hP (ρ j) q (idx j q hj), ⟨fun i j p q hi hj ee => by
      have := hD.1 (ρ i) (ρ j) p q (idx i p hi) (idx j q hj) ee
      have h3 := congrArg π this
      rwa [h2, h2] at h3, fun j q hj => hD.2 (ρ j) q (idx j q hj)⟩, fun _ => rfl⟩ hS hl' hB
  rw [hst] at run
  intro T hT X
  obtain ⟨t, a1, o, b1, b2, b3⟩ := run T hT X
  refine ⟨t, a1, o, b1, b2, ?_⟩
  rcases b3 with ⟨⟨⟨σ1, w, w1, w2, ⟨⟨g1, g2⟩, w3, w5, w6⟩⟩, w4⟩, L9⟩ | ⟨q, q1, q2⟩
  · refine Or.inl ⟨⟨⟨fun k => σ1 (π k), some (.int v), rfl, ?_, ⟨⟨fun k hk => ?_, fun i => ?_⟩, ?_, ?_, fun e => ?_⟩⟩, w4⟩, L9⟩
    · have w1' : (some (Value.int v)) = w := by injection w1
      rw [w2, ← w1']; rfl
    · show σ1 (π k) = _
      rw [g1 (π k) (hlt k (by omega))]
      show σ (ρ (π k)) = _
      rw [h1]; exact hg1 k hk
    · show σ1 (π (1000000 + i)) = _
      rw [hf _ (by omega)]; exact g2 i
    · intro j q hj
      obtain ⟨i1, i2⟩ := zW_inv hj
      refine w3 (π j) q ?_
      rw [zW_get (hlt1 j i1), i2, zE_rsh]
      congr 4
      funext k; show σ1 k = σ1 (π (ρ k)); rw [h2]
    · have idx2 : ∀ j q, (zW (fun k => σ1 (π k)) tc n1 (fun k => rsh ρ (S1 (π k))) (fun k => μ1 (π k)))[j]? = some q → (zW σ1 tc n1 S1 μ1)[π j]? = some q := fun j q hj => by
        obtain ⟨i1, i2⟩ := zW_inv hj
        rw [zW_get (hlt1 j i1), i2, zE_rsh]
        congr 4
        funext k; show σ1 k = σ1 (π (ρ k)); rw [h2]
      exact ⟨fun i j p q hi hj ee => by
        have := w5.1 (π i) (π j) p q (idx2 i p hi) (idx2 j q hj) ee
        have h3 := congrArg ρ this
        rwa [h1, h1] at h3, fun j q hj => w5.2 (π j) q (idx2 j q hj)⟩
    · have e1 : n1 = n0 := e
      have e2 : n1 = n := by omega
      rw [show σ1 = _ from w6 e2]
      show (fun k => σ (ρ (π k))) = _
      rw [← hE (by omega)]
      funext k; rw [h1]
  · obtain ⟨E, ce, L9, ⟨⟨x1, -⟩, -⟩, -⟩ := q2
    cases x1
end ZPERM
