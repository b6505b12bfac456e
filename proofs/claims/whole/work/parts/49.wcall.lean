/-! the call of a wrapper -/
theorem zMH_met {hh : List (Nat × Nat × Nat × Nat)} {y : MethodName} {cc : ByteArray} {nL : Nat} {ret : Option FieldType} {d : Nat} {avs : List Value} {n : Nat} {S : Nat → zSh} {μ : zMem} {o : zO} {v : Option Value} (ho : o.1 = .inl v) (h : zMH hh y cc nL ret d avs n S μ o) (l : Launch) (D : va_G) (tc adK adV σ : Nat → Nat) (sz : Nat) (hst : l.stackTraces = false) :
    Met l y (Cond.codeWith y cc nL ret hh :: zTb) (zRm d o.2.2.2.2.1 o.2.2.2.2.2) (zPc D tc adK adV σ avs n S μ sz) (zQc D (zA σ n sz) tc adK σ n o) o.2.2.2.2.1 o.2.2.2.2.2 (zA σ n sz) := by
  refine MetFree.mono (h l D tc adK adV σ sz hst) (fun _ _ h => h) (fun _ _ _ _ _ h => h) (fun a st oc t _ hq => ?_)
  rcases hq with hq | ⟨q, -, E, ce, L, hx, -⟩
  · exact hq
  · rw [hx.1.1] at ho
    cases ho
def zCwr (hh : List (Nat × Nat × Nat × Nat)) (own : String) (idx : Nat) (y : MethodName) (cc : ByteArray) (nL : Nat) (ret : Option FieldType) (na : Nat) : Prop :=
  Cond.codeWith y cc nL ret hh ∈ zTb ∧ Cond.initialized y.cls ∈ zTb ∧ nL ≤ 22 ∧ (y.cls ≠ "java/lang/invoke/MethodHandle" ∧ y.cls ≠ "java/lang/invoke/VarHandle" ∧ (parseMethodDescriptor y.desc).map (fun d => d.parameters.length) = some na) ∧ Cond.methodLink own idx y ∈ zTb ∧ Cond.static y ∈ zTb
section ZWC
variable {hh : List (Nat × Nat × Nat × Nat)} {y y' : MethodName} {cc cc' : ByteArray} {nL nL' : Nat} {ret ret' : Option FieldType} {d d' pc idx b ci na B a1 b1 : Nat} {L st stk As : List Value} {n n1 n2 n' : Nat} {S S1 S2 S' : Nat → zSh} {μ μ1 μ2 μ' : zMem} {res : Option Value ⊕ String} {ca cb : Nat} {v : Option Value}
theorem zA_callFW (hw : zCwr hh y.cls idx y' cc' nL' ret' na) (hM : zMH hh y' cc' nL' ret' d' As n S μ (.inl v, n1, S1, μ1, a1, b1)) (hv : ∀ q, v ≠ some (.ref q)) (hd : d' + 1 ≤ d) (hn : As.length = na) (hst9 : stk = (As.map (zvr B)).reverse ++ st) (hrm : (st.map (fun v => v.category)).sum ≤ 8)
    (hsub : zSub B n S μ S2 μ2) (hB : B + n ≤ n2) (hw2 : zWf n2 S2) (hn1 : n ≤ n1) (hg : n1 = n ∨ B + n = n2) (hm : n2 + (n1 - n) ≤ 1000000) (hw1 : zWf n1 S1) (hL : ∀ v ∈ L, ∀ q, v = .ref q → q < n2 ∨ 1000000 ≤ q) (hst : ∀ v ∈ st, ∀ q, v = .ref q → q < n2 ∨ 1000000 ≤ q) (dg : decode cc pc = .ok (.invokestatic idx, 3))
    (k : zAW y cc nL ret d (pc + 3) L (v.toList ++ st) (n2 + (n1 - n)) (zputS B n1 S1 S2) (zputM B n1 μ1 μ2) (res, n', S', μ', ca, cb)) : zAW y cc nL ret d (pc) L (stk) (n2) (S2) (μ2) (res, n', S', μ', ca + a1, cb + b1) := by
  intro p l e R s m args below meth c D A tc adK adV C σ0 n0 σ H locs ls cells slots mc ms hH hS hl hB9
  subst hst9
  obtain ⟨h1, h2, h3, h4, h5, h6⟩ := hw
  obtain ⟨hx, hbb, hml, hown, -, -, -, -, hts, hK, hA, hG, hstt, hfr, hlo⟩ := id C
  have hB' : cells + (ca + a1) ≤ mc ∧ slots + (cb + b1) ≤ ms ∧ mc ≤ R.cells ∧ ms ≤ R.slots := hB9
  have hMM := zMH_met (v := v) rfl hM l D tc adK adV (zsr σ B) H.size hstt
  have hpre : PreS s H (zPc D tc adK adV (zsr σ B) As n S μ H.size) (As.map (cv (zsr σ B))) := ⟨zPc_blind, fun U hU hW => z_preF C hH hS hsub (by omega) hB (avs := As) U hU hW⟩
  have hstk : (F0 m pc ls (((As.map (zvr B)).reverse ++ st).map (cv σ))).stack = (As.map (cv (zsr σ B))).reverse ++ st.map (cv σ) := by
    show ((As.map (zvr B)).reverse ++ st).map (cv σ) = _
    rw [zRmap, cv_zvrs]
  have hroom : (zRm d' a1 b1).frames + 1 ≤ R.frames ∧ 8 + (nL' + 11) + (zRm d' a1 b1).locals ≤ R.locals := ⟨Nat.le_trans hd hfr, by show 8 + (nL' + 11) + 41 * d' ≤ R.locals; omega⟩
  have hrun : va_Run p l e R s m args below meth c H locs cells slots a1 b1 (F0 m pc ls (((As.map (zvr B)).reverse ++ st).map (cv σ))) (st.map (cv σ)) (zQc D (zA (zsr σ B) n H.size) tc adK (zsr σ B) n (.inl v, n1, S1, μ1, a1, b1) (As.map (cv (zsr σ B))).toArray) (zA (zsr σ B) n H.size) := by
    have hgood : GoodIn zTb (va_wsS y.cls idx y' (Cond.codeWith y' cc' nL' ret' hh :: zTb)) := by
      intro w hw
      unfold va_wsS at hw
      rcases List.mem_append.mp hw with hw | hw
      · simp only [List.mem_cons, List.not_mem_nil, or_false] at hw
        rcases hw with rfl | rfl | rfl
        · exact zTb_good _ h5
        · exact zTb_good _ h6
        · exact zTb_good _ h2
      · rcases List.mem_cons.mp hw with rfl | hw
        · exact zTb_good _ h1
        · exact zTb_good _ hw
    exact vx_runSW ⟨hx, hbb, hml, hown, hts⟩ hMM (vx_cwSW na hts hgood rfl rfl rfl h4 hroom) hpre rfl (by rw [List.length_map, hn]) hl.1.1 hstk (zroom hrm) dg ⟨by omega, by omega⟩
  refine z_contF C hH hS hsub hB hw2 hv hn1 hg hm hw1 hrun (fun σ1 H1 locs1 hH1 hσ hS1 => ?_)
  have hsame : ∀ v : Value, (∀ q, v = .ref q → q < n2 ∨ 1000000 ≤ q) → cv σ1 v = cv σ v := fun v hv => by
    cases v <;> first | rfl | (rename_i q; rcases hv q rfl with h | h; exact congrArg Value.ref (hσ q h); exact congrArg Value.ref (by obtain ⟨j, rfl⟩ := Nat.exists_eq_add_of_le h; rw [hH1.2.1.2 j, hH.2.1.2 j]))
  have hl1 : zL σ1 nL L ls := by
    refine ⟨⟨hl.1.1, hl.1.2.1, fun x hx => ?_⟩, hl.2⟩
    obtain ⟨v, g1, g2, g3⟩ := zls_inv hx
    rw [g3, hsame v (hL v (List.mem_of_getElem? g1))]
    exact zL_at hl g1 g2
  have hst1 : (v.toList ++ st).map (cv σ1) = v.toList ++ st.map (cv σ) := by
    rw [List.map_append, List.map_congr_left (fun w hw => hsame w (hst w hw))]
    cases v with
    | none => rfl
    | some w => cases w <;> first | rfl | exact absurd rfl (hv _)
  have kk := (k p l e R s m args below meth c D A tc adK adV C σ0 n0 σ1 H1 locs1 ls (cells + a1) (slots + b1) mc ms hH1 hS1 hl1 ⟨by show cells + a1 + ca ≤ mc; omega, by show slots + b1 + cb ≤ ms; omega, hB9.2.2.1, hB9.2.2.2⟩)
  rw [hst1] at kk
  exact kk
end ZWC

