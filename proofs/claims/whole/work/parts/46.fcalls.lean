/-! FRAME CALLS: rules over zAW where the callee sees a part of the picture -/
section ZFC
variable {p : Program} {l : Launch} {e : Env} {R : Room} {s : State} {m : MethodId} {args : Array Value} {below : List Frame} {meth : Method} {c : Code} {D : va_G} {A : Nat → Prop} {tc adK adV : Nat → Nat} {σ0 σ : Nat → Nat} {n0 n n2 B : Nat} {S S2 : Nat → zSh} {μ μ2 : zMem} {H : Heap} {locs : List Loc} {cells slots : Nat} {Q : State → Prop}
variable {y : MethodName} {cc : ByteArray} {nL : Nat} {ret : Option FieldType} {d pc : Nat}
theorem z_freeF (C : zC y cc nL ret d p l R s m args meth c D A tc adK adV) (hH : n0 ≤ n2 ∧ zHe D A tc adK σ0 n0 σ n2 S2 μ2 H) (hS : va_S A s.heap H locs) (hsub : zSub B n S μ S2 μ2) (hm : n2 ≤ 1000000) (hB : B + n ≤ n2) : ∀ q, zA (zsr σ B) n H.size q → A q := by
  intro q hq
  rcases zsub_A hsub hm hB hq with ⟨k, h1, rfl⟩ | hq
  · exact hH.2.2.2.1.2 (B + k) _ (zW_get (by omega))
  · exact C.2.2.2.2.2.2.2.2.2.2.1 q (Nat.le_trans hS.1 hq)
theorem z_preF (C : zC y cc nL ret d p l R s m args meth c D A tc adK adV) (hH : n0 ≤ n2 ∧ zHe D A tc adK σ0 n0 σ n2 S2 μ2 H) (hS : va_S A s.heap H locs) (hsub : zSub B n S μ S2 μ2) (hm : n2 ≤ 1000000) (hB : B + n ≤ n2) {avs : List Value} : ∀ U : State, U.heap = H → s.WarmedH U.vm → zPc D tc adK adV (zsr σ B) avs n S μ H.size (avs.map (cv (zsr σ B))).toArray U := by
  intro U hU hW
  have hF := z_freeF C hH hS hsub hm hB
  obtain ⟨-, -, -, -, -, -, -, -, -, hK, hA, hG, -⟩ := C
  obtain ⟨-, hAg, hP, hD, -⟩ := hH
  refine ⟨rfl, by rw [hU], by rw [hU]; exact zsub_P hsub hm hB hP, va_K.moved hW.alike hK, (zsub_D hsub hm hB hD).weaken (fun _ _ _ _ => trivial), fun i => ?_, ?_⟩
  · show σ (zrh B (1000000 + i)) = _
    unfold zrh
    rw [if_neg (by omega)]
    exact hAg.2 i
  · rw [hU]
    exact ((hG.kept hS.2.1).narrow hF).warm hW
theorem z_contF (C : zC y cc nL ret d p l R s m args meth c D A tc adK adV) (hH : n0 ≤ n2 ∧ zHe D A tc adK σ0 n0 σ n2 S2 μ2 H) (hS : va_S A s.heap H locs) (hsub : zSub B n S μ S2 μ2) (hB : B + n ≤ n2) (hw2 : zWf n2 S2) {v : Option Value} (hv : ∀ q, v ≠ some (.ref q)) {n1 : Nat} {S1 : Nat → zSh} {μ1 : zMem} {a1 b1 : Nat} (hn : n ≤ n1) (hg : n1 = n ∨ B + n = n2) (hm : n2 + (n1 - n) ≤ 1000000) (hw1 : zWf n1 S1) {mc1 ms1 : Nat} {ls : Array Slot} {st0 rest : List Value} {a : Array Value}
    (hr : va_Run p l e R s m args below meth c H locs cells slots mc1 ms1 (F0 m pc ls st0) rest (zQc D (zA (zsr σ B) n H.size) tc adK (zsr σ B) n (.inl v, n1, S1, μ1, a1, b1) a) (zA (zsr σ B) n H.size))
    (kk : ∀ (σ2 : Nat → Nat) (H1 : Heap) (locs1 : List Loc), (n0 ≤ n2 + (n1 - n) ∧ zHe D A tc adK σ0 n0 σ2 (n2 + (n1 - n)) (zputS B n1 S1 S2) (zputM B n1 μ1 μ2) H1) → (∀ k, k < n2 → σ2 k = σ k) → va_S A s.heap H1 locs1 → W p l e R s m args below meth c H1 locs1 (cells + mc1) (slots + ms1) Q (F0 m (pc + 3) ls (v.toList ++ rest))) :
    W p l e R s m args below meth c H locs cells slots Q (F0 m pc ls st0) := by
  intro T hT X
  obtain ⟨v', st₀, t, T', L', h0, X', hL, e1, e2, ⟨⟨σ1, v1, hv1, hv2, hHe⟩, hF⟩, st⟩ := hr T hT X
  cases hv1
  cases hv2
  rw [← e1] at hHe
  have hfr := z_freeF C hH hS hsub (by omega) hB
  obtain ⟨k1, k2, k3⟩ := vx_keep h0 e1 hS (fun q _ h => hfr q h) (fun q h => hfr q h) hL hF
  obtain ⟨g1, g2, g3⟩ := zframe hsub hB hw2 hH.2.2.1 hH.2.2.2.1 hH.2.1 hH.1 hH.2.2.2.2 hn hg hm hw1 k2 hfr hHe
  have ev : (v.map (cv σ1)).toList = v.toList := by
    cases v with
    | none => rfl
    | some w => cases w <;> first | rfl | exact absurd rfl (hv _)
  obtain ⟨t2, a1, b1⟩ := kk _ T'.heap (locs ++ L') ⟨g2, g3⟩ g1 k3 T' rfl X'
  rw [← ev] at a1
  exact ⟨t2, st t2 a1, b1⟩
end ZFC
section ZFD
variable {y y' : MethodName} {cc cc' : ByteArray} {nL nL' : Nat} {ret ret' : Option FieldType} {d d' pc idx b ci na B a1 b1 : Nat} {L st stk As : List Value} {n n1 n2 n' : Nat} {S S1 S2 S' : Nat → zSh} {μ μ1 μ2 μ' : zMem} {res : Option Value ⊕ String} {ca cb : Nat} {v : Option Value}
theorem zA_callFV (hw : zCv y.cls idx y' cc' nL' ret' na ci) (hM : zM y' cc' nL' ret' d' (.ref b :: As) n S μ (.inl v, n1, S1, μ1, a1, b1)) (hv : ∀ q, v ≠ some (.ref q)) (hd : d' + 1 ≤ d) (hb : b < n) {z : Nat} {rf : Nat → Option Nat} (hs : S b = (0, ci, z, rf)) (hn : As.length = na) (hst9 : stk = (As.map (zvr B)).reverse ++ .ref (B + b) :: st) (hrm : (st.map (fun v => v.category)).sum ≤ 8)
    (hsub : zSub B n S μ S2 μ2) (hB : B + n ≤ n2) (hw2 : zWf n2 S2) (hn1 : n ≤ n1) (hg : n1 = n ∨ B + n = n2) (hm : n2 + (n1 - n) ≤ 1000000) (hw1 : zWf n1 S1) (hL : ∀ v ∈ L, ∀ q, v = .ref q → q < n2 ∨ 1000000 ≤ q) (hst : ∀ v ∈ st, ∀ q, v = .ref q → q < n2 ∨ 1000000 ≤ q) (dg : decode cc pc = .ok (.invokevirtual idx, 3))
    (k : zAW y cc nL ret d (pc + 3) L (v.toList ++ st) (n2 + (n1 - n)) (zputS B n1 S1 S2) (zputM B n1 μ1 μ2) (res, n', S', μ', ca, cb)) : zAW y cc nL ret d (pc) L (stk) (n2) (S2) (μ2) (res, n', S', μ', ca + a1, cb + b1) := by
  intro p l e R s m args below meth c D A tc adK adV C σ0 n0 σ H locs ls cells slots mc ms hH hS hl hB9
  subst hst9
  obtain ⟨⟨h1, h2, h3, h4, h5⟩, h6, h7, h8⟩ := hw
  obtain ⟨hx, hbb, hml, hown, -, -, -, -, hts, hK, hA, hG, hstt, hfr, hlo⟩ := id C
  have hB' : cells + (ca + a1) ≤ mc ∧ slots + (cb + b1) ≤ ms ∧ mc ≤ R.cells ∧ ms ≤ R.slots := hB9
  have hMM := zM_met (v := v) rfl hM l D tc adK adV (zsr σ B) H.size hstt
  obtain ⟨Q9, hQ9, hQc⟩ : ∃ Q9, zCl[ci]? = some Q9 ∧ Q9.1 = y'.cls := by
    cases hc9 : zCl[ci]? with
    | none => rw [hc9] at h8; cases h8
    | some Q9 => rw [hc9] at h8; exact ⟨Q9, rfl, Option.some.inj h8⟩
  have he := zW_get' (σ := zsr σ B) (tc := tc) (μ := μ) hb hs
  rw [zE_obj] at he
  have hrecv := va_recv hK (zsub_P hsub (by omega) hB hH.2.2.1) hQ9 he
  rw [hQc] at hrecv
  have hpre : PreV s H y'.cls (zsr σ B b) (zPc D tc adK adV (zsr σ B) (.ref b :: As) n S μ H.size) (As.map (cv (zsr σ B))) := ⟨zPc_blind, hrecv, fun U hU hW => z_preF C hH hS hsub (by omega) hB (avs := .ref b :: As) U hU hW⟩
  have hbb2 : zsr σ B b = σ (B + b) := by
    show σ (zrh B b) = _
    unfold zrh
    rw [if_pos (by omega)]
  have hstk : (F0 m pc ls (((As.map (zvr B)).reverse ++ Value.ref (B + b) :: st).map (cv σ))).stack = (As.map (cv (zsr σ B))).reverse ++ .ref (zsr σ B b) :: st.map (cv σ) := by
    show ((As.map (zvr B)).reverse ++ Value.ref (B + b) :: st).map (cv σ) = _
    rw [zRmap, cv_zvrs, hbb2]
    rfl
  have hroom : (zRm d' a1 b1).frames + 1 ≤ R.frames ∧ 8 + (nL' + 11) + (zRm d' a1 b1).locals ≤ R.locals := ⟨Nat.le_trans hd hfr, by show 8 + (nL' + 11) + 41 * d' ≤ R.locals; omega⟩
  have hrun : va_Run p l e R s m args below meth c H locs cells slots a1 b1 (F0 m pc ls (((As.map (zvr B)).reverse ++ Value.ref (B + b) :: st).map (cv σ))) (st.map (cv σ)) (zQc D (zA (zsr σ B) n H.size) tc adK (zsr σ B) n (.inl v, n1, S1, μ1, a1, b1) (Value.ref (zsr σ B b) :: As.map (cv (zsr σ B))).toArray) (zA (zsr σ B) n H.size) := by
    rcases h5 with h5 | ⟨host, h5⟩
    · exact va_runV ⟨hx, hbb, hml, hown, hts⟩ hMM ⟨callB_of na hts (zWs_good h1) rfl rfl rfl (hts _ h2) (hts _ h5) h4 hroom, hts _ h6, hts _ h7⟩ hpre rfl (by rw [List.length_map, hn]) hl.1.1 hstk (zroom hrm) dg ⟨by omega, by omega⟩
    · exact va_runVN ⟨hx, hbb, hml, hown, hts⟩ hMM ⟨va_cnB na hts (zWs_good h1) rfl rfl rfl (hG.2.2.2.2.1 _ h5) (hts _ h2) h4 hroom, hts _ h6, hts _ h7⟩ hpre rfl (by rw [List.length_map, hn]) hl.1.1 hstk (zroom hrm) dg ⟨by omega, by omega⟩
  refine z_contF C hH hS hsub hB hw2 hv hn1 hg hm hw1 hrun (fun σ1 H1 locs1 hH1 hσ hS1 => ?_)
  have hsame : ∀ v : Value, (∀ q, v = .ref q → q < n2 ∨ 1000000 ≤ q) → cv σ1 v = cv σ v := fun v hv => by
    cases v <;> first | rfl | (rename_i q; rcases hv q rfl with h | h; exact congrArg Value.ref (hσ q h); exact congrArg Value.ref (by obtain ⟨j, rfl⟩ := Nat.exists_eq_add_of_le h; rw [hH1.2.1.2 j, hH.2.1.2 j]))
  have hl1 : zL σ1 nL L ls := by
    refine ⟨⟨hl.1.1, hl.1.2.1, fun x hx => ?_⟩, hl.2⟩
    obtain ⟨v, g1, g2, g3⟩ := zls_inv hx
    rw [g3, hsame v (hL v (List.mem_of_getElem? g1))]
    exact zL_at hl g1 g2
  have hst1 : (v.toList ++ st).map (cv σ1) = v.toList ++ st.map (cv σ) := by
    rw [List.map_append, List.map_congr_left (fun w hw => hsame w (hst w hw))]
    cases v with
    | none => rfl
    | some w => cases w <;> first | rfl | exact absurd rfl (hv _)
  have kk := (k p l e R s m args below meth c D A tc adK adV C σ0 n0 σ1 H1 locs1 ls (cells + a1) (slots + b1) mc ms hH1 hS1 hl1 ⟨by show cells + a1 + ca ≤ mc; omega, by show slots + b1 + cb ≤ ms; omega, hB9.2.2.1, hB9.2.2.2⟩)
  rw [hst1] at kk
  exact kk
theorem zA_callFS (hw : zCs y.cls idx y' cc' nL' ret' na) (hM : zM y' cc' nL' ret' d' As n S μ (.inl v, n1, S1, μ1, a1, b1)) (hv : ∀ q, v ≠ some (.ref q)) (hd : d' + 1 ≤ d) (hn : As.length = na) (hst9 : stk = (As.map (zvr B)).reverse ++ st) (hrm : (st.map (fun v => v.category)).sum ≤ 8)
    (hsub : zSub B n S μ S2 μ2) (hB : B + n ≤ n2) (hw2 : zWf n2 S2) (hn1 : n ≤ n1) (hg : n1 = n ∨ B + n = n2) (hm : n2 + (n1 - n) ≤ 1000000) (hw1 : zWf n1 S1) (hL : ∀ v ∈ L, ∀ q, v = .ref q → q < n2 ∨ 1000000 ≤ q) (hst : ∀ v ∈ st, ∀ q, v = .ref q → q < n2 ∨ 1000000 ≤ q) (dg : decode cc pc = .ok (.invokestatic idx, 3))
    (k : zAW y cc nL ret d (pc + 3) L (v.toList ++ st) (n2 + (n1 - n)) (zputS B n1 S1 S2) (zputM B n1 μ1 μ2) (res, n', S', μ', ca, cb)) : zAW y cc nL ret d (pc) L (stk) (n2) (S2) (μ2) (res, n', S', μ', ca + a1, cb + b1) := by
  intro p l e R s m args below meth c D A tc adK adV C σ0 n0 σ H locs ls cells slots mc ms hH hS hl hB9
  subst hst9
  obtain ⟨⟨h1, h2, h3, h4, h5⟩, h6⟩ := hw
  obtain ⟨hx, hbb, hml, hown, -, -, -, -, hts, hK, hA, hG, hstt, hfr, hlo⟩ := id C
  have hB' : cells + (ca + a1) ≤ mc ∧ slots + (cb + b1) ≤ ms ∧ mc ≤ R.cells ∧ ms ≤ R.slots := hB9
  have hMM := zM_met (v := v) rfl hM l D tc adK adV (zsr σ B) H.size hstt
  have hpre : PreS s H (zPc D tc adK adV (zsr σ B) As n S μ H.size) (As.map (cv (zsr σ B))) := ⟨zPc_blind, fun U hU hW => z_preF C hH hS hsub (by omega) hB (avs := As) U hU hW⟩
  have hstk : (F0 m pc ls (((As.map (zvr B)).reverse ++ st).map (cv σ))).stack = (As.map (cv (zsr σ B))).reverse ++ st.map (cv σ) := by
    show ((As.map (zvr B)).reverse ++ st).map (cv σ) = _
    rw [zRmap, cv_zvrs]
  have hroom : (zRm d' a1 b1).frames + 1 ≤ R.frames ∧ 8 + (nL' + 11) + (zRm d' a1 b1).locals ≤ R.locals := ⟨Nat.le_trans hd hfr, by show 8 + (nL' + 11) + 41 * d' ≤ R.locals; omega⟩
  have hrun : va_Run p l e R s m args below meth c H locs cells slots a1 b1 (F0 m pc ls (((As.map (zvr B)).reverse ++ st).map (cv σ))) (st.map (cv σ)) (zQc D (zA (zsr σ B) n H.size) tc adK (zsr σ B) n (.inl v, n1, S1, μ1, a1, b1) (As.map (cv (zsr σ B))).toArray) (zA (zsr σ B) n H.size) := by
    rcases h5 with h5 | ⟨host, h5⟩
    · exact va_runS ⟨hx, hbb, hml, hown, hts⟩ hMM ⟨callB_of na hts (zWs_good h1) rfl rfl rfl (hts _ h2) (hts _ h5) h4 hroom, hts _ h6⟩ hpre rfl (by rw [List.length_map, hn]) hl.1.1 hstk (zroom hrm) dg ⟨by omega, by omega⟩
    · exact va_runSN ⟨hx, hbb, hml, hown, hts⟩ hMM ⟨va_cnB na hts (zWs_good h1) rfl rfl rfl (hG.2.2.2.2.1 _ h5) (hts _ h2) h4 hroom, hts _ h6, trivial⟩ hpre rfl (by rw [List.length_map, hn]) hl.1.1 hstk (zroom hrm) dg ⟨by omega, by omega⟩
  refine z_contF C hH hS hsub hB hw2 hv hn1 hg hm hw1 hrun (fun σ1 H1 locs1 hH1 hσ hS1 => ?_)
  have hsame : ∀ v : Value, (∀ q, v = .ref q → q < n2 ∨ 1000000 ≤ q) → cv σ1 v = cv σ v := fun v hv => by
    cases v <;> first | rfl | (rename_i q; rcases hv q rfl with h | h; exact congrArg Value.ref (hσ q h); exact congrArg Value.ref (by obtain ⟨j, rfl⟩ := Nat.exists_eq_add_of_le h; rw [hH1.2.1.2 j, hH.2.1.2 j]))
  have hl1 : zL σ1 nL L ls := by
    refine ⟨⟨hl.1.1, hl.1.2.1, fun x hx => ?_⟩, hl.2⟩
    obtain ⟨v, g1, g2, g3⟩ := zls_inv hx
    rw [g3, hsame v (hL v (List.mem_of_getElem? g1))]
    exact zL_at hl g1 g2
  have hst1 : (v.toList ++ st).map (cv σ1) = v.toList ++ st.map (cv σ) := by
    rw [List.map_append, List.map_congr_left (fun w hw => hsame w (hst w hw))]
    cases v with
    | none => rfl
    | some w => cases w <;> first | rfl | exact absurd rfl (hv _)
  have kk := (k p l e R s m args below meth c D A tc adK adV C σ0 n0 σ1 H1 locs1 ls (cells + a1) (slots + b1) mc ms hH1 hS1 hl1 ⟨by show cells + a1 + ca ≤ mc; omega, by show slots + b1 + cb ≤ ms; omega, hB9.2.2.1, hB9.2.2.2⟩)
  rw [hst1] at kk
  exact kk
end ZFD
