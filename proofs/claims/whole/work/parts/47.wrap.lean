/-! WRAPPERS: the same rules in a method with an exception table -/
def zCH (hh : List (Nat × Nat × Nat × Nat)) (y : MethodName) (cc : ByteArray) (nL : Nat) (ret : Option FieldType) (d : Nat) (p : Program) (l : Launch) (R : Room) (s : State) (m : MethodId) (args : Array Value) (meth : Method) (c : Code) (D : va_G) (A : Nat → Prop) (tc : Nat → ClassId) (adK adV : Nat → Nat) : Prop :=
  p.tables.exec = Jvm.exec ∧ c.code = cc ∧ c.maxLocals = nL ∧ s.vm.findClass y.cls = some m.cls ∧ meth.sig.returnType = ret ∧ meth.locks = false ∧ meth.name = y.name ∧ c.exceptionTable.toList = tableOf hh ∧ (∀ w ∈ zTb, w.before args s = true) ∧ va_K D zCl (zTys tc) s ∧ (∀ q, s.heap.size ≤ q → A q) ∧ zG adK adV A s s.heap ∧ l.stackTraces = false ∧ d ≤ R.frames ∧ 41 * d ≤ R.locals
def zBW (hh : List (Nat × Nat × Nat × Nat)) (y : MethodName) (cc : ByteArray) (nL : Nat) (ret : Option FieldType) (d pc : Nat) (L st : List Value) (n : Nat) (S : Nat → zSh) (μ : zMem) (o : zO) : Prop :=
  ∀ (p : Program) (l : Launch) (e : Env) (R : Room) (s : State) (m : MethodId) (args : Array Value) (below : List Frame) (meth : Method) (c : Code) (D : va_G) (A : Nat → Prop) (tc adK adV : Nat → Nat), zCH hh y cc nL ret d p l R s m args meth c D A tc adK adV →
  ∀ (σ0 : Nat → Nat) (n0 : Nat) (σ : Nat → Nat) (H : Heap) (locs : List Loc) (ls : Array Slot) (cells slots mc ms : Nat), (n0 ≤ n ∧ zHe D A tc adK σ0 n0 σ n S μ H) → va_S A s.heap H locs → zL σ nL L ls → (cells + o.2.2.2.2.1 ≤ mc ∧ slots + o.2.2.2.2.2 ≤ ms ∧ mc ≤ R.cells ∧ ms ≤ R.slots) →
  W p l e R s m args below meth c H locs cells slots (vx_MQ below (zQc D A tc adK σ0 n0 o) (zXC D A tc adK σ0 n0 o) args s mc ms A) (F0 m pc ls (st.map (cv σ)))
section ZB
variable {hh : List (Nat × Nat × Nat × Nat)} {y y' : MethodName} {cc cc' : ByteArray} {nL nL' : Nat} {ret ret' : Option FieldType} {d d' pc idx b ci na B a1 b1 : Nat} {L st stk As : List Value} {n n1 n2 n' : Nat} {S S1 S2 S' : Nat → zSh} {μ μ1 μ2 μ' : zMem} {res : Option Value ⊕ String} {ca cb : Nat} {v : Option Value} {o : zO}
theorem zB_iload_n {i : Fin 4} {x : Int32} (dg : decode cc pc = .ok (.iload_n i, 1)) (hL : L[(i : Nat)]? = some (.int x)) (k : zBW hh y cc nL ret d (pc + 1) (L) (.int x :: st) n S (μ) (o)) : zBW hh y cc nL ret d (pc) (L) (st) n S (μ) (o) := fun p l e R s m args below meth c D A tc adK adV C σ0 n0 σ H locs ls cells slots mc ms hH hS hl hB => lv_iload_n C.1 C.2.1 dg rfl (zL_at hl hL (fun h => by cases h)) (k p l e R s m args below meth c D A tc adK adV C σ0 n0 σ H locs ls cells slots mc ms hH hS hl hB)
theorem zB_iload {i : Nat} {x : Int32} (dg : decode cc pc = .ok (.iload i, 2)) (hL : L[i]? = some (.int x)) (k : zBW hh y cc nL ret d (pc + 2) (L) (.int x :: st) n S (μ) (o)) : zBW hh y cc nL ret d (pc) (L) (st) n S (μ) (o) := fun p l e R s m args below meth c D A tc adK adV C σ0 n0 σ H locs ls cells slots mc ms hH hS hl hB => lv_iload C.1 C.2.1 dg (zL_at hl hL (fun h => by cases h)) (k p l e R s m args below meth c D A tc adK adV C σ0 n0 σ H locs ls cells slots mc ms hH hS hl hB)
theorem zB_aload {i : Nat} {x : Nat} (dg : decode cc pc = .ok (.aload i, 2)) (hL : L[i]? = some (.ref x)) (k : zBW hh y cc nL ret d (pc + 2) (L) (.ref x :: st) n S (μ) (o)) : zBW hh y cc nL ret d (pc) (L) (st) n S (μ) (o) := fun p l e R s m args below meth c D A tc adK adV C σ0 n0 σ H locs ls cells slots mc ms hH hS hl hB => lv_aload C.1 C.2.1 dg (zL_at hl hL (fun h => by cases h)) (k p l e R s m args below meth c D A tc adK adV C σ0 n0 σ H locs ls cells slots mc ms hH hS hl hB)
theorem zB_aload_n {i : Fin 4} {x : Nat} (dg : decode cc pc = .ok (.aload_n i, 1)) (hL : L[(i : Nat)]? = some (.ref x)) (k : zBW hh y cc nL ret d (pc + 1) (L) (.ref x :: st) n S (μ) (o)) : zBW hh y cc nL ret d (pc) (L) (st) n S (μ) (o) := fun p l e R s m args below meth c D A tc adK adV C σ0 n0 σ H locs ls cells slots mc ms hH hS hl hB => lv_aload_n C.1 C.2.1 dg rfl (zL_at hl hL (fun h => by cases h)) (k p l e R s m args below meth c D A tc adK adV C σ0 n0 σ H locs ls cells slots mc ms hH hS hl hB)
theorem zB_goto {off : Int} {tgt : Nat} (dg : decode cc pc = .ok (.goto off, 3)) (ht : (pc : Int) + off = (tgt : Int)) (k : zBW hh y cc nL ret d (tgt) (L) (st) n S (μ) (o)) : zBW hh y cc nL ret d (pc) (L) (st) n S (μ) (o) := fun p l e R s m args below meth c D A tc adK adV C σ0 n0 σ H locs ls cells slots mc ms hH hS hl hB => lv_goto C.1 C.2.1 dg ht (k p l e R s m args below meth c D A tc adK adV C σ0 n0 σ H locs ls cells slots mc ms hH hS hl hB)
theorem zB_iconst {z : Int} (v : Int32) (dg : decode cc pc = .ok (.iconst z, 1)) (hv : Int32.ofInt z = v) (k : zBW hh y cc nL ret d (pc + 1) L (.int v :: st) (n) (S) (μ) (o)) : zBW hh y cc nL ret d (pc) L (st) (n) (S) (μ) (o) := fun p l e R s m args below meth c D A tc adK adV C σ0 n0 σ H locs ls cells slots mc ms hH hS hl hB => lv_iconst C.1 C.2.1 dg hv (k p l e R s m args below meth c D A tc adK adV C σ0 n0 σ H locs ls cells slots mc ms hH hS hl hB)
theorem zB_i2l {x : Int32} (dg : decode cc pc = .ok (.i2l, 1)) (k : zBW hh y cc nL ret d (pc + 1) L (.long x.toInt64 :: st) n S μ o) : zBW hh y cc nL ret d pc L (.int x :: st) n S μ o := fun p l e R s m args below meth c D A tc adK adV C σ0 n0 σ H locs ls cells slots mc ms hH hS hl hB => lv_i2l C.1 C.2.1 dg rfl (k p l e R s m args below meth c D A tc adK adV C σ0 n0 σ H locs ls cells slots mc ms hH hS hl hB)
theorem zB_last {a : Nat} {x : Int32} {rf : Nat → Option Nat} (ha : a < n) (hs : S a = (3, 5, 1, rf)) (dg : decode cc pc = .ok (.lastore, 1)) (k : zBW hh y cc nL ret d (pc + 1) L st n S (zset μ a 0 x) o) : zBW hh y cc nL ret d pc L (.long x.toInt64 :: .int 0 :: .ref a :: st) n S μ o := by
  intro p l e R s m args below meth c D A tc adK adV C σ0 n0 σ H locs ls cells slots mc ms hH hS hl hB
  have he := zW_get' (σ := σ) (tc := tc) (μ := μ) ha hs
  rw [zE_lng] at he
  refine va_last C.1 C.2.1 C.2.2.2.2.2.2.2.2.2.1 hH.2.2.1 hH.2.2.2.1 hS a 5 he rfl (by unfold vp_in; decide) dg (fun H1 locs1 hP1 hD1 hS1 => ?_)
  have hw9 : (zW σ tc n S μ).set a (σ a, .inl (tc 5, 1, .inr (.inl (vp_updL (fun j => (μ a j).toInt64) (0 : Int32).toNatClampNeg x.toInt64)))) = zW σ tc n S (zset μ a 0 x) := zW_set (by
    rw [hs, zE_lng]
    have e1 : vp_updL (fun j => (μ a j).toInt64) (0 : Int32).toNatClampNeg x.toInt64 = fun j => ((if j = 0 then x else μ a j) : Int32).toInt64 := by
      funext j
      show (if j = 0 then x.toInt64 else (μ a j).toInt64) = _
      by_cases hj : j = 0
      · rw [if_pos hj, if_pos hj]
      · rw [if_neg hj, if_neg hj]
    rw [e1])
  rw [hw9] at hP1 hD1
  exact (k p l e R s m args below meth c D A tc adK adV C σ0 n0 σ H1 locs1 ls cells slots mc ms ⟨hH.1, hH.2.1, hP1, hD1, hH.2.2.2.2⟩ hS1 hl hB)
theorem zB_iret {v : Int32} (hr : ret = some .int) (dg : decode cc pc = .ok (.ireturn, 1)) : zBW hh y cc nL ret d pc L [.int v] n S μ (.inl (some (.int v)), n, S, μ, 0, 0) := by
  intro p l e R s m args below meth c D A tc adK adV C σ0 n0 σ H locs ls cells slots mc ms hH hS hl hB
  obtain ⟨hx, hbb, -, -, hrt, hlk, -⟩ := id C
  refine vx_ret (W.widen (k := mc) (n := ms) (by have := hB.1; omega) (by have := hB.2.1; omega) ?_)
  exact W.iret hx hbb (by rw [hrt, hr]) (fun t ht hW => ⟨⟨σ, some (.int v), rfl, rfl, hH.2.1, by rw [ht]; exact hH.2.2.1, hH.2.2.2⟩, hS.F ht⟩) (fun z hz => hS.2.2 z hz) dg hlk
end ZB
section ZFCH
variable {hh : List (Nat × Nat × Nat × Nat)} {p : Program} {l : Launch} {e : Env} {R : Room} {s : State} {m : MethodId} {args : Array Value} {below : List Frame} {meth : Method} {c : Code} {D : va_G} {A : Nat → Prop} {tc adK adV : Nat → Nat} {σ0 σ : Nat → Nat} {n0 n n2 B : Nat} {S S2 : Nat → zSh} {μ μ2 : zMem} {H : Heap} {locs : List Loc} {cells slots : Nat} {Q : State → Prop}
variable {y : MethodName} {cc : ByteArray} {nL : Nat} {ret : Option FieldType} {d pc : Nat}
theorem zH_free (C : zCH hh y cc nL ret d p l R s m args meth c D A tc adK adV) (hH : n0 ≤ n2 ∧ zHe D A tc adK σ0 n0 σ n2 S2 μ2 H) (hS : va_S A s.heap H locs) (hsub : zSub B n S μ S2 μ2) (hm : n2 ≤ 1000000) (hB : B + n ≤ n2) : ∀ q, zA (zsr σ B) n H.size q → A q := by
  intro q hq
  rcases zsub_A hsub hm hB hq with ⟨k, h1, rfl⟩ | hq
  · exact hH.2.2.2.1.2 (B + k) _ (zW_get (by omega))
  · exact C.2.2.2.2.2.2.2.2.2.2.1 q (Nat.le_trans hS.1 hq)
theorem zH_pre (C : zCH hh y cc nL ret d p l R s m args meth c D A tc adK adV) (hH : n0 ≤ n2 ∧ zHe D A tc adK σ0 n0 σ n2 S2 μ2 H) (hS : va_S A s.heap H locs) (hsub : zSub B n S μ S2 μ2) (hm : n2 ≤ 1000000) (hB : B + n ≤ n2) {avs : List Value} : ∀ U : State, U.heap = H → s.WarmedH U.vm → zPc D tc adK adV (zsr σ B) avs n S μ H.size (avs.map (cv (zsr σ B))).toArray U := by
  intro U hU hW
  have hF := zH_free C hH hS hsub hm hB
  obtain ⟨-, -, -, -, -, -, -, -, -, hK, hA, hG, -⟩ := C
  obtain ⟨-, hAg, hP, hD, -⟩ := hH
  refine ⟨rfl, by rw [hU], by rw [hU]; exact zsub_P hsub hm hB hP, va_K.moved hW.alike hK, (zsub_D hsub hm hB hD).weaken (fun _ _ _ _ => trivial), fun i => ?_, ?_⟩
  · show σ (zrh B (1000000 + i)) = _
    unfold zrh
    rw [if_neg (by omega)]
    exact hAg.2 i
  · rw [hU]
    exact ((hG.kept hS.2.1).narrow hF).warm hW
theorem zH_cont (C : zCH hh y cc nL ret d p l R s m args meth c D A tc adK adV) (hH : n0 ≤ n2 ∧ zHe D A tc adK σ0 n0 σ n2 S2 μ2 H) (hS : va_S A s.heap H locs) (hsub : zSub B n S μ S2 μ2) (hB : B + n ≤ n2) (hw2 : zWf n2 S2) {v : Option Value} (hv : ∀ q, v ≠ some (.ref q)) {n1 : Nat} {S1 : Nat → zSh} {μ1 : zMem} {a1 b1 : Nat} (hn : n ≤ n1) (hg : n1 = n ∨ B + n = n2) (hm : n2 + (n1 - n) ≤ 1000000) (hw1 : zWf n1 S1) {mc1 ms1 : Nat} {ls : Array Slot} {st0 rest : List Value} {a : Array Value}
    (hr : va_Run p l e R s m args below meth c H locs cells slots mc1 ms1 (F0 m pc ls st0) rest (zQc D (zA (zsr σ B) n H.size) tc adK (zsr σ B) n (.inl v, n1, S1, μ1, a1, b1) a) (zA (zsr σ B) n H.size))
    (kk : ∀ (σ2 : Nat → Nat) (H1 : Heap) (locs1 : List Loc), (n0 ≤ n2 + (n1 - n) ∧ zHe D A tc adK σ0 n0 σ2 (n2 + (n1 - n)) (zputS B n1 S1 S2) (zputM B n1 μ1 μ2) H1) → (∀ k, k < n2 → σ2 k = σ k) → va_S A s.heap H1 locs1 → W p l e R s m args below meth c H1 locs1 (cells + mc1) (slots + ms1) Q (F0 m (pc + 3) ls (v.toList ++ rest))) :
    W p l e R s m args below meth c H locs cells slots Q (F0 m pc ls st0) := by
  intro T hT X
  obtain ⟨v', st₀, t, T', L', h0, X', hL, e1, e2, ⟨⟨σ1, v1, hv1, hv2, hHe⟩, hF⟩, st⟩ := hr T hT X
  cases hv1
  cases hv2
  rw [← e1] at hHe
  have hfr := zH_free C hH hS hsub (by omega) hB
  obtain ⟨k1, k2, k3⟩ := vx_keep h0 e1 hS (fun q _ h => hfr q h) (fun q h => hfr q h) hL hF
  obtain ⟨g1, g2, g3⟩ := zframe hsub hB hw2 hH.2.2.1 hH.2.2.2.1 hH.2.1 hH.1 hH.2.2.2.2 hn hg hm hw1 k2 hfr hHe
  have ev : (v.map (cv σ1)).toList = v.toList := by
    cases v with
    | none => rfl
    | some w => cases w <;> first | rfl | exact absurd rfl (hv _)
  obtain ⟨t2, a1, b1⟩ := kk _ T'.heap (locs ++ L') ⟨g2, g3⟩ g1 k3 T' rfl X'
  rw [← ev] at a1
  exact ⟨t2, st t2 a1, b1⟩
end ZFCH
section ZFDH
variable {hh : List (Nat × Nat × Nat × Nat)} {y y' : MethodName} {cc cc' : ByteArray} {nL nL' : Nat} {ret ret' : Option FieldType} {d d' pc idx b ci na B a1 b1 : Nat} {L st stk As : List Value} {n n1 n2 n' : Nat} {S S1 S2 S' : Nat → zSh} {μ μ1 μ2 μ' : zMem} {res : Option Value ⊕ String} {ca cb : Nat} {v : Option Value}
theorem zB_callFV (hw : zCv y.cls idx y' cc' nL' ret' na ci) (hM : zM y' cc' nL' ret' d' (.ref b :: As) n S μ (.inl v, n1, S1, μ1, a1, b1)) (hv : ∀ q, v ≠ some (.ref q)) (hd : d' + 1 ≤ d) (hb : b < n) {z : Nat} {rf : Nat → Option Nat} (hs : S b = (0, ci, z, rf)) (hn : As.length = na) (hst9 : stk = (As.map (zvr B)).reverse ++ .ref (B + b) :: st) (hrm : (st.map (fun v => v.category)).sum ≤ 8)
    (hsub : zSub B n S μ S2 μ2) (hB : B + n ≤ n2) (hw2 : zWf n2 S2) (hn1 : n ≤ n1) (hg : n1 = n ∨ B + n = n2) (hm : n2 + (n1 - n) ≤ 1000000) (hw1 : zWf n1 S1) (hL : ∀ v ∈ L, ∀ q, v = .ref q → q < n2 ∨ 1000000 ≤ q) (hst : ∀ v ∈ st, ∀ q, v = .ref q → q < n2 ∨ 1000000 ≤ q) (dg : decode cc pc = .ok (.invokevirtual idx, 3))
    (k : zBW hh y cc nL ret d (pc + 3) L (v.toList ++ st) (n2 + (n1 - n)) (zputS B n1 S1 S2) (zputM B n1 μ1 μ2) (res, n', S', μ', ca, cb)) : zBW hh y cc nL ret d (pc) L (stk) (n2) (S2) (μ2) (res, n', S', μ', ca + a1, cb + b1) := by
  intro p l e R s m args below meth c D A tc adK adV C σ0 n0 σ H locs ls cells slots mc ms hH hS hl hB9
  subst hst9
  obtain ⟨⟨h1, h2, h3, h4, h5⟩, h6, h7, h8⟩ := hw
  obtain ⟨hx, hbb, hml, hown, -, -, -, -, hts, hK, hA, hG, hstt, hfr, hlo⟩ := id C
  have hB' : cells + (ca + a1) ≤ mc ∧ slots + (cb + b1) ≤ ms ∧ mc ≤ R.cells ∧ ms ≤ R.slots := hB9
  have hMM := zM_met (v := v) rfl hM l D tc adK adV (zsr σ B) H.size hstt
  obtain ⟨Q9, hQ9, hQc⟩ : ∃ Q9, zCl[ci]? = some Q9 ∧ Q9.1 = y'.cls := by
    cases hc9 : zCl[ci]? with
    | none => rw [hc9] at h8; cases h8
    | some Q9 => rw [hc9] at h8; exact ⟨Q9, rfl, Option.some.inj h8⟩
  have he := zW_get' (σ := zsr σ B) (tc := tc) (μ := μ) hb hs
  rw [zE_obj] at he
  have hrecv := va_recv hK (zsub_P hsub (by omega) hB hH.2.2.1) hQ9 he
  rw [hQc] at hrecv
  have hpre : PreV s H y'.cls (zsr σ B b) (zPc D tc adK adV (zsr σ B) (.ref b :: As) n S μ H.size) (As.map (cv (zsr σ B))) := ⟨zPc_blind, hrecv, fun U hU hW => zH_pre C hH hS hsub (by omega) hB (avs := .ref b :: As) U hU hW⟩
  have hbb2 : zsr σ B b = σ (B + b) := by
    show σ (zrh B b) = _
    unfold zrh
    rw [if_pos (by omega)]
  have hstk : (F0 m pc ls (((As.map (zvr B)).reverse ++ Value.ref (B + b) :: st).map (cv σ))).stack = (As.map (cv (zsr σ B))).reverse ++ .ref (zsr σ B b) :: st.map (cv σ) := by
    show ((As.map (zvr B)).reverse ++ Value.ref (B + b) :: st).map (cv σ) = _
    rw [zRmap, cv_zvrs, hbb2]
    rfl
  have hroom : (zRm d' a1 b1).frames + 1 ≤ R.frames ∧ 8 + (nL' + 11) + (zRm d' a1 b1).locals ≤ R.locals := ⟨Nat.le_trans hd hfr, by show 8 + (nL' + 11) + 41 * d' ≤ R.locals; omega⟩
  have hrun : va_Run p l e R s m args below meth c H locs cells slots a1 b1 (F0 m pc ls (((As.map (zvr B)).reverse ++ Value.ref (B + b) :: st).map (cv σ))) (st.map (cv σ)) (zQc D (zA (zsr σ B) n H.size) tc adK (zsr σ B) n (.inl v, n1, S1, μ1, a1, b1) (Value.ref (zsr σ B b) :: As.map (cv (zsr σ B))).toArray) (zA (zsr σ B) n H.size) := by
    rcases h5 with h5 | ⟨host, h5⟩
    · exact va_runV ⟨hx, hbb, hml, hown, hts⟩ hMM ⟨callB_of na hts (zWs_good h1) rfl rfl rfl (hts _ h2) (hts _ h5) h4 hroom, hts _ h6, hts _ h7⟩ hpre rfl (by rw [List.length_map, hn]) hl.1.1 hstk (zroom hrm) dg ⟨by omega, by omega⟩
    · exact va_runVN ⟨hx, hbb, hml, hown, hts⟩ hMM ⟨va_cnB na hts (zWs_good h1) rfl rfl rfl (hG.2.2.2.2.1 _ h5) (hts _ h2) h4 hroom, hts _ h6, hts _ h7⟩ hpre rfl (by rw [List.length_map, hn]) hl.1.1 hstk (zroom hrm) dg ⟨by omega, by omega⟩
  refine zH_cont C hH hS hsub hB hw2 hv hn1 hg hm hw1 hrun (fun σ1 H1 locs1 hH1 hσ hS1 => ?_)
  have hsame : ∀ v : Value, (∀ q, v = .ref q → q < n2 ∨ 1000000 ≤ q) → cv σ1 v = cv σ v := fun v hv => by
    cases v <;> first | rfl | (rename_i q; rcases hv q rfl with h | h; exact congrArg Value.ref (hσ q h); exact congrArg Value.ref (by obtain ⟨j, rfl⟩ := Nat.exists_eq_add_of_le h; rw [hH1.2.1.2 j, hH.2.1.2 j]))
  have hl1 : zL σ1 nL L ls := by
    refine ⟨⟨hl.1.1, hl.1.2.1, fun x hx => ?_⟩, hl.2⟩
    obtain ⟨v, g1, g2, g3⟩ := zls_inv hx
    rw [g3, hsame v (hL v (List.mem_of_getElem? g1))]
    exact zL_at hl g1 g2
  have hst1 : (v.toList ++ st).map (cv σ1) = v.toList ++ st.map (cv σ) := by
    rw [List.map_append, List.map_congr_left (fun w hw => hsame w (hst w hw))]
    cases v with
    | none => rfl
    | some w => cases w <;> first | rfl | exact absurd rfl (hv _)
  have kk := (k p l e R s m args below meth c D A tc adK adV C σ0 n0 σ1 H1 locs1 ls (cells + a1) (slots + b1) mc ms hH1 hS1 hl1 ⟨by show cells + a1 + ca ≤ mc; omega, by show slots + b1 + cb ≤ ms; omega, hB9.2.2.1, hB9.2.2.2⟩)
  rw [hst1] at kk
  exact kk

theorem zB_callFX {E : String} {px : List ExceptionTableEntry} {x : ExceptionTableEntry} {sx : List ExceptionTableEntry} {nm : String} (hw : zCv y.cls idx y' cc' nL' ret' na ci) (hlk : Cond.methodLink y.cls idx y' ∈ zTb) (hM : zM y' cc' nL' ret' d' (.ref b :: As) n S μ (.inr E, n, S, μ1, a1, b1)) (hd : d' + 1 ≤ d) (hb : b < n) {z : Nat} {rf : Nat → Option Nat} (hs : S b = (0, ci, z, rf)) (hn : As.length = na) (hst9 : stk = (As.map (zvr B)).reverse ++ .ref (B + b) :: st) (hrm : (st.map (fun v => v.category)).sum ≤ 8)
    (hsub : zSub B n S μ S2 μ2) (hB : B + n ≤ n2) (hw2 : zWf n2 S2) (hm : n2 ≤ 1000000) (hw1 : zWf n S) (dg : decode cc pc = .ok (.invokevirtual idx, 3))
    (hsplit : tableOf hh = px ++ x :: sx) (hpass : ∀ z ∈ px, z.catchType ≠ 0 ∧ ∃ nm, Cond.classLink y.cls z.catchType nm ∈ zTb ∧ nm ∈ zXs ∧ E ≠ nm) (hE : E ∈ zXs) (hx9 : covers x pc = true) (hx0 : x.catchType ≠ 0) (hxl : Cond.classLink y.cls x.catchType nm ∈ zTb) (hxc : Cond.castable E nm ∈ zNs)
    {i : Nat} {ln : Nat} (hst : (∃ f : Fin 4, decode cc x.handlerPc = .ok (.astore_n f, 1) ∧ (f : Nat) = i ∧ ln = 1) ∨ (decode cc x.handlerPc = .ok (.astore i, 2) ∧ ln = 2)) (hi : i < nL)
    (k : zBW hh y cc nL ret d (x.handlerPc + ln) [] [] n2 (zputS B n S S2) (zputM B n μ1 μ2) (res, n', S', μ', ca, cb)) : zBW hh y cc nL ret d (pc) L (stk) (n2) (S2) (μ2) (res, n', S', μ', ca + a1, cb + b1) := by
  intro p l e R s m args below meth c D A tc adK adV C σ0 n0 σ H locs ls cells slots mc ms hH hS hl hB9
  subst hst9
  obtain ⟨⟨h1, h2, h3, h4, -⟩, h6, h7, h8⟩ := hw
  obtain ⟨hx, hbb, hml, hown, -, -, -, -, hts, hK, hA, hG, hstt, hfr, hlo⟩ := id C
  have hB' : cells + (ca + a1) ≤ mc ∧ slots + (cb + b1) ≤ ms ∧ mc ≤ R.cells ∧ ms ≤ R.slots := hB9
  have hMM := hM l D tc adK adV (zsr σ B) H.size hstt
  obtain ⟨Q9, hQ9, hQc⟩ : ∃ Q9, zCl[ci]? = some Q9 ∧ Q9.1 = y'.cls := by
    cases hc9 : zCl[ci]? with
    | none => rw [hc9] at h8; cases h8
    | some Q9 => rw [hc9] at h8; exact ⟨Q9, rfl, Option.some.inj h8⟩
  have he := zW_get' (σ := zsr σ B) (tc := tc) (μ := μ) hb hs
  rw [zE_obj] at he
  have hrecv := va_recv hK (zsub_P hsub (by omega) hB hH.2.2.1) hQ9 he
  rw [hQc] at hrecv
  have hpre : PreV s H y'.cls (zsr σ B b) (zPc D tc adK adV (zsr σ B) (.ref b :: As) n S μ H.size) (As.map (cv (zsr σ B))) := ⟨zPc_blind, hrecv, fun U hU hW => zH_pre C hH hS hsub (by omega) hB (avs := .ref b :: As) U hU hW⟩
  have hbb2 : zsr σ B b = σ (B + b) := by
    show σ (zrh B b) = _
    unfold zrh
    rw [if_pos (by omega)]
  have hstk : (F0 m pc ls (((As.map (zvr B)).reverse ++ Value.ref (B + b) :: st).map (cv σ))).stack = (As.map (cv (zsr σ B))).reverse ++ .ref (zsr σ B b) :: st.map (cv σ) := by
    show ((As.map (zvr B)).reverse ++ Value.ref (B + b) :: st).map (cv σ) = _
    rw [zRmap, cv_zvrs, hbb2]
    rfl
  have hroom : (zRm d' a1 b1).frames + 1 ≤ R.frames ∧ 8 + (nL' + 11) + (zRm d' a1 b1).locals ≤ R.locals := ⟨Nat.le_trans hd hfr, by show 8 + (nL' + 11) + 41 * d' ≤ R.locals; omega⟩
  have hrun : vx_Run p l e R s m args below meth c H locs cells slots a1 b1 (F0 m pc ls (((As.map (zvr B)).reverse ++ Value.ref (B + b) :: st).map (cv σ))) (st.map (cv σ)) (zQc D (zA (zsr σ B) n H.size) tc adK (zsr σ B) n (.inr E, n, S, μ1, a1, b1) (Value.ref (zsr σ B b) :: As.map (cv (zsr σ B))).toArray) (zXC D (zA (zsr σ B) n H.size) tc adK (zsr σ B) n (.inr E, n, S, μ1, a1, b1)) (zA (zsr σ B) n H.size) :=
    vx_runV ⟨hx, hbb, hml, hown, hts⟩ hMM ⟨callB_of na hts (zWs_good h1) rfl rfl rfl (hts _ h2) (hts _ hlk) h4 hroom, hts _ h6, hts _ h7⟩ hpre rfl (by rw [List.length_map, hn]) hl.1.1 hstk (zroom hrm) dg ⟨by omega, by omega⟩
  intro T hT X
  rcases hrun T hT X with ⟨v', st₀, t, T', L', h0, X', hL, e1, e2, ⟨⟨σ1, v1, hv1, -⟩, -⟩, st9⟩ | ⟨q9, st₀, t, T', L', E', ce, h0, X', hL, e1, e2, ⟨⟨hE', σ1, hHe⟩, hF⟩, hce, hcv, hcl, st9⟩
  · cases hv1
  · have hE9 : E = E' := by injection hE'
    subst hE9
    rw [← e1] at hHe
    have hfr9 := zH_free C hH hS hsub hm hB
    obtain ⟨k1, k2, k3⟩ := vx_keep h0 e1 hS (fun q _ h => hfr9 q h) (fun q h => hfr9 q h) hL hF
    obtain ⟨g1, g2, g3⟩ := zframe hsub hB hw2 hH.2.2.1 hH.2.2.2.1 hH.2.1 hH.1 hH.2.2.2.2 (Nat.le_refl _) (Or.inl rfl) (by omega) hw1 k2 hfr9 hHe
    rw [Nat.sub_self, Nat.add_zero] at g2 g3
    have htab : c.exceptionTable.toList = px ++ x :: sx := C.2.2.2.2.2.2.2.1.trans hsplit
    have kx : ∀ ls' : Array Slot, zL (zsig B n n σ σ1) nL [] ls' → W p l e R s m args below meth c T'.heap (locs ++ L') (cells + a1) (slots + b1) (vx_MQ below (zQc D A tc adK σ0 n0 (res, n', S', μ', ca + a1, cb + b1)) (zXC D A tc adK σ0 n0 (res, n', S', μ', ca + a1, cb + b1)) args s mc ms A) (F0 m (x.handlerPc + ln) ls' []) := fun ls' hl' =>
      k p l e R s m args below meth c D A tc adK adV C σ0 n0 _ T'.heap (locs ++ L') ls' (cells + a1) (slots + b1) mc ms ⟨g2, g3⟩ k3 hl' ⟨by show cells + a1 + ca ≤ mc; omega, by show slots + b1 + cb ≤ ms; omega, hB9.2.2.1, hB9.2.2.2⟩
    have kz : W p l e R s m args below meth c T'.heap (locs ++ L') (cells + a1) (slots + b1) (vx_MQ below (zQc D A tc adK σ0 n0 (res, n', S', μ', ca + a1, cb + b1)) (zXC D A tc adK σ0 n0 (res, n', S', μ', ca + a1, cb + b1)) args s mc ms A) (F0 m x.handlerPc ls [.ref q9]) := by
      rcases hst with ⟨f, h9, rfl, rfl⟩ | ⟨h9, rfl⟩
      · exact lv_astore_n hx hbb h9 rfl hl.1 hi rfl (fun ls' h' => kx ls' ⟨⟨h'.1, h'.2.1, fun q hq => by cases hq⟩, fun v hv => by cases hv⟩)
      · exact lv_astore hx hbb h9 hl.1 hi rfl (fun ls' h' => kx ls' ⟨⟨h'.1, h'.2.1, fun q hq => by cases hq⟩, fun v hv => by cases hv⟩)
    have hcst : (Cond.castable E nm).before args s = true := by
      have h9 : va_Nw (.castable E nm) s := hG.2.2.2.2.1 _ hxc
      have e := Cond.onTables_vm (A := #[]) (A' := args) (U := s) (U' := s) s.vm (.castable E nm) rfl
      exact e ▸ h9
    obtain ⟨t2, a2, b2⟩ := vx_catch (pc := pc) (ls := ls) (rest := st.map (cv σ)) hown px x sx htab (fun z hz => Or.inr (by
      obtain ⟨z1, nm1, z2, z3, z4⟩ := hpass z hz
      exact ⟨z1, nm1, hts _ z2, hG.2.2.2.2.2.2.2.2 E hE nm1 z3 z4⟩)) hx9 hx0 (hts _ hxl) hcst (by rw [e1]; exact hce) hcv hcl kz T' rfl X'
    exact ⟨t2, st9.trans a2, b2⟩
end ZFDH
