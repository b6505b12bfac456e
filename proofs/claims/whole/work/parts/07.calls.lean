/-! CONTRACTS AND CALLS over zR -/
def zA (σ : Nat → Nat) (n sz : Nat) : Nat → Prop := fun q => (∃ k, k < n ∧ q = σ k) ∨ sz ≤ q
def zRm (d mc ms : Nat) : Room := { frames := d, cells := mc, slots := ms, locals := 41 * d }
def zWs (y : MethodName) (cc : ByteArray) (nL : Nat) (ret : Option FieldType) : List Cond := Cond.code y cc nL ret :: zTb
def zPc (D : va_G) (tc adK adV : Nat → Nat) (σ : Nat → Nat) (avs : List Value) (n : Nat) (S : Nat → zSh) (μ : zMem) (sz : Nat) : Array Value → State → Prop := va_Pc (avs.map (cv σ)) (fun U => U.heap.size = sz ∧ va_P D zCl (zW σ tc n S μ) U.heap ∧ va_K D zCl (zTys tc) U ∧ va_D (fun _ => True) (zW σ tc n S μ) ∧ (∀ i, σ (1000000 + i) = adK i) ∧ zG adK adV (zA σ n sz) U U.heap)
/-- the contract: called with avs in this heap, the method ends by o -/
def zM (y : MethodName) (cc : ByteArray) (nL : Nat) (ret : Option FieldType) (d : Nat) (avs : List Value) (n : Nat) (S : Nat → zSh) (μ : zMem) (o : zO) : Prop :=
  ∀ (l : Launch) (D : va_G) (tc adK adV σ : Nat → Nat) (sz : Nat), l.stackTraces = false →
    vx_Met l y (zWs y cc nL ret) (zRm d o.2.2.2.2.1 o.2.2.2.2.2) (zPc D tc adK adV σ avs n S μ sz) (zQc D (zA σ n sz) tc adK σ n o) (zXC D (zA σ n sz) tc adK σ n o) o.2.2.2.2.1 o.2.2.2.2.2 (zA σ n sz)
def zMR (y : MethodName) (cc : ByteArray) (nL : Nat) (ret : Option FieldType) (d : Nat) (avs : List Value) (n : Nat) (S : Nat → zSh) (μ : zMem) (r : zRes) : Prop := ∀ q, r = some q → zM y cc nL ret d avs n S μ (zOut ret n S q)
theorem zW_D {σ : Nat → Nat} {tc : Nat → ClassId} {n sz : Nat} {S : Nat → zSh} {μ : zMem} {A : Nat → Prop} (h : va_D A (zW σ tc n S μ)) : va_D (zA σ n sz) (zW σ tc n S μ) := ⟨h.1, fun k q hk => by
  obtain ⟨h1, h2⟩ := zW_inv hk
  exact Or.inl ⟨k, h1, by rw [h2]⟩⟩
theorem zPc_blind {D : va_G} {tc adK adV : Nat → Nat} {σ : Nat → Nat} {avs : List Value} {n : Nat} {S : Nat → zSh} {μ : zMem} {sz : Nat} : FrameBlind (zPc D tc adK adV σ avs n S μ sz) := by
  intro a U g mk h
  obtain ⟨h1, h2, h3, h4, h5, h6, h7⟩ := h
  exact ⟨h1, h2, h3, va_K.moved (u := U) (U := U.calling g mk a) (Vm.Alike.refl U.vm) h4, h5, h6, h7.same (s := U) (U := U.calling g mk a) rfl⟩
theorem zarg_slots (vs : List Value) (h : ∀ v ∈ vs, v.category = 1) : lg_sl vs = vs.map Slot.val := by
  induction vs with
  | nil => rfl
  | cons a t ih =>
    have ha := h a List.mem_cons_self
    have ht := ih (fun v hv => h v (List.mem_cons_of_mem _ hv))
    show (if a.category = 2 then [Slot.val a, Slot.second] else [Slot.val a]) ++ lg_sl t = _
    rw [if_neg (by rw [ha]; decide), ht]
    rfl
/-- a contract out of the walk of its body -/
theorem zM_of {y : MethodName} {cc : ByteArray} {nL : Nat} {ret : Option FieldType} {d : Nat} {avs : List Value} {n : Nat} {S : Nat → zSh} {μ : zMem} {o : zO} (hy : plainName y.cls = true) (hc : ∀ v ∈ avs, v.category = 1) (hn : ∀ v ∈ avs, v ≠ .null) (hlen : avs.length ≤ nL)
    (k : zAW y cc nL ret d 0 (avs ++ List.replicate (nL - avs.length) .null) [] n S μ o) : zM y cc nL ret d avs n S μ o := by
  intro l D tc adK adV σ sz hst
  refine vx_ofW (cc := cc) (maxL := nL) (ret := ret) hy rfl ?_
  intro p e s m args below meth c s₁ B hml hexc hv
  obtain ⟨rfl, hsz, hP, hK, hD, hSg, hG⟩ := hv
  subst hsz
  have hts := atoms_spec (ws := zWs y cc nL ret) B.pre
  have hcat : ∀ v ∈ avs.map (cv σ), v.category = 1 := fun v hv => by
    obtain ⟨w, h1, rfl⟩ := List.mem_map.mp hv
    rw [cv_cat]; exact hc w h1
  have hls : lg_sl (avs.map (cv σ)) = (avs.map (cv σ)).map Slot.val := zarg_slots _ hcat
  have hl := lv_entry (avs.map (cv σ)) (n := nL) (by rw [hls, List.length_map, List.length_map]; exact hlen)
  rw [lg_entry_eq]
  have hget : ∀ (i : Nat) (v : Value), avs[i]? = some v → ((lg_sl (avs.map (cv σ)) ++ List.replicate (nL - (lg_sl (avs.map (cv σ))).length) Slot.unset).toArray)[i]? = some (.val (cv σ v)) := fun i v h => by
    have hi : i < avs.length := (List.getElem?_eq_some_iff.mp h).1
    rw [hls, List.getElem?_toArray, List.getElem?_append_left (by rw [List.length_map, List.length_map]; exact hi), List.getElem?_map, List.getElem?_map, h]
    rfl
  generalize (lg_sl (avs.map (cv σ)) ++ List.replicate (nL - (lg_sl (avs.map (cv σ))).length) Slot.unset).toArray = ls at hl hget ⊢
  have hZ : zL σ nL (avs ++ List.replicate (nL - avs.length) .null) ls := by
    refine ⟨⟨hl.1, hl.2.1, fun q hq => ?_⟩, fun v hv => ?_⟩
    · obtain ⟨v, h1, h2, h3⟩ := zls_inv hq
      by_cases hi : q.1 < avs.length
      · rw [List.getElem?_append_left hi] at h1
        rw [h3]
        exact hget _ _ h1
      · rw [List.getElem?_append_right (by omega)] at h1
        have := List.mem_of_getElem? h1
        exact absurd (List.eq_of_mem_replicate this) h2
    · rcases List.mem_append.mp hv with h | h
      · exact hc v h
      · rw [List.eq_of_mem_replicate h]; rfl
  exact k p l e _ s m _ below meth c D (zA σ n s.heap.size) tc adK adV ⟨B.exec, B.bytes, hml, findClass_of_methodNamed B.named, B.returns, B.notSynchronized, (name_of_methodNamed B.named B.method).1, hexc, fun w hw => hts w (List.mem_cons_of_mem _ hw), hK, fun q hq => Or.inr hq, hG, hst, Nat.le_refl _, Nat.le_refl _⟩
    σ n σ s.heap [] ls 0 0 _ _ ⟨Nat.le_refl _, ⟨fun _ _ => rfl, hSg⟩, hP, zW_D hD, fun _ => rfl⟩ va_S.rf hZ ⟨by omega, by omega, Nat.le_refl _, Nat.le_refl _⟩
theorem zMR_of {y : MethodName} {cc : ByteArray} {nL : Nat} {ret : Option FieldType} {d : Nat} {avs : List Value} {n : Nat} {S : Nat → zSh} {μ : zMem} {r : zRes} (hy : plainName y.cls = true) (hc : avs.all (fun v => v.category == 1 && v != .null) = true) (hlen : avs.length ≤ nL) {L : List Value} (hL : avs ++ List.replicate (nL - avs.length) .null = L)
    (k : zR y cc nL ret d 0 L [] n S μ r) : zMR y cc nL ret d avs n S μ r := by
  subst hL
  have h : ∀ v ∈ avs, v.category = 1 ∧ v ≠ .null := fun v hv => by
    have := List.all_eq_true.mp hc v hv
    simpa using this
  exact fun q hq => zM_of hy (fun v hv => (h v hv).1) (fun v hv => (h v hv).2) hlen (k q hq)
/-- a method that returns: its contract in the kit's form -/
theorem zM_met {y : MethodName} {cc : ByteArray} {nL : Nat} {ret : Option FieldType} {d : Nat} {avs : List Value} {n : Nat} {S : Nat → zSh} {μ : zMem} {o : zO} {v : Option Value} (ho : o.1 = .inl v) (h : zM y cc nL ret d avs n S μ o) (l : Launch) (D : va_G) (tc adK adV σ : Nat → Nat) (sz : Nat) (hst : l.stackTraces = false) :
    Met l y (zWs y cc nL ret) (zRm d o.2.2.2.2.1 o.2.2.2.2.2) (zPc D tc adK adV σ avs n S μ sz) (zQc D (zA σ n sz) tc adK σ n o) o.2.2.2.2.1 o.2.2.2.2.2 (zA σ n sz) := by
  refine MetFree.mono (h l D tc adK adV σ sz hst) (fun _ _ h => h) (fun _ _ _ _ _ h => h) (fun a st oc t _ hq => ?_)
  rcases hq with hq | ⟨q, -, E, ce, L, hx, -⟩
  · exact hq
  · rw [hx.1.1] at ho
    cases ho
/-- what a call links -/
def zCk (own : String) (idx : Nat) (y : MethodName) (cc : ByteArray) (nL : Nat) (ret : Option FieldType) (na : Nat) : Prop :=
  Cond.code y cc nL ret ∈ zTb ∧ Cond.initialized y.cls ∈ zTb ∧ nL ≤ 22 ∧ (y.cls ≠ "java/lang/invoke/MethodHandle" ∧ y.cls ≠ "java/lang/invoke/VarHandle" ∧ (parseMethodDescriptor y.desc).map (fun d => d.parameters.length) = some na) ∧
  (Cond.methodLink own idx y ∈ zTb ∨ ∃ host, Cond.methodLinkNest own idx y host ∈ zNs)
def zCv (own : String) (idx : Nat) (y : MethodName) (cc : ByteArray) (nL : Nat) (ret : Option FieldType) (na ci : Nat) : Prop :=
  zCk own idx y cc nL ret na ∧ Cond.instanceMethod y ∈ zTb ∧ Cond.selects y.cls y y ∈ zTb ∧ (zCl[ci]?).map (fun q => q.1) = some y.cls
def zCs (own : String) (idx : Nat) (y : MethodName) (cc : ByteArray) (nL : Nat) (ret : Option FieldType) (na : Nat) : Prop :=
  zCk own idx y cc nL ret na ∧ Cond.static y ∈ zTb
theorem zWs_good {y : MethodName} {cc : ByteArray} {nL : Nat} {ret : Option FieldType} (h : Cond.code y cc nL ret ∈ zTb) : GoodIn zTb (zWs y cc nL ret) := fun w hw => by
  rcases List.mem_cons.mp hw with rfl | hw
  · exact zTb_good _ h
  · exact zTb_good _ hw
section ZCALL
variable {p : Program} {l : Launch} {e : Env} {R : Room} {s : State} {m : MethodId} {args : Array Value} {below : List Frame} {meth : Method} {c : Code} {D : va_G} {A : Nat → Prop} {tc adK adV : Nat → Nat} {H : Heap} {locs : List Loc} {cells slots : Nat} {Q : State → Prop}
variable {y y' : MethodName} {cc cc' : ByteArray} {nL nL' : Nat} {ret ret' : Option FieldType} {d d' pc : Nat} {n n0 : Nat} {S : Nat → zSh} {μ : zMem} {σ σ0 : Nat → Nat} {o : zO}
/-- the callee's start holds -/
theorem z_pre (C : zC y cc nL ret d p l R s m args meth c D A tc adK adV) (hH : n0 ≤ n ∧ zHe D A tc adK σ0 n0 σ n S μ H) (hS : va_S A s.heap H locs) {avs : List Value} : ∀ U : State, U.heap = H → s.WarmedH U.vm → zPc D tc adK adV σ avs n S μ H.size (avs.map (cv σ)).toArray U := by
  intro U hU hW
  obtain ⟨-, -, -, -, -, -, -, -, -, hK, hA, hG, -⟩ := C
  obtain ⟨-, hAg, hP, hD, -⟩ := hH
  refine ⟨rfl, by rw [hU], by rw [hU]; exact hP, va_K.moved hW.alike hK, hD.weaken (fun _ _ _ _ => trivial), hAg.2, ?_⟩
  rw [hU]
  refine ((hG.kept hS.2.1).narrow ?_).warm hW
  intro q hq
  rcases hq with ⟨k, h1, rfl⟩ | hq
  · exact hD.2 k _ (zW_get h1)
  · exact hA q (Nat.le_trans hS.1 hq)
theorem z_free (C : zC y cc nL ret d p l R s m args meth c D A tc adK adV) (hH : n0 ≤ n ∧ zHe D A tc adK σ0 n0 σ n S μ H) (hS : va_S A s.heap H locs) : ∀ q, zA σ n H.size q → A q := by
  intro q hq
  rcases hq with ⟨k, h1, rfl⟩ | hq
  · exact hH.2.2.2.1.2 k _ (zW_get h1)
  · exact C.2.2.2.2.2.2.2.2.2.2.1 q (Nat.le_trans hS.1 hq)
/-- behind the call: the world as it is then -/
theorem z_after (C : zC y cc nL ret d p l R s m args meth c D A tc adK adV) (hH : n0 ≤ n ∧ zHe D A tc adK σ0 n0 σ n S μ H) (hS : va_S A s.heap H locs) {σ1 : Nat → Nat} {n1 : Nat} {S1 : Nat → zSh} {μ1 : zMem} {H1 : Heap} (hn : n ≤ n1) (h : zHe D (zA σ n H.size) tc adK σ n σ1 n1 S1 μ1 H1) : n0 ≤ n1 ∧ zHe D A tc adK σ0 n0 σ1 n1 S1 μ1 H1 := by
  refine ⟨Nat.le_trans hH.1 hn, ⟨fun k hk => ?_, h.1.2⟩, h.2.1, h.2.2.1.weaken (fun k q _ hq => z_free C hH hS _ hq), fun he => ?_⟩
  · rw [h.1.1 k (Nat.lt_of_lt_of_le hk hH.1)]
    exact hH.2.1.1 k hk
  · have h1 := hH.1
    rw [h.2.2.2 (by omega), hH.2.2.2.2 (by omega)]
/-- a call that returned: on behind it -/
theorem z_cont (C : zC y cc nL ret d p l R s m args meth c D A tc adK adV) (hH : n0 ≤ n ∧ zHe D A tc adK σ0 n0 σ n S μ H) (hS : va_S A s.heap H locs) {v : Option Value} {o1 : zO} (ho : o1.1 = .inl v) (hn : n ≤ o1.2.1) {mc1 ms1 : Nat} {ls : Array Slot} {st0 rest : List Value} {a : Array Value}
    (hr : va_Run p l e R s m args below meth c H locs cells slots mc1 ms1 (F0 m pc ls st0) rest (zQc D (zA σ n H.size) tc adK σ n o1 a) (zA σ n H.size))
    (kk : ∀ (σ1 : Nat → Nat) (H1 : Heap) (locs1 : List Loc), (n0 ≤ o1.2.1 ∧ zHe D A tc adK σ0 n0 σ1 o1.2.1 o1.2.2.1 o1.2.2.2.1 H1) → (∀ k, k < n → σ1 k = σ k) → (o1.2.1 = n → σ1 = σ) → va_S A s.heap H1 locs1 → W p l e R s m args below meth c H1 locs1 (cells + mc1) (slots + ms1) Q (F0 m (pc + 3) ls ((v.map (cv σ1)).toList ++ rest))) :
    W p l e R s m args below meth c H locs cells slots Q (F0 m pc ls st0) := by
  intro T hT X
  obtain ⟨v', st₀, t, T', L', h0, X', hL, e1, e2, ⟨⟨σ1, v1, hv1, hv2, hHe⟩, hF⟩, st⟩ := hr T hT X
  rw [ho] at hv1
  cases hv1
  cases hv2
  rw [← e1] at hHe
  obtain ⟨k1, k2, k3⟩ := vx_keep h0 e1 hS (fun q _ h => z_free C hH hS q h) (fun q h => z_free C hH hS q h) hL hF
  obtain ⟨t2, a1, b1⟩ := kk σ1 T'.heap (locs ++ L') (z_after C hH hS hn hHe) hHe.1.1 hHe.2.2.2 k3 T' rfl X'
  exact ⟨t2, st t2 a1, b1⟩
end ZCALL
def bnd0 (r : zRes) (k : Int32 → zMem → zRes) : zRes := match r with
  | some (0, v, μ) => k v μ
  | _ => none
def zpush (ret : Option FieldType) (v : Int32) (st : List Value) : List Value := match ret with
  | none => st
  | some _ => .int v :: st
theorem bnd0_some {r : zRes} {k : Int32 → zMem → zRes} {q : Nat × Int32 × zMem} (h : bnd0 r k = some q) : ∃ v μ, r = some (0, v, μ) ∧ k v μ = some q := by
  match r, h with
  | none, h => cases h
  | some (0, v, μ), h => exact ⟨v, μ, rfl, h⟩
  | some (e + 1, v, μ), h => cases h
theorem bnd_some {r : zRes} {k : Int32 → zMem → zRes} {q : Nat × Int32 × zMem} (h : bnd r k = some q) : (∃ v μ, r = some (0, v, μ) ∧ k v μ = some q) ∨ ∃ e v μ, r = some (e + 1, v, μ) ∧ q = (e + 1, v, μ) := by
  match r, h with
  | none, h => cases h
  | some (0, v, μ), h => exact Or.inl ⟨v, μ, rfl, h⟩
  | some (e + 1, v, μ), h => exact Or.inr ⟨e, v, μ, rfl, (Option.some.inj h).symm⟩
section ZCALLS
variable {y y' : MethodName} {cc cc' : ByteArray} {nL nL' : Nat} {ret ret' : Option FieldType} {d d' pc idx b ci na : Nat} {L st stk As : List Value} {n : Nat} {S : Nat → zSh} {μ : zMem} {r1 : zRes} {k : Int32 → zMem → zRes}
theorem zpush_map (σ : Nat → Nat) (v : Int32) (st : List Value) : ((zRv ret v).map (cv σ)).toList ++ st.map (cv σ) = (zpush ret v st).map (cv σ) := by cases ret <;> rfl
theorem zRmap {σ : Nat → Nat} {As st : List Value} : (As.reverse ++ st).map (cv σ) = (As.map (cv σ)).reverse ++ st.map (cv σ) := by rw [List.map_append, List.map_reverse]
theorem zroom {σ : Nat → Nat} {m : MethodId} {pc : Nat} {ls : Array Slot} {rs st : List Value} (h : (st.map (fun v => v.category)).sum ≤ 8) : 2 * (F0 m pc ls rs).monitorRoom + ((st.map (cv σ)).map fun v => v.category).sum ≤ 8 := by
  refine lv_room ?_
  rw [List.map_map]
  have : ((fun v : Value => v.category) ∘ cv σ) = fun v : Value => v.category := funext (cv_cat σ)
  rw [this]
  exact h
theorem z_callV (hw : zCv y.cls idx y' cc' nL' ret' na ci) (hM : zMR y' cc' nL' ret' d' (.ref b :: As) n S μ r1) (hd : d' + 1 ≤ d) (hb : b < n) {z : Nat} {rf : Nat → Option Nat} (hs : S b = (0, ci, z, rf)) (hn : As.length = na) (hst : stk = As.reverse ++ .ref b :: st) (hrm : (st.map (fun v => v.category)).sum ≤ 8) (dg : decode cc pc = .ok (.invokevirtual idx, 3))
    (kk : ∀ v μ', zR y cc nL ret d (pc + 3) L (zpush ret' v st) n S μ' (k v μ')) : zR y cc nL ret d pc L stk n S μ (bnd0 r1 k) := by
  intro q hq p l e R s m args below meth c D A tc adK adV C σ0 n0 σ H locs ls cells slots mc ms hH hS hl hB
  obtain ⟨v, μ', rfl, hq⟩ := bnd0_some hq
  subst hst
  obtain ⟨⟨h1, h2, h3, h4, h5⟩, h6, h7, h8⟩ := hw
  obtain ⟨hx, hbb, hml, hown, -, -, -, -, hts, hK, hA, hG, hst, hfr, hlo⟩ := id C
  have hMM := zM_met (v := zRv ret' v) rfl (hM _ rfl) l D tc adK adV σ H.size hst
  obtain ⟨Q9, hQ9, hQc⟩ : ∃ Q9, zCl[ci]? = some Q9 ∧ Q9.1 = y'.cls := by
    cases hc9 : zCl[ci]? with
    | none => rw [hc9] at h8; cases h8
    | some Q9 => rw [hc9] at h8; exact ⟨Q9, rfl, Option.some.inj h8⟩
  have he := zW_get' (σ := σ) (tc := tc) (μ := μ) hb hs
  rw [zE_obj] at he
  have hrecv := va_recv hK hH.2.2.1 hQ9 he
  rw [hQc] at hrecv
  have hpre : PreV s H y'.cls (σ b) (zPc D tc adK adV σ (.ref b :: As) n S μ H.size) (As.map (cv σ)) := ⟨zPc_blind, hrecv, fun U hU hW => z_pre C hH hS (avs := .ref b :: As) U hU hW⟩
  have hstk : (F0 m pc ls ((As.reverse ++ Value.ref b :: st).map (cv σ))).stack = (As.map (cv σ)).reverse ++ .ref (σ b) :: st.map (cv σ) := zRmap
  have hroom : (zRm d' 0 0).frames + 1 ≤ R.frames ∧ 8 + (nL' + 11) + (zRm d' 0 0).locals ≤ R.locals := ⟨Nat.le_trans hd hfr, by show 8 + (nL' + 11) + 41 * d' ≤ R.locals; omega⟩
  have hrun : va_Run p l e R s m args below meth c H locs cells slots 0 0 (F0 m pc ls ((As.reverse ++ Value.ref b :: st).map (cv σ))) (st.map (cv σ)) (zQc D (zA σ n H.size) tc adK σ n (zOut ret' n S (0, v, μ')) (Value.ref (σ b) :: As.map (cv σ)).toArray) (zA σ n H.size) := by
    rcases h5 with h5 | ⟨host, h5⟩
    · exact va_runV ⟨hx, hbb, hml, hown, hts⟩ hMM ⟨callB_of na hts (zWs_good h1) rfl rfl rfl (hts _ h2) (hts _ h5) h4 hroom, hts _ h6, hts _ h7⟩ hpre rfl (by rw [List.length_map, hn]) hl.1.1 hstk (zroom hrm) dg ⟨by have := hB; omega, by have := hB; omega⟩
    · exact va_runVN ⟨hx, hbb, hml, hown, hts⟩ hMM ⟨va_cnB na hts (zWs_good h1) rfl rfl rfl (hG.2.2.2.2.1 _ h5) (hts _ h2) h4 hroom, hts _ h6, hts _ h7⟩ hpre rfl (by rw [List.length_map, hn]) hl.1.1 hstk (zroom hrm) dg ⟨by have := hB; omega, by have := hB; omega⟩
  refine z_cont C hH hS (v := zRv ret' v) (o1 := zOut ret' n S (0, v, μ')) rfl (Nat.le_refl _) hrun (fun σ1 H1 locs1 hH1 _ hσ hS1 => ?_)
  obtain rfl := hσ rfl
  rw [zpush_map]
  exact kk v μ' q hq p l e R s m args below meth c D A tc adK adV C σ0 n0 σ1 H1 locs1 ls _ _ mc ms hH1 hS1 hl hB
theorem z_callS (hw : zCs y.cls idx y' cc' nL' ret' na) (hM : zMR y' cc' nL' ret' d' As n S μ r1) (hd : d' + 1 ≤ d) (hn : As.length = na) (hst : stk = As.reverse ++ st) (hrm : (st.map (fun v => v.category)).sum ≤ 8) (dg : decode cc pc = .ok (.invokestatic idx, 3))
    (kk : ∀ v μ', zR y cc nL ret d (pc + 3) L (zpush ret' v st) n S μ' (k v μ')) : zR y cc nL ret d pc L stk n S μ (bnd0 r1 k) := by
  intro q hq p l e R s m args below meth c D A tc adK adV C σ0 n0 σ H locs ls cells slots mc ms hH hS hl hB
  obtain ⟨v, μ', rfl, hq⟩ := bnd0_some hq
  subst hst
  obtain ⟨⟨h1, h2, h3, h4, h5⟩, h6⟩ := hw
  obtain ⟨hx, hbb, hml, hown, -, -, -, -, hts, hK, hA, hG, hst, hfr, hlo⟩ := id C
  have hMM := zM_met (v := zRv ret' v) rfl (hM _ rfl) l D tc adK adV σ H.size hst
  have hpre : PreS s H (zPc D tc adK adV σ As n S μ H.size) (As.map (cv σ)) := ⟨zPc_blind, fun U hU hW => z_pre C hH hS (avs := As) U hU hW⟩
  have hstk : (F0 m pc ls ((As.reverse ++ st).map (cv σ))).stack = (As.map (cv σ)).reverse ++ st.map (cv σ) := zRmap
  have hroom : (zRm d' 0 0).frames + 1 ≤ R.frames ∧ 8 + (nL' + 11) + (zRm d' 0 0).locals ≤ R.locals := ⟨Nat.le_trans hd hfr, by show 8 + (nL' + 11) + 41 * d' ≤ R.locals; omega⟩
  have hrun : va_Run p l e R s m args below meth c H locs cells slots 0 0 (F0 m pc ls ((As.reverse ++ st).map (cv σ))) (st.map (cv σ)) (zQc D (zA σ n H.size) tc adK σ n (zOut ret' n S (0, v, μ')) (As.map (cv σ)).toArray) (zA σ n H.size) := by
    rcases h5 with h5 | ⟨host, h5⟩
    · exact va_runS ⟨hx, hbb, hml, hown, hts⟩ hMM ⟨callB_of na hts (zWs_good h1) rfl rfl rfl (hts _ h2) (hts _ h5) h4 hroom, hts _ h6⟩ hpre rfl (by rw [List.length_map, hn]) hl.1.1 hstk (zroom hrm) dg ⟨by have := hB; omega, by have := hB; omega⟩
    · exact va_runSN ⟨hx, hbb, hml, hown, hts⟩ hMM ⟨va_cnB na hts (zWs_good h1) rfl rfl rfl (hG.2.2.2.2.1 _ h5) (hts _ h2) h4 hroom, hts _ h6, trivial⟩ hpre rfl (by rw [List.length_map, hn]) hl.1.1 hstk (zroom hrm) dg ⟨by have := hB; omega, by have := hB; omega⟩
  refine z_cont C hH hS (v := zRv ret' v) (o1 := zOut ret' n S (0, v, μ')) rfl (Nat.le_refl _) hrun (fun σ1 H1 locs1 hH1 _ hσ hS1 => ?_)
  obtain rfl := hσ rfl
  rw [zpush_map]
  exact kk v μ' q hq p l e R s m args below meth c D A tc adK adV C σ0 n0 σ1 H1 locs1 ls _ _ mc ms hH1 hS1 hl hB
end ZCALLS
