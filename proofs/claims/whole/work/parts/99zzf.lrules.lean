/-! THE LAW'S WALK, 3: the law's own judgement; R_law .. lw_At begin as the skeleton's text -/
def R_law : String := "TwoHandlesLaw"
def lw_P (b : Addr) (xs : List Int32) (args : Array Value) (s : State) : Prop := args = #[.ref b] ∧ s.IntsAt b xs ∧ xs.length ≤ 3584 ∧ (Jvm.Cond.and given_1 narrow_1).before args s = true
def lw_Q (_ : Array Value) (s : State) (o : Outcome) (t : State) : Prop := o = .returned (some (.int 1)) ∧ Framed s o t [] 601024 7293034
def lw_Z (below : List Frame) (a : Array Value) (s : State) : State → Prop := fun t => ∃ o, t.status = .running ∧ Ended t below o ∧ lw_Q a s o t
/-- the law's own end, with 1 on the stack, nothing written that was there before, its room as the claim has it -/
theorem lw_ret {p : Program} {l : Launch} {e : Env} {s : State} {m : MethodId} {below : List Frame} {meth : Method} {c : Code} {b : Nat} (hx : p.tables.exec = Jvm.exec) (hb : c.code = code) (hr : meth.sig.returnType = ret) (hlocks : meth.locks = false) {pc : Nat} {H : Heap} {ls : Array Slot} (hdg : decode code pc = .ok (.ireturn, 1)) : W p l e room_1 s m #[Value.ref b] below meth c H [] 601024 7293034 (lw_Z below #[Value.ref b] s) (F0 m pc ls [.int 1]) := by
  intro T hT X
  obtain ⟨fs, hret, hrun, hended, hW, hframe⟩ := X.leave (v := some (.int 1)) (hlocks := hlocks) (fun h => by rw [hr] at h; cases h)
  have hmeth' : T.vm.method? m = some meth := X.method'
  refine ⟨T.setFrames fs, ?_, .returned (some (.int 1)), hrun, hended, rfl, ⟨_, rfl⟩, hW, hframe⟩
  jvm_step X.here [X.here.top, hx, hb, hdg, hmeth', hr, ret, narrow_b1]
  (try refine ⟨rfl, ?_⟩); (try refine ⟨rfl, ?_⟩)
  first | (intro acts; rw [hret _ acts rfl rfl rfl]) | rw [hret _ _ rfl rfl rfl]
  exact Steps.refl _
/-- what holds at the law's entry: the machine, the code, the tables' words (any of lw_tbl by 'hts w (by decide +kernel)'), the script of L ints xs at the cell b, what the Statement gives of the start (any of its parts by flat_of_before) -/
def lw_At (p : Program) (s : State) (m : MethodId) (meth : Method) (c : Code) (b L : Nat) (xs : Nat → Int32) : Prop :=
  p.tables.exec = Jvm.exec ∧ c.code = code ∧ meth.sig.returnType = ret ∧ c.maxLocals = 7 ∧ s.vm.findClass R_law = some m.cls ∧ (∀ w ∈ lw_tbl, w.before #[Value.ref b] s = true) ∧ va_X b L xs s s.heap ∧ b < s.heap.size ∧ meth.locks = false ∧ (Jvm.Cond.and given_1 narrow_1).before #[Value.ref b] s = true
/-- the script is a constant: key 6000000 -/
def zX (len : Nat) (sc : Nat → Int32) (R : Room) (s : State) (args : Array Value) (A : Nat → Prop) (adK : Nat → Nat) : Prop := R = room_1 ∧ args = #[.ref (adK 5000000)] ∧ va_X (adK 5000000) len sc s s.heap ∧ adK 5000000 < s.heap.size ∧ ∀ q, A q → s.heap.size ≤ q
/-- from this frame the machine ends the law as it should, with ca cells and cb slots at most -/
def zLW (len : Nat) (sc : Nat → Int32) (y : MethodName) (cc : ByteArray) (nL : Nat) (ret : Option FieldType) (d pc : Nat) (L st : List Value) (n : Nat) (S : Nat → zSh) (μ : zMem) (ca cb : Nat) : Prop :=
  ∀ (p : Program) (l : Launch) (e : Env) (R : Room) (s : State) (m : MethodId) (args : Array Value) (below : List Frame) (meth : Method) (c : Code) (D : va_G) (A : Nat → Prop) (tc adK adV : Nat → Nat), zC y cc nL ret d p l R s m args meth c D A tc adK adV → zX len sc R s args A adK →
  ∀ (σ0 : Nat → Nat) (n0 : Nat) (σ : Nat → Nat) (H : Heap) (locs : List Loc) (ls : Array Slot) (cells slots mc ms : Nat), (n0 ≤ n ∧ zHe D A tc adK σ0 n0 σ n S μ H) → va_S A s.heap H locs → zL σ nL L ls → (cells + ca ≤ mc ∧ slots + cb ≤ ms ∧ mc ≤ R.cells ∧ ms ≤ R.slots) →
  W p l e R s m args below meth c H locs cells slots (lw_Z below args s) (F0 m pc ls (st.map (cv σ)))
section ZLW
variable {len : Nat} {sc : Nat → Int32} {y y' : MethodName} {cc cc' : ByteArray} {nL nL' : Nat} {ret ret' : Option FieldType} {d d' pc idx b ci na B a1 b1 : Nat} {L st stk As : List Value} {n n1 n2 n' : Nat} {S S1 S2 S' : Nat → zSh} {μ μ1 μ2 μ' : zMem} {ca cb : Nat} {v : Option Value} {hh : List (Nat × Nat × Nat × Nat)}
theorem yA_aload_n {i : Fin 4} {x : Nat} (dg : decode cc pc = .ok (.aload_n i, 1)) (hL : L[(i : Nat)]? = some (.ref x)) (k : zLW len sc y cc nL ret d (pc + 1) L (.ref x :: st) (n) (S) (μ) ca cb) : zLW len sc y cc nL ret d (pc) L (st) (n) (S) (μ) ca cb := fun p l e R s m args below meth c D A tc adK adV C X σ0 n0 σ H locs ls cells slots mc ms hH hS hl hB => lv_aload_n C.1 C.2.1 dg rfl (zL_at hl hL (fun h => by cases h)) (k p l e R s m args below meth c D A tc adK adV C X σ0 n0 σ H locs ls cells slots mc ms hH hS hl hB)
theorem yA_iconst {z : Int} (v : Int32) (dg : decode cc pc = .ok (.iconst z, 1)) (hv : Int32.ofInt z = v) (k : zLW len sc y cc nL ret d (pc + 1) L (.int v :: st) (n) (S) (μ) ca cb) : zLW len sc y cc nL ret d (pc) L (st) (n) (S) (μ) ca cb := fun p l e R s m args below meth c D A tc adK adV C X σ0 n0 σ H locs ls cells slots mc ms hH hS hl hB => lv_iconst C.1 C.2.1 dg hv (k p l e R s m args below meth c D A tc adK adV C X σ0 n0 σ H locs ls cells slots mc ms hH hS hl hB)
theorem yA_bipush {z : Int} (v : Int32) (dg : decode cc pc = .ok (.bipush z, 2)) (hv : (Int8.ofInt z).toInt32 = v) (k : zLW len sc y cc nL ret d (pc + 2) L (.int v :: st) (n) (S) (μ) ca cb) : zLW len sc y cc nL ret d (pc) L (st) (n) (S) (μ) ca cb := fun p l e R s m args below meth c D A tc adK adV C X σ0 n0 σ H locs ls cells slots mc ms hH hS hl hB => lv_bipush C.1 C.2.1 dg hv (k p l e R s m args below meth c D A tc adK adV C X σ0 n0 σ H locs ls cells slots mc ms hH hS hl hB)
theorem yA_dup {v : Value} (dg : decode cc pc = .ok (.dup, 1)) (hv : v.category = 1) (k : zLW len sc y cc nL ret d (pc + 1) L (v :: v :: st) (n) (S) (μ) ca cb) : zLW len sc y cc nL ret d (pc) L (v :: st) (n) (S) (μ) ca cb := fun p l e R s m args below meth c D A tc adK adV C X σ0 n0 σ H locs ls cells slots mc ms hH hS hl hB => lv_dup C.1 C.2.1 dg ((cv_cat σ v).trans hv) (k p l e R s m args below meth c D A tc adK adV C X σ0 n0 σ H locs ls cells slots mc ms hH hS hl hB)
theorem yA_new {ci : Nat} {CC : String} {T : u_T} {N : Nat} (hwf : zWf n S) (hn : n < 1000000) (hL : ∀ v ∈ L, v ≠ .ref n) (hst : ∀ v ∈ st, v ≠ .ref n) (hc : zCl[ci]? = some (CC, T, N)) (hN : N = zNf ci) (hu : ∀ w ∈ u_ws CC T N, w ∈ zTb) (hty : ∀ k, k < N → parseFieldDescriptor (T k).2.2.1 = some (zTy ci k)) (hlk : Cond.classLink y.cls idx CC ∈ zTb) (hin : Cond.instantiable CC N ∈ zTb) (hini : Cond.initialized CC ∈ zTb) (hd0 : ∀ j, j < N → defaultValue (zTy ci j) = if zInt ci j = true then .int 0 else .null) (dg : decode cc pc = .ok (.new idx, 3))
    (k : zWf (n + 1) (zupS S n (0, ci, 0, zn)) → zLW len sc y cc nL ret d (pc + 3) L (.ref n :: st) (n + 1) (zupS S n (0, ci, 0, zn)) (zup μ n (fun _ => 0)) ca cb) : zLW len sc y cc nL ret d (pc) L (st) (n) (S) (μ) (ca + 1) (cb + N) := by
  intro p l e R s m args below meth c D A tc adK adV C X σ0 n0 σ H locs ls cells slots mc ms hH hS hl hB
  have k := k (zWf_new hwf (fun j r h => by cases (show (none : Option Nat) = some r from h)))
  obtain ⟨hx, hbb, -, hown, -, -, hnm, -, hts, hK, hA, hG, -⟩ := id C
  have hB' : cells + (ca + 1) ≤ mc ∧ slots + (cb + N) ≤ ms ∧ mc ≤ R.cells ∧ ms ≤ R.slots := hB
  have hfs : ∀ j, j < N → defaultValue (zTy ci j) = vp_V (zFs σ ci zn (fun _ => 0)) j := fun j hj => by
    rw [hd0 j hj]
    unfold vp_V zFs
    rw [List.getD_eq_getElem?_getD, List.getElem?_map, List.getElem?_range (by omega)]
    unfold zFld
    by_cases hz : zInt ci j = true
    · simp [hz]
    · simp [hz, zn, va_rf]
  refine va_new (fs := zFs σ ci zn (fun _ => 0)) hx hbb hts hu (zTy ci) hty hown (hts _ hlk) (hts _ hin) (hts _ hini) hK hH.2.2.1 hH.2.2.2.1 hS hA hc hfs (by omega) (by omega) dg (fun q H1 hP1 hD1 hS1 => ?_)
  have hH1 := zHe_new (sh := (0, ci, 0, zn)) (f := fun _ => 0) hwf hn (e := .inr (ci, zFs σ ci zn (fun _ => 0))) (by rw [zE_congr (σ := σ) (σ' := zus σ n q) (sh := (0, ci, 0, zn)) (fun j r h => by cases (show (none : Option Nat) = some r from h))]; rfl) hH hP1 hD1
  have kk := (k p l e R s m args below meth c D A tc adK adV C X σ0 n0 (zus σ n q) H1 locs ls (cells + 1) (slots + N) mc ms hH1 hS1 (zL_us hL hl) ⟨by show cells + 1 + ca ≤ mc; omega, by show slots + N + cb ≤ ms; omega, hB.2.2.1, hB.2.2.2⟩)
  rw [List.map_cons, map_us hst] at kk
  have e1 : cv (zus σ n q) (.ref n) = .ref q := congrArg Value.ref (if_pos rfl)
  rw [e1] at kk
  exact kk
theorem yA_newl {N : Nat} {w : Int32} (hwf : zWf n S) (hn : n < 1000000) (hL : ∀ v ∈ L, v ≠ .ref n) (hst : ∀ v ∈ st, v ≠ .ref n) (hw : Cond.arrayClass .long ∈ zTb) (hw0 : ¬ w < 0) (hN : w.toNatClampNeg = N) (hby : N * 8 ≤ 536870912) (dg : decode cc pc = .ok (.newarray .long, 2))
    (k : zWf (n + 1) (zupS S n (3, 5, N, zn)) → zLW len sc y cc nL ret d (pc + 2) L (.ref n :: st) (n + 1) (zupS S n (3, 5, N, zn)) (zup μ n (fun _ => 0)) ca cb) : zLW len sc y cc nL ret d (pc) L (.int w :: st) (n) (S) (μ) (ca + 1) (cb + N) := by
  intro p l e R s m args below meth c D A tc adK adV C X σ0 n0 σ H locs ls cells slots mc ms hH hS hl hB
  have k := k (zWf_new hwf (fun j r h => by cases (show (none : Option Nat) = some r from h)))
  obtain ⟨hx, hbb, -, hown, -, -, hnm, -, hts, hK, hA, hG, -⟩ := id C
  have hB' : cells + (ca + 1) ≤ mc ∧ slots + (cb + N) ≤ ms ∧ mc ≤ R.cells ∧ ms ≤ R.slots := hB
  refine va_newa (a0 := (N, .inr (.inl (fun _ => 0)))) (atype := .long) (ty := .long) hx hbb (hts _ hw) rfl hK hH.2.2.1 hH.2.2.2.1 hS hA (fun cA => rfl) hw0 hN hby (by omega) (by omega) dg (fun q cA H1 hK1 hP1 hD1 hS1 => ?_)
  obtain rfl := zcA 5 rfl (fun C h => by cases h) hK hK1
  have hH1 := zHe_new (sh := (3, 5, N, zn)) (f := fun _ => 0) hwf hn (by rw [zE_lng]; rfl) hH hP1 hD1
  have kk := (k p l e R s m args below meth c D A tc adK adV C X σ0 n0 (zus σ n q) H1 locs ls (cells + 1) (slots + N) mc ms hH1 hS1 (zL_us hL hl) ⟨by show cells + 1 + ca ≤ mc; omega, by show slots + N + cb ≤ ms; omega, hB.2.2.1, hB.2.2.2⟩)
  rw [List.map_cons, map_us hst] at kk
  have e1 : cv (zus σ n q) (.ref n) = .ref q := congrArg Value.ref (if_pos rfl)
  rw [e1] at kk
  exact kk
theorem yA_callI {b na a1 b1 n1 : Nat} {As stk : List Value} {S1 : Nat → zSh} {μ1 : zMem} (hw : zCk y.cls idx y' cc' nL' none na) (hi9 : Cond.instanceMethod y' ∈ zTb) (hnm9 : y'.name = "<init>") (hM : zM y' cc' nL' none d' (.ref b :: As) n S μ (.inl none, n1, S1, μ1, a1, b1)) (hd : d' + 1 ≤ d) (hn : As.length = na) (hst9 : stk = As.reverse ++ .ref b :: st) (hrm : (st.map (fun v => v.category)).sum ≤ 8) (hn1 : n ≤ n1) (hn2 : n1 ≤ 1000000)
    (hL : ∀ v ∈ L, ∀ q, v = .ref q → q < n ∨ 1000000 ≤ q) (hst : ∀ v ∈ st, ∀ q, v = .ref q → q < n ∨ 1000000 ≤ q) (dg : decode cc pc = .ok (.invokespecial idx, 3))
    (k : zLW len sc y cc nL ret d (pc + 3) L (st) (n1) (S1) (μ1) ca cb) : zLW len sc y cc nL ret d (pc) L (stk) (n) (S) (μ) (ca + a1) (cb + b1) := by
  intro p l e R s m args below meth c D A tc adK adV C X σ0 n0 σ H locs ls cells slots mc ms hH hS hl hB
  subst hst9
  obtain ⟨h1, h2, h3, h4, h5⟩ := hw
  obtain ⟨hx, hbb, hml, hown, -, -, -, -, hts, hK, hA, hG, hstt, hfr, hlo⟩ := id C
  have hB' : cells + (ca + a1) ≤ mc ∧ slots + (cb + b1) ≤ ms ∧ mc ≤ R.cells ∧ ms ≤ R.slots := hB
  have hMM := zM_met (v := none) rfl hM l D tc adK adV σ H.size hstt
  have hpre : PreS s H (zPc D tc adK adV σ (.ref b :: As) n S μ H.size) (.ref (σ b) :: As.map (cv σ)) := ⟨zPc_blind, fun U hU hW => z_pre C hH hS (avs := .ref b :: As) U hU hW⟩
  have hstk : (F0 m pc ls ((As.reverse ++ Value.ref b :: st).map (cv σ))).stack = (As.map (cv σ)).reverse ++ .ref (σ b) :: st.map (cv σ) := zRmap
  have hroom : (zRm d' a1 b1).frames + 1 ≤ R.frames ∧ 8 + (nL' + 11) + (zRm d' a1 b1).locals ≤ R.locals := ⟨Nat.le_trans hd hfr, by show 8 + (nL' + 11) + 41 * d' ≤ R.locals; omega⟩
  have hrun : va_Run p l e R s m args below meth c H locs cells slots a1 b1 (F0 m pc ls ((As.reverse ++ Value.ref b :: st).map (cv σ))) (st.map (cv σ)) (zQc D (zA σ n H.size) tc adK σ n (.inl none, n1, S1, μ1, a1, b1) (Value.ref (σ b) :: As.map (cv σ)).toArray) (zA σ n H.size) := by
    rcases h5 with h5 | ⟨host, h5⟩
    · exact va_runI ⟨hx, hbb, hml, hown, hts⟩ hMM ⟨callB_of na hts (zWs_good h1) rfl rfl rfl (hts _ h2) (hts _ h5) h4 hroom, hnm9, hts _ hi9⟩ hpre rfl (by rw [List.length_map, hn]) hl.1.1 hstk (zroom hrm) dg ⟨by omega, by omega⟩
    · exact va_runIN ⟨hx, hbb, hml, hown, hts⟩ hMM ⟨va_cnB na hts (zWs_good h1) rfl rfl rfl (hG.2.2.2.2.1 _ h5) (hts _ h2) h4 hroom, hnm9, hts _ hi9⟩ hpre rfl (by rw [List.length_map, hn]) hl.1.1 hstk (zroom hrm) dg ⟨by omega, by omega⟩
  refine z_cont C hH hS (v := none) (o1 := (.inl none, n1, S1, μ1, a1, b1)) rfl hn1 hrun (fun σ1 H1 locs1 hH1 hσ hσ2 hS1 => ?_)
  have hsame : ∀ v : Value, (∀ q, v = .ref q → q < n ∨ 1000000 ≤ q) → cv σ1 v = cv σ v := fun v hv => by
    cases v <;> first | rfl | (rename_i q; rcases hv q rfl with h | h; exact congrArg Value.ref (hσ q h); exact congrArg Value.ref (by obtain ⟨j, rfl⟩ := Nat.exists_eq_add_of_le h; rw [hH1.2.1.2 j, hH.2.1.2 j]))
  have hl1 : zL σ1 nL L ls := by
    refine ⟨⟨hl.1.1, hl.1.2.1, fun x hx => ?_⟩, hl.2⟩
    obtain ⟨v, g1, g2, g3⟩ := zls_inv hx
    rw [g3, hsame v (hL v (List.mem_of_getElem? g1))]
    exact zL_at hl g1 g2
  have hst1 : st.map (cv σ1) = st.map (cv σ) := List.map_congr_left (fun v hv => hsame v (hst v hv))
  have kk := (k p l e R s m args below meth c D A tc adK adV C X σ0 n0 σ1 H1 locs1 ls (cells + a1) (slots + b1) mc ms hH1 hS1 hl1 ⟨by show cells + a1 + ca ≤ mc; omega, by show slots + b1 + cb ≤ ms; omega, hB.2.2.1, hB.2.2.2⟩)
  rw [hst1] at kk
  exact kk
theorem yA_congr {S2 : Nat → zSh} {μ2 : zMem} (h : ∀ k, k < n → S k = S2 k ∧ μ k = μ2 k) (k : zLW len sc y cc nL ret d (pc) L (st) (n) (S2) (μ2) ca cb) : zLW len sc y cc nL ret d (pc) L (st) (n) (S) (μ) ca cb := by
  intro p l e R s m args below meth c D A tc adK adV C X σ0 n0 σ H locs ls cells slots mc ms hH hS hl hB
  have ez : zW σ tc n S μ = zW σ tc n S2 μ2 := by
    unfold zW
    apply List.map_congr_left
    intro q hq
    obtain ⟨h1, h2⟩ := h q (List.mem_range.mp hq)
    rw [h1, h2]
  exact (k p l e R s m args below meth c D A tc adK adV C X σ0 n0 σ H locs ls cells slots mc ms ⟨hH.1, hH.2.1, ez ▸ hH.2.2.1, ez ▸ hH.2.2.2.1, hH.2.2.2.2⟩ hS hl hB)
theorem yA_iload {i : Nat} {x : Int32} (dg : decode cc pc = .ok (.iload i, 2)) (hL : L[i]? = some (.int x)) (k : zLW len sc y cc nL ret d (pc + 2) (L) (.int x :: st) n S (μ) ca cb) : zLW len sc y cc nL ret d (pc) (L) (st) n S (μ) ca cb := fun p l e R s m args below meth c D A tc adK adV C X σ0 n0 σ H locs ls cells slots mc ms hH hS hl hB => lv_iload C.1 C.2.1 dg (zL_at hl hL (fun h => by cases h)) (k p l e R s m args below meth c D A tc adK adV C X σ0 n0 σ H locs ls cells slots mc ms hH hS hl hB)
theorem yA_istore {i : Nat} {x : Int32} {L' : List Value} (dg : decode cc pc = .ok (.istore i, 2)) (hn : i < nL) (hL : L.set i (.int x) = L') (k : zLW len sc y cc nL ret d (pc + 2) (L') (st) n S (μ) ca cb) : zLW len sc y cc nL ret d (pc) (L) (.int x :: st) n S (μ) ca cb := fun p l e R s m args below meth c D A tc adK adV C X σ0 n0 σ H locs ls cells slots mc ms hH hS hl hB => lv_istore C.1 C.2.1 dg hl.1 hn rfl (fun ls' h' => (k p l e R s m args below meth c D A tc adK adV C X σ0 n0 σ H locs ls' cells slots mc ms hH hS (hL ▸ zL_set (v := .int x) hl rfl rfl h') hB))
theorem yA_locals {L' : List Value} (hs : ∀ (i : Nat) (v : Value), L'[i]? = some v → v ≠ .null → L[i]? = some v) (k : zLW len sc y cc nL ret d (pc) (L') (st) n S (μ) ca cb) : zLW len sc y cc nL ret d (pc) (L) (st) n S (μ) ca cb := fun p l e R s m args below meth c D A tc adK adV C X σ0 n0 σ H locs ls cells slots mc ms hH hS hl hB => (k p l e R s m args below meth c D A tc adK adV C X σ0 n0 σ H locs ls cells slots mc ms hH hS (zL_sub hl hs) hB)
theorem yA_iadd {a b : Int32} (dg : decode cc pc = .ok (.iadd, 1)) (k : zLW len sc y cc nL ret d (pc + 1) (L) (.int (a + b) :: st) n S (μ) ca cb) : zLW len sc y cc nL ret d (pc) (L) (.int b :: .int a :: st) n S (μ) ca cb := fun p l e R s m args below meth c D A tc adK adV C X σ0 n0 σ H locs ls cells slots mc ms hH hS hl hB => lv_iadd C.1 C.2.1 dg (k p l e R s m args below meth c D A tc adK adV C X σ0 n0 σ H locs ls cells slots mc ms hH hS hl hB)
theorem yA_isub {a b : Int32} (dg : decode cc pc = .ok (.isub, 1)) (k : zLW len sc y cc nL ret d (pc + 1) (L) (.int (a - b) :: st) n S (μ) ca cb) : zLW len sc y cc nL ret d (pc) (L) (.int b :: .int a :: st) n S (μ) ca cb := fun p l e R s m args below meth c D A tc adK adV C X σ0 n0 σ H locs ls cells slots mc ms hH hS hl hB => lv_isub C.1 C.2.1 dg (k p l e R s m args below meth c D A tc adK adV C X σ0 n0 σ H locs ls cells slots mc ms hH hS hl hB)
theorem yA_iand {a b : Int32} (dg : decode cc pc = .ok (.iand, 1)) (k : zLW len sc y cc nL ret d (pc + 1) (L) (.int (a &&& b) :: st) n S (μ) ca cb) : zLW len sc y cc nL ret d (pc) (L) (.int b :: .int a :: st) n S (μ) ca cb := fun p l e R s m args below meth c D A tc adK adV C X σ0 n0 σ H locs ls cells slots mc ms hH hS hl hB => lv_iand C.1 C.2.1 dg (k p l e R s m args below meth c D A tc adK adV C X σ0 n0 σ H locs ls cells slots mc ms hH hS hl hB)
theorem yA_astore_n {i : Fin 4} {x : Nat} {L' : List Value} (dg : decode cc pc = .ok (.astore_n i, 1)) (hn : (i : Nat) < nL) (hL : L.set (i : Nat) (.ref x) = L') (k : zLW len sc y cc nL ret d (pc + 1) (L') (st) n S (μ) ca cb) : zLW len sc y cc nL ret d (pc) (L) (.ref x :: st) n S (μ) ca cb := fun p l e R s m args below meth c D A tc adK adV C X σ0 n0 σ H locs ls cells slots mc ms hH hS hl hB => lv_astore_n C.1 C.2.1 dg rfl hl.1 hn rfl (fun ls' h' => (k p l e R s m args below meth c D A tc adK adV C X σ0 n0 σ H locs ls' cells slots mc ms hH hS (hL ▸ zL_set (v := .ref x) hl rfl rfl h') hB))
theorem yA_goto {off : Int} {tgt : Nat} (dg : decode cc pc = .ok (.goto off, 3)) (ht : (pc : Int) + off = (tgt : Int)) (k : zLW len sc y cc nL ret d (tgt) (L) (st) n S (μ) ca cb) : zLW len sc y cc nL ret d (pc) (L) (st) n S (μ) ca cb := fun p l e R s m args below meth c D A tc adK adV C X σ0 n0 σ H locs ls cells slots mc ms hH hS hl hB => lv_goto C.1 C.2.1 dg ht (k p l e R s m args below meth c D A tc adK adV C X σ0 n0 σ H locs ls cells slots mc ms hH hS hl hB)
theorem yA_iinc {i : Nat} {z : Int} {x v : Int32} {L' : List Value} (dg : decode cc pc = .ok (.iinc i z, 3)) (hn : i < nL) (hx : L[i]? = some (.int x)) (hv : x + Int32.ofInt z = v) (hL : L.set i (.int v) = L') (k : zLW len sc y cc nL ret d (pc + 3) (L') (st) n S (μ) ca cb) : zLW len sc y cc nL ret d (pc) (L) (st) n S (μ) ca cb := by
  intro p l e R s m args below meth c D A tc adK adV C X σ0 n0 σ H locs ls cells slots mc ms hH hS hl hB
  obtain ⟨j, hj⟩ := List.getElem?_of_mem (zls_mem (σ := σ) hx (fun h => by cases h))
  exact lv_iinc C.1 C.2.1 dg hl.1 hj hv hn rfl (fun ls' h' => (k p l e R s m args below meth c D A tc adK adV C X σ0 n0 σ H locs ls' cells slots mc ms hH hS (hL ▸ zL_set (v := .int v) hl rfl rfl h') hB))
theorem yA_i2l {x : Int32} (dg : decode cc pc = .ok (.i2l, 1)) (k : zLW len sc y cc nL ret d (pc + 1) L (.long x.toInt64 :: st) n S μ ca cb) : zLW len sc y cc nL ret d pc L (.int x :: st) n S μ ca cb := fun p l e R s m args below meth c D A tc adK adV C X σ0 n0 σ H locs ls cells slots mc ms hH hS hl hB => lv_i2l C.1 C.2.1 dg rfl (k p l e R s m args below meth c D A tc adK adV C X σ0 n0 σ H locs ls cells slots mc ms hH hS hl hB)
theorem yA_icmp_gt_t {x w : Int32} {off : Int} {tgt : Nat} (dg : decode cc pc = .ok (.if_icmp .gt off, 3)) (ht : (pc : Int) + off = (tgt : Int)) (h9 : w < x) (k : zLW len sc y cc nL ret d (tgt) L st n S μ ca cb) : zLW len sc y cc nL ret d pc L (.int w :: .int x :: st) n S μ ca cb := fun p l e R s m args below meth c D A tc adK adV C X σ0 n0 σ H locs ls cells slots mc ms hH hS hl hB => lv_icmp_gt C.1 C.2.1 dg ht (fun _ => k p l e R s m args below meth c D A tc adK adV C X σ0 n0 σ H locs ls cells slots mc ms hH hS hl hB) (fun h => absurd h9 h)
theorem yA_icmp_gt_f {x w : Int32} {off : Int} {tgt : Nat} (dg : decode cc pc = .ok (.if_icmp .gt off, 3)) (ht : (pc : Int) + off = (tgt : Int)) (h9 : ¬ (w < x)) (k : zLW len sc y cc nL ret d (pc + 3) L st n S μ ca cb) : zLW len sc y cc nL ret d pc L (.int w :: .int x :: st) n S μ ca cb := fun p l e R s m args below meth c D A tc adK adV C X σ0 n0 σ H locs ls cells slots mc ms hH hS hl hB => lv_icmp_gt C.1 C.2.1 dg ht (fun h => absurd h h9) (fun _ => k p l e R s m args below meth c D A tc adK adV C X σ0 n0 σ H locs ls cells slots mc ms hH hS hl hB)
theorem yA_icmp_eq_t {x w : Int32} {off : Int} {tgt : Nat} (dg : decode cc pc = .ok (.if_icmp .eq off, 3)) (ht : (pc : Int) + off = (tgt : Int)) (h9 : x = w) (k : zLW len sc y cc nL ret d (tgt) L st n S μ ca cb) : zLW len sc y cc nL ret d pc L (.int w :: .int x :: st) n S μ ca cb := fun p l e R s m args below meth c D A tc adK adV C X σ0 n0 σ H locs ls cells slots mc ms hH hS hl hB => lv_icmp_eq C.1 C.2.1 dg ht (fun _ => k p l e R s m args below meth c D A tc adK adV C X σ0 n0 σ H locs ls cells slots mc ms hH hS hl hB) (fun h => absurd h9 h)
theorem yA_if_eq_t {x : Int32} {off : Int} {tgt : Nat} (dg : decode cc pc = .ok (.ifCond .eq off, 3)) (ht : (pc : Int) + off = (tgt : Int)) (h9 : x = 0) (k : zLW len sc y cc nL ret d (tgt) L st n S μ ca cb) : zLW len sc y cc nL ret d pc L (.int x :: st) n S μ ca cb := fun p l e R s m args below meth c D A tc adK adV C X σ0 n0 σ H locs ls cells slots mc ms hH hS hl hB => lv_if_eq C.1 C.2.1 dg ht (fun _ => k p l e R s m args below meth c D A tc adK adV C X σ0 n0 σ H locs ls cells slots mc ms hH hS hl hB) (fun h => absurd h9 h)
theorem yA_tabIn {x : Int32} {dflt lo hi : Int} {offs : Array Int} {ln : Nat} {off : Int} {tgt : Nat} (dg : decode cc pc = .ok (.tableswitch dflt lo hi offs, ln)) (h1 : ¬ x.toInt < lo) (h2 : ¬ hi < x.toInt) (ho : offs[(x.toInt - lo).toNat]? = some off) (ht : (pc : Int) + off = (tgt : Int)) (k : zLW len sc y cc nL ret d tgt L st n S μ ca cb) : zLW len sc y cc nL ret d pc L (.int x :: st) n S μ ca cb := fun p l e R s m args below meth c D A tc adK adV C X σ0 n0 σ H locs ls cells slots mc ms hH hS hl hB => lv_tableIn C.1 C.2.1 dg h1 h2 ho ht (k p l e R s m args below meth c D A tc adK adV C X σ0 n0 σ H locs ls cells slots mc ms hH hS hl hB)
theorem yA_tabOut {x : Int32} {dflt lo hi : Int} {offs : Array Int} {ln : Nat} {tgt : Nat} (dg : decode cc pc = .ok (.tableswitch dflt lo hi offs, ln)) (h : x.toInt < lo ∨ hi < x.toInt) (ht : (pc : Int) + dflt = (tgt : Int)) (k : zLW len sc y cc nL ret d tgt L st n S μ ca cb) : zLW len sc y cc nL ret d pc L (.int x :: st) n S μ ca cb := fun p l e R s m args below meth c D A tc adK adV C X σ0 n0 σ H locs ls cells slots mc ms hH hS hl hB => lv_tableOut C.1 C.2.1 dg h ht (k p l e R s m args below meth c D A tc adK adV C X σ0 n0 σ H locs ls cells slots mc ms hH hS hl hB)
theorem yA_callFV (hw : zCv y.cls idx y' cc' nL' ret' na ci) (hM : zM y' cc' nL' ret' d' (.ref b :: As) n S μ (.inl v, n1, S1, μ1, a1, b1)) (hv : ∀ q, v ≠ some (.ref q)) (hd : d' + 1 ≤ d) (hb : b < n) {z : Nat} {rf : Nat → Option Nat} (hs : S b = (0, ci, z, rf)) (hn : As.length = na) (hst9 : stk = (As.map (zvr B)).reverse ++ .ref (B + b) :: st) (hrm : (st.map (fun v => v.category)).sum ≤ 8)
    (hsub : zSub B n S μ S2 μ2) (hB : B + n ≤ n2) (hw2 : zWf n2 S2) (hn1 : n ≤ n1) (hg : n1 = n ∨ B + n = n2) (hm : n2 + (n1 - n) ≤ 1000000) (hw1 : zWf n1 S1) (hL : ∀ v ∈ L, ∀ q, v = .ref q → q < n2 ∨ 1000000 ≤ q) (hst : ∀ v ∈ st, ∀ q, v = .ref q → q < n2 ∨ 1000000 ≤ q) (dg : decode cc pc = .ok (.invokevirtual idx, 3))
    (k : zLW len sc y cc nL ret d (pc + 3) L (v.toList ++ st) (n2 + (n1 - n)) (zputS B n1 S1 S2) (zputM B n1 μ1 μ2) ca cb) : zLW len sc y cc nL ret d (pc) L (stk) (n2) (S2) (μ2) (ca + a1) (cb + b1) := by
  intro p l e R s m args below meth c D A tc adK adV C X σ0 n0 σ H locs ls cells slots mc ms hH hS hl hB9
  subst hst9
  obtain ⟨⟨h1, h2, h3, h4, h5⟩, h6, h7, h8⟩ := hw
  obtain ⟨hx, hbb, hml, hown, -, -, -, -, hts, hK, hA, hG, hstt, hfr, hlo⟩ := id C
  have hB' : cells + (ca + a1) ≤ mc ∧ slots + (cb + b1) ≤ ms ∧ mc ≤ R.cells ∧ ms ≤ R.slots := hB9
  have hMM := zM_met (v := v) rfl hM l D tc adK adV (zsr σ B) H.size hstt
  obtain ⟨Q9, hQ9, hQc⟩ : ∃ Q9, zCl[ci]? = some Q9 ∧ Q9.1 = y'.cls := by
    cases hc9 : zCl[ci]? with
    | none => rw [hc9] at h8; cases h8
    | some Q9 => rw [hc9] at h8; exact ⟨Q9, rfl, Option.some.inj h8⟩
  have he := zW_get' (σ := zsr σ B) (tc := tc) (μ := μ) hb hs
  rw [zE_obj] at he
  have hrecv := va_recv hK (zsub_P hsub (by omega) hB hH.2.2.1) hQ9 he
  rw [hQc] at hrecv
  have hpre : PreV s H y'.cls (zsr σ B b) (zPc D tc adK adV (zsr σ B) (.ref b :: As) n S μ H.size) (As.map (cv (zsr σ B))) := ⟨zPc_blind, hrecv, fun U hU hW => z_preF C hH hS hsub (by omega) hB (avs := .ref b :: As) U hU hW⟩
  have hbb2 : zsr σ B b = σ (B + b) := by
    show σ (zrh B b) = _
    unfold zrh
    rw [if_pos (by omega)]
  have hstk : (F0 m pc ls (((As.map (zvr B)).reverse ++ Value.ref (B + b) :: st).map (cv σ))).stack = (As.map (cv (zsr σ B))).reverse ++ .ref (zsr σ B b) :: st.map (cv σ) := by
    show ((As.map (zvr B)).reverse ++ Value.ref (B + b) :: st).map (cv σ) = _
    rw [zRmap, cv_zvrs, hbb2]
    rfl
  have hroom : (zRm d' a1 b1).frames + 1 ≤ R.frames ∧ 8 + (nL' + 11) + (zRm d' a1 b1).locals ≤ R.locals := ⟨Nat.le_trans hd hfr, by show 8 + (nL' + 11) + 41 * d' ≤ R.locals; omega⟩
  have hrun : va_Run p l e R s m args below meth c H locs cells slots a1 b1 (F0 m pc ls (((As.map (zvr B)).reverse ++ Value.ref (B + b) :: st).map (cv σ))) (st.map (cv σ)) (zQc D (zA (zsr σ B) n H.size) tc adK (zsr σ B) n (.inl v, n1, S1, μ1, a1, b1) (Value.ref (zsr σ B b) :: As.map (cv (zsr σ B))).toArray) (zA (zsr σ B) n H.size) := by
    rcases h5 with h5 | ⟨host, h5⟩
    · exact va_runV ⟨hx, hbb, hml, hown, hts⟩ hMM ⟨callB_of na hts (zWs_good h1) rfl rfl rfl (hts _ h2) (hts _ h5) h4 hroom, hts _ h6, hts _ h7⟩ hpre rfl (by rw [List.length_map, hn]) hl.1.1 hstk (zroom hrm) dg ⟨by omega, by omega⟩
    · exact va_runVN ⟨hx, hbb, hml, hown, hts⟩ hMM ⟨va_cnB na hts (zWs_good h1) rfl rfl rfl (hG.2.2.2.2.1 _ h5) (hts _ h2) h4 hroom, hts _ h6, hts _ h7⟩ hpre rfl (by rw [List.length_map, hn]) hl.1.1 hstk (zroom hrm) dg ⟨by omega, by omega⟩
  refine z_contF C hH hS hsub hB hw2 hv hn1 hg hm hw1 hrun (fun σ1 H1 locs1 hH1 hσ hS1 => ?_)
  have hsame : ∀ v : Value, (∀ q, v = .ref q → q < n2 ∨ 1000000 ≤ q) → cv σ1 v = cv σ v := fun v hv => by
    cases v <;> first | rfl | (rename_i q; rcases hv q rfl with h | h; exact congrArg Value.ref (hσ q h); exact congrArg Value.ref (by obtain ⟨j, rfl⟩ := Nat.exists_eq_add_of_le h; rw [hH1.2.1.2 j, hH.2.1.2 j]))
  have hl1 : zL σ1 nL L ls := by
    refine ⟨⟨hl.1.1, hl.1.2.1, fun x hx => ?_⟩, hl.2⟩
    obtain ⟨v, g1, g2, g3⟩ := zls_inv hx
    rw [g3, hsame v (hL v (List.mem_of_getElem? g1))]
    exact zL_at hl g1 g2
  have hst1 : (v.toList ++ st).map (cv σ1) = v.toList ++ st.map (cv σ) := by
    rw [List.map_append, List.map_congr_left (fun w hw => hsame w (hst w hw))]
    cases v with
    | none => rfl
    | some w => cases w <;> first | rfl | exact absurd rfl (hv _)
  have kk := (k p l e R s m args below meth c D A tc adK adV C X σ0 n0 σ1 H1 locs1 ls (cells + a1) (slots + b1) mc ms hH1 hS1 hl1 ⟨by show cells + a1 + ca ≤ mc; omega, by show slots + b1 + cb ≤ ms; omega, hB9.2.2.1, hB9.2.2.2⟩)
  rw [hst1] at kk
  exact kk
theorem yA_callFW (hw : zCwr hh y.cls idx y' cc' nL' ret' na) (hM : zMH hh y' cc' nL' ret' d' As n S μ (.inl v, n1, S1, μ1, a1, b1)) (hv : ∀ q, v ≠ some (.ref q)) (hd : d' + 1 ≤ d) (hn : As.length = na) (hst9 : stk = (As.map (zvr B)).reverse ++ st) (hrm : (st.map (fun v => v.category)).sum ≤ 8)
    (hsub : zSub B n S μ S2 μ2) (hB : B + n ≤ n2) (hw2 : zWf n2 S2) (hn1 : n ≤ n1) (hg : n1 = n ∨ B + n = n2) (hm : n2 + (n1 - n) ≤ 1000000) (hw1 : zWf n1 S1) (hL : ∀ v ∈ L, ∀ q, v = .ref q → q < n2 ∨ 1000000 ≤ q) (hst : ∀ v ∈ st, ∀ q, v = .ref q → q < n2 ∨ 1000000 ≤ q) (dg : decode cc pc = .ok (.invokestatic idx, 3))
    (k : zLW len sc y cc nL ret d (pc + 3) L (v.toList ++ st) (n2 + (n1 - n)) (zputS B n1 S1 S2) (zputM B n1 μ1 μ2) ca cb) : zLW len sc y cc nL ret d (pc) L (stk) (n2) (S2) (μ2) (ca + a1) (cb + b1) := by
  intro p l e R s m args below meth c D A tc adK adV C X σ0 n0 σ H locs ls cells slots mc ms hH hS hl hB9
  subst hst9
  obtain ⟨h1, h2, h3, h4, h5, h6⟩ := hw
  obtain ⟨hx, hbb, hml, hown, -, -, -, -, hts, hK, hA, hG, hstt, hfr, hlo⟩ := id C
  have hB' : cells + (ca + a1) ≤ mc ∧ slots + (cb + b1) ≤ ms ∧ mc ≤ R.cells ∧ ms ≤ R.slots := hB9
  have hMM := zMH_met (v := v) rfl hM l D tc adK adV (zsr σ B) H.size hstt
  have hpre : PreS s H (zPc D tc adK adV (zsr σ B) As n S μ H.size) (As.map (cv (zsr σ B))) := ⟨zPc_blind, fun U hU hW => z_preF C hH hS hsub (by omega) hB (avs := As) U hU hW⟩
  have hstk : (F0 m pc ls (((As.map (zvr B)).reverse ++ st).map (cv σ))).stack = (As.map (cv (zsr σ B))).reverse ++ st.map (cv σ) := by
    show ((As.map (zvr B)).reverse ++ st).map (cv σ) = _
    rw [zRmap, cv_zvrs]
  have hroom : (zRm d' a1 b1).frames + 1 ≤ R.frames ∧ 8 + (nL' + 11) + (zRm d' a1 b1).locals ≤ R.locals := ⟨Nat.le_trans hd hfr, by show 8 + (nL' + 11) + 41 * d' ≤ R.locals; omega⟩
  have hrun : va_Run p l e R s m args below meth c H locs cells slots a1 b1 (F0 m pc ls (((As.map (zvr B)).reverse ++ st).map (cv σ))) (st.map (cv σ)) (zQc D (zA (zsr σ B) n H.size) tc adK (zsr σ B) n (.inl v, n1, S1, μ1, a1, b1) (As.map (cv (zsr σ B))).toArray) (zA (zsr σ B) n H.size) := by
    have hgood : GoodIn zTb (va_wsS y.cls idx y' (Cond.codeWith y' cc' nL' ret' hh :: zTb)) := by
      intro w hw
      unfold va_wsS at hw
      rcases List.mem_append.mp hw with hw | hw
      · simp only [List.mem_cons, List.not_mem_nil, or_false] at hw
        rcases hw with rfl | rfl | rfl
        · exact zTb_good _ h5
        · exact zTb_good _ h6
        · exact zTb_good _ h2
      · rcases List.mem_cons.mp hw with rfl | hw
        · exact zTb_good _ h1
        · exact zTb_good _ hw
    exact vx_runSW ⟨hx, hbb, hml, hown, hts⟩ hMM (vx_cwSW na hts hgood rfl rfl rfl h4 hroom) hpre rfl (by rw [List.length_map, hn]) hl.1.1 hstk (zroom hrm) dg ⟨by omega, by omega⟩
  refine z_contF C hH hS hsub hB hw2 hv hn1 hg hm hw1 hrun (fun σ1 H1 locs1 hH1 hσ hS1 => ?_)
  have hsame : ∀ v : Value, (∀ q, v = .ref q → q < n2 ∨ 1000000 ≤ q) → cv σ1 v = cv σ v := fun v hv => by
    cases v <;> first | rfl | (rename_i q; rcases hv q rfl with h | h; exact congrArg Value.ref (hσ q h); exact congrArg Value.ref (by obtain ⟨j, rfl⟩ := Nat.exists_eq_add_of_le h; rw [hH1.2.1.2 j, hH.2.1.2 j]))
  have hl1 : zL σ1 nL L ls := by
    refine ⟨⟨hl.1.1, hl.1.2.1, fun x hx => ?_⟩, hl.2⟩
    obtain ⟨v, g1, g2, g3⟩ := zls_inv hx
    rw [g3, hsame v (hL v (List.mem_of_getElem? g1))]
    exact zL_at hl g1 g2
  have hst1 : (v.toList ++ st).map (cv σ1) = v.toList ++ st.map (cv σ) := by
    rw [List.map_append, List.map_congr_left (fun w hw => hsame w (hst w hw))]
    cases v with
    | none => rfl
    | some w => cases w <;> first | rfl | exact absurd rfl (hv _)
  have kk := (k p l e R s m args below meth c D A tc adK adV C X σ0 n0 σ1 H1 locs1 ls (cells + a1) (slots + b1) mc ms hH1 hS1 hl1 ⟨by show cells + a1 + ca ≤ mc; omega, by show slots + b1 + cb ≤ ms; omega, hB9.2.2.1, hB9.2.2.2⟩)
  rw [hst1] at kk
  exact kk
theorem yA_sld {i : Int32} (hi : vp_in i len) (dg : decode cc pc = .ok (.iaload, 1)) (k : zLW len sc y cc nL ret d (pc + 1) L (.int (sc i.toNatClampNeg) :: st) n S μ ca cb) : zLW len sc y cc nL ret d pc L (.int i :: .ref 6000000 :: st) n S μ ca cb := by
  intro p l e R s m args below meth c D A tc adK adV C X σ0 n0 σ H locs ls cells slots mc ms hH hS hl hB
  obtain ⟨x1, x2, x3, x4, x5⟩ := id X
  have e9 : cv σ (.ref 6000000) = .ref (adK 5000000) := congrArg Value.ref (hH.2.1.2 5000000)
  have kk := k p l e R s m args below meth c D A tc adK adV C X σ0 n0 σ H locs ls cells slots mc ms hH hS hl hB
  show W p l e R s m args below meth c H locs cells slots _ (F0 m pc ls (.int i :: cv σ (.ref 6000000) :: st.map (cv σ)))
  rw [e9]
  exact va_sld C.1 C.2.1 x3 x4 (fun h => absurd (x5 _ h) (by omega)) hS hi dg kk
theorem yA_slen {w : Int32} (hv : Int32.ofNat len = w) (dg : decode cc pc = .ok (.arraylength, 1)) (k : zLW len sc y cc nL ret d (pc + 1) L (.int w :: st) n S μ ca cb) : zLW len sc y cc nL ret d pc L (.ref 6000000 :: st) n S μ ca cb := by
  intro p l e R s m args below meth c D A tc adK adV C X σ0 n0 σ H locs ls cells slots mc ms hH hS hl hB
  obtain ⟨x1, x2, x3, x4, x5⟩ := id X
  have e9 : cv σ (.ref 6000000) = .ref (adK 5000000) := congrArg Value.ref (hH.2.1.2 5000000)
  have kk := k p l e R s m args below meth c D A tc adK adV C X σ0 n0 σ H locs ls cells slots mc ms hH hS hl hB
  show W p l e R s m args below meth c H locs cells slots _ (F0 m pc ls (cv σ (.ref 6000000) :: st.map (cv σ)))
  rw [e9]
  subst hv
  exact va_slen C.1 C.2.1 x3 x4 (fun h => absurd (x5 _ h) (by omega)) hS dg kk
theorem yA_lald {a z : Nat} {i : Int32} {rf : Nat → Option Nat} (ha : a < n) (hs : S a = (3, 5, z, rf)) (hi : vp_in i z) (dg : decode cc pc = .ok (.laload, 1)) (k : zLW len sc y cc nL ret d (pc + 1) L (.long (μ a i.toNatClampNeg).toInt64 :: st) n S μ ca cb) : zLW len sc y cc nL ret d pc L (.int i :: .ref a :: st) n S μ ca cb := by
  intro p l e R s m args below meth c D A tc adK adV C X σ0 n0 σ H locs ls cells slots mc ms hH hS hl hB
  have he := zW_get' (σ := σ) (tc := tc) (μ := μ) ha hs
  rw [zE_lng] at he
  exact va_lald C.1 C.2.1 C.2.2.2.2.2.2.2.2.2.1 hH.2.2.1 a 5 he rfl hi dg (k p l e R s m args below meth c D A tc adK adV C X σ0 n0 σ H locs ls cells slots mc ms hH hS hl hB)
theorem yA_lcmp0 {x : Int64} (dg : decode cc pc = .ok (.lcmp, 1)) (k : zLW len sc y cc nL ret d (pc + 1) L (.int 0 :: st) n S μ ca cb) : zLW len sc y cc nL ret d pc L (.long x :: .long x :: st) n S μ ca cb := by
  intro p l e R s m args below meth c D A tc adK adV C X σ0 n0 σ H locs ls cells slots mc ms hH hS hl hB
  have kk := k p l e R s m args below meth c D A tc adK adV C X σ0 n0 σ H locs ls cells slots mc ms hH hS hl hB
  exact W.lcmp C.1 C.2.1 dg (by rw [show lg_cmp x x = 0 by simp [lg_cmp]]; exact kk)
theorem yA_if_ne_t {x : Int32} {off : Int} {tgt : Nat} (dg : decode cc pc = .ok (.ifCond .ne off, 3)) (ht : (pc : Int) + off = (tgt : Int)) (h9 : x ≠ 0) (k : zLW len sc y cc nL ret d (tgt) L st n S μ ca cb) : zLW len sc y cc nL ret d pc L (.int x :: st) n S μ ca cb := fun p l e R s m args below meth c D A tc adK adV C X σ0 n0 σ H locs ls cells slots mc ms hH hS hl hB => lv_if_ne C.1 C.2.1 dg ht (fun _ => k p l e R s m args below meth c D A tc adK adV C X σ0 n0 σ H locs ls cells slots mc ms hH hS hl hB) (fun h => absurd h h9)
theorem yA_if_ne_f {x : Int32} {off : Int} {tgt : Nat} (dg : decode cc pc = .ok (.ifCond .ne off, 3)) (ht : (pc : Int) + off = (tgt : Int)) (h9 : x = 0) (k : zLW len sc y cc nL ret d (pc + 3) L st n S μ ca cb) : zLW len sc y cc nL ret d pc L (.int x :: st) n S μ ca cb := fun p l e R s m args below meth c D A tc adK adV C X σ0 n0 σ H locs ls cells slots mc ms hH hS hl hB => lv_if_ne C.1 C.2.1 dg ht (fun h => absurd h9 h) (fun _ => k p l e R s m args below meth c D A tc adK adV C X σ0 n0 σ H locs ls cells slots mc ms hH hS hl hB)
theorem yA_more {ca' cb' : Nat} (h1 : ca ≤ ca') (h2 : cb ≤ cb') (k : zLW len sc y cc nL ret d pc L st n S μ ca cb) : zLW len sc y cc nL ret d pc L st n S μ ca' cb' := fun p l e R s m args below meth c D A tc adK adV C X σ0 n0 σ H locs ls cells slots mc ms hH hS hl hB => k p l e R s m args below meth c D A tc adK adV C X σ0 n0 σ H locs ls cells slots mc ms hH hS hl ⟨by omega, by omega, hB.2.2⟩
theorem yA_ret (hc : cc = code) (dg : decode cc pc = .ok (.ireturn, 1)) : zLW len sc y cc nL (some .boolean) d pc L [.int 1] n S μ 0 0 := by
  intro p l e R s m args below meth c D A tc adK adV C X σ0 n0 σ H locs ls cells slots mc ms hH hS hl hB
  obtain ⟨rfl, rfl, x3, x4, x5⟩ := X
  obtain ⟨hx, hbb, -, -, hrt, hlk, -⟩ := id C
  subst hc
  refine va_forget (fun q hq => x5 _ (hS.2.2 q hq)) ?_
  refine W.widen (k := 601024) (n := 7293034) (by have h1 : room_1.cells = 601024 := rfl; omega) (by have h1 : room_1.slots = 7293034 := rfl; omega) ?_
  exact lw_ret hx hbb hrt hlk dg
end ZLW
section YPERM
variable {len : Nat} {sc : Nat → Int32} {y : MethodName} {cc : ByteArray} {nL : Nat} {ret : Option FieldType} {d pc : Nat} {L st : List Value} {n : Nat} {S S' : Nat → zSh} {μ μ' : zMem} {ca cb : Nat} {π ρ : Nat → Nat}
theorem yA_perm (h1 : ∀ k, ρ (π k) = k) (h2 : ∀ k, π (ρ k) = k) (hf : ∀ k, n ≤ k → π k = k) (hm : n ≤ 1000000) (hSM : ∀ k, k < n → S' (π k) = rsh π (S k) ∧ μ' (π k) = μ k)
    (k : zLW len sc y cc nL ret d pc (L.map (rvl π)) (st.map (rvl π)) n S' μ' ca cb) : zLW len sc y cc nL ret d pc L st n S μ ca cb := by
  intro p l e R s m args below meth c D A tc adK adV C X σ0 n0 σ H locs ls cells slots mc ms hH hS hl hB
  have hfr : ∀ q, n ≤ q → ρ q = q := fun q hq => by
    have := h1 q
    rw [hf q hq] at this
    exact this
  have hltr : ∀ q, q < n → ρ q < n := fun q hq => by
    by_cases e : ρ q < n
    · exact e
    · have := hf (ρ q) (by omega)
      rw [h2] at this
      omega
  have es : (fun q => (fun j => σ (ρ j)) (π q)) = σ := by funext q; show σ (ρ (π q)) = σ q; rw [h1]
  obtain ⟨hn0, ⟨hg1, hg2⟩, hP, hD, hE⟩ := hH
  have idx : ∀ j q, (zW (fun j => σ (ρ j)) tc n S' μ')[j]? = some q → (zW σ tc n S μ)[ρ j]? = some q := fun j q hj => by
    obtain ⟨i1, i2⟩ := zW_inv hj
    rw [zW_get (hltr j i1), i2]
    have e3 := hSM (ρ j) (hltr j i1)
    rw [h2] at e3
    rw [e3.1, e3.2, zE_rsh, es]
  have hl' : zL (fun j => σ (ρ j)) nL (L.map (rvl π)) ls := by
    refine ⟨?_, fun w hw => ?_⟩
    · rw [zls_rvl, es]; exact hl.1
    · obtain ⟨w', hw', rfl⟩ := List.mem_map.mp hw
      rw [rvl_cat]; exact hl.2 w' hw'
  have hst : (st.map (rvl π)).map (cv (fun j => σ (ρ j))) = st.map (cv σ) := by
    rw [List.map_map]
    apply List.map_congr_left
    intro w _
    show cv (fun j => σ (ρ j)) (rvl π w) = _
    rw [cv_rvl, es]
  have run := k p l e R s m args below meth c D A tc adK adV C X (fun j => σ (ρ j)) n (fun j => σ (ρ j)) H locs ls cells slots mc ms ⟨Nat.le_refl _, ⟨fun _ _ => rfl, fun i => by show σ (ρ (1000000 + i)) = _; rw [hfr _ (by omega)]; exact hg2 i⟩, fun j q hj => hP (ρ j) q (idx j q hj), ⟨fun i j p q hi hj ee => by
      have := hD.1 (ρ i) (ρ j) p q (idx i p hi) (idx j q hj) ee
      have h3 := congrArg π this
      rwa [h2, h2] at h3, fun j q hj => hD.2 (ρ j) q (idx j q hj)⟩, fun _ => rfl⟩ hS hl' hB
  rw [hst] at run
  exact run
end YPERM
