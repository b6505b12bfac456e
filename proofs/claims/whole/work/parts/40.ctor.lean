/-! CONSTRUCTORS: rules over zAW, where cells are made -/
def zupS (S : Nat → zSh) (k : Nat) (sh : zSh) : Nat → zSh := fun q => if q = k then sh else S q
def zus (σ : Nat → Nat) (n q : Nat) : Nat → Nat := fun k => if k = n then q else σ k
/-- the shapes speak of keys below n alone -/
def zWf (n : Nat) (S : Nat → zSh) : Prop := ∀ k j r, k < n → (S k).2.2.2 j = some r → r < n
theorem zupS_self {S : Nat → zSh} {k : Nat} {sh : zSh} : zupS S k sh k = sh := if_pos rfl
theorem zupS_ne {S : Nat → zSh} {k q : Nat} {sh : zSh} (h : q ≠ k) : zupS S k sh q = S q := if_neg h
theorem zWf_new {n : Nat} {S : Nat → zSh} {sh : zSh} (h : zWf n S) (hs : ∀ j r, sh.2.2.2 j = some r → r < n + 1) : zWf (n + 1) (zupS S n sh) := by
  intro k j r hk hr
  by_cases e : k = n
  · rw [e, zupS_self] at hr; exact hs j r hr
  · rw [zupS_ne e] at hr; exact Nat.lt_succ_of_lt (h k j r (by omega) hr)
theorem zWf_put {n b x i ci z : Nat} {S : Nat → zSh} {kd : Nat} {rf : Nat → Option Nat} (h : zWf n S) (hb : b < n) (hs : S b = (kd, ci, z, rf)) (hx : x < n) : zWf n (zupS S b (kd, ci, z, fun j => if j = i then some x else rf j)) := by
  intro k j r hk hr
  by_cases e : k = b
  · rw [e, zupS_self] at hr
    have hr : (if j = i then some x else rf j) = some r := hr
    by_cases e2 : j = i
    · rw [if_pos e2] at hr; cases hr; exact hx
    · rw [if_neg e2] at hr; exact h b j r hb (by rw [hs]; exact hr)
  · rw [zupS_ne e] at hr; exact h k j r hk hr
theorem zupS_put {b i x ci z kd : Nat} {S : Nat → zSh} {rf : Nat → Option Nat} (_ : S b = (kd, ci, z, rf)) : zupS S b (kd, ci, z, fun j => if j = i then some x else rf j) b = (kd, ci, z, fun j => if j = i then some x else rf j) := zupS_self
theorem zE_congr {σ σ' : Nat → Nat} {tc : Nat → ClassId} {sh : zSh} {f : Nat → Int32} (h : ∀ j r, sh.2.2.2 j = some r → σ' r = σ r) : zE σ' tc sh f = zE σ tc sh f := by
  have hm : ∀ j, (sh.2.2.2 j).map σ' = (sh.2.2.2 j).map σ := fun j => by
    cases hj : sh.2.2.2 j with
    | none => rfl
    | some r => exact congrArg some (h j r hj)
  unfold zE
  have h1 : zFs σ' sh.2.1 sh.2.2.2 f = zFs σ sh.2.1 sh.2.2.2 f := by
    unfold zFs
    apply List.map_congr_left
    intro j _
    unfold zFld
    rw [hm]
  rw [h1, funext hm]
theorem zW_push {σ : Nat → Nat} {tc : Nat → ClassId} {n q : Nat} {S : Nat → zSh} {μ : zMem} {sh : zSh} {f : Nat → Int32} {e : va_E} (hwf : zWf n S) (he : e = zE (zus σ n q) tc sh f) : zW σ tc n S μ ++ [(q, e)] = zW (zus σ n q) tc (n + 1) (zupS S n sh) (zup μ n f) := by
  have hlen : (zW σ tc n S μ).length = n := by unfold zW; rw [List.length_map, List.length_range]
  apply List.ext_getElem?
  intro i
  by_cases hi : i < n
  · rw [List.getElem?_append_left (by rw [hlen]; exact hi), zW_get hi, zW_get (by omega)]
    have e1 : zus σ n q i = σ i := if_neg (by omega)
    have e3 : zup μ n f i = μ i := if_neg (by omega)
    rw [e1, zupS_ne (by omega), e3, zE_congr (σ := σ) (σ' := zus σ n q) (fun j r hr => if_neg (by have := hwf i j r hi hr; omega))]
  · by_cases hn : i = n
    · subst hn
      rw [List.getElem?_append_right (by rw [hlen]; exact Nat.le_refl _), hlen, Nat.sub_self, zW_get (by omega)]
      have e1 : zus σ i q i = q := if_pos rfl
      have e3 : zup μ i f i = f := if_pos rfl
      rw [e1, zupS_self, e3, ← he]
      rfl
    · rw [zW_none (by omega), List.getElem?_eq_none (by rw [List.length_append, hlen]; simp; omega)]
theorem cv_us {σ : Nat → Nat} {n q : Nat} {v : Value} (h : v ≠ .ref n) : cv (zus σ n q) v = cv σ v := by
  cases v <;> first | rfl | (rename_i a; exact congrArg Value.ref (if_neg (fun e => h (by rw [e]))))
theorem zL_us {σ : Nat → Nat} {n q nL : Nat} {L : List Value} {ls : Array Slot} (h : ∀ v ∈ L, v ≠ .ref n) (hl : zL σ nL L ls) : zL (zus σ n q) nL L ls := by
  refine ⟨⟨hl.1.1, hl.1.2.1, fun x hx => ?_⟩, hl.2⟩
  obtain ⟨v, h1, h2, h3⟩ := zls_inv hx
  have := zL_at hl h1 h2
  rw [h3, cv_us (h v (List.mem_of_getElem? h1))]
  exact this
theorem map_us {σ : Nat → Nat} {n q : Nat} {st : List Value} (h : ∀ v ∈ st, v ≠ .ref n) : st.map (cv (zus σ n q)) = st.map (cv σ) := List.map_congr_left (fun v hv => cv_us (h v hv))
theorem zHe_new {D : va_G} {A : Nat → Prop} {tc adK : Nat → Nat} {σ0 : Nat → Nat} {n0 : Nat} {σ : Nat → Nat} {n : Nat} {S : Nat → zSh} {μ : zMem} {H H1 : Heap} {q : Nat} {sh : zSh} {f : Nat → Int32} {e : va_E} (hwf : zWf n S) (hn : n < 1000000) (he : e = zE (zus σ n q) tc sh f) (h : n0 ≤ n ∧ zHe D A tc adK σ0 n0 σ n S μ H) (hP : va_P D zCl (zW σ tc n S μ ++ [(q, e)]) H1) (hD : va_D A (zW σ tc n S μ ++ [(q, e)])) :
    n0 ≤ n + 1 ∧ zHe D A tc adK σ0 n0 (zus σ n q) (n + 1) (zupS S n sh) (zup μ n f) H1 := by
  rw [zW_push hwf he] at hP hD
  have h1 := h.1
  refine ⟨by omega, ⟨fun k hk => ?_, fun i => ?_⟩, hP, hD, fun e => by omega⟩
  · rw [← h.2.1.1 k hk]; exact if_neg (by omega)
  · rw [← h.2.1.2 i]; exact if_neg (by omega)
/-- a matrix at n: its rows n + 1, .. -/
def zupM (S : Nat → zSh) (n N t t0 M : Nat) : Nat → zSh := fun q => if q = n then (2, t, N, zrw N (n + 1)) else if n < q ∧ q < n + 1 + N then (1, t0, M, zn) else S q
def zupN (μ : zMem) (n N : Nat) : zMem := fun q => if n ≤ q ∧ q < n + 1 + N then (fun _ => 0) else μ q
def zum (σ : Nat → Nat) (n N q : Nat) (rr : Nat → Nat) : Nat → Nat := fun k => if k = n then q else if n < k ∧ k < n + 1 + N then rr (k - (n + 1)) else σ k
theorem zum_old {σ : Nat → Nat} {n N q k : Nat} {rr : Nat → Nat} (h : k < n) : zum σ n N q rr k = σ k := by unfold zum; rw [if_neg (by omega), if_neg (by omega)]
theorem zum_far {σ : Nat → Nat} {n N q k : Nat} {rr : Nat → Nat} (h : n + 1 + N ≤ k) : zum σ n N q rr k = σ k := by unfold zum; rw [if_neg (by omega), if_neg (by omega)]
theorem zum_row {σ : Nat → Nat} {n N q j : Nat} {rr : Nat → Nat} (h : j < N) : zum σ n N q rr (n + 1 + j) = rr j := by unfold zum; rw [if_neg (by omega), if_pos (by omega), show n + 1 + j - (n + 1) = j by omega]
theorem zupM_old {S : Nat → zSh} {n N t t0 M k : Nat} (h : k < n) : zupM S n N t t0 M k = S k := by unfold zupM; rw [if_neg (by omega), if_neg (by omega)]
theorem zupN_old {μ : zMem} {n N k : Nat} (h : k < n) : zupN μ n N k = μ k := by unfold zupN; rw [if_neg (by omega)]
theorem cv_um {σ : Nat → Nat} {n N q : Nat} {rr : Nat → Nat} {v : Value} (h : ∀ q, v = .ref q → q < n ∨ n + 1 + N ≤ q) : cv (zum σ n N q rr) v = cv σ v := by
  match v, h with
  | .ref a, h =>
    rcases h a rfl with h | h
    · exact congrArg Value.ref (zum_old h)
    · exact congrArg Value.ref (zum_far h)
  | .int _, _ => rfl
  | .long _, _ => rfl
  | .float _, _ => rfl
  | .double _, _ => rfl
  | .null, _ => rfl
  | .retAddr _, _ => rfl
theorem zWf_mat {n N t t0 M : Nat} {S : Nat → zSh} (h : zWf n S) : zWf (n + 1 + N) (zupM S n N t t0 M) := by
  intro k j r hk hr
  unfold zupM at hr
  by_cases h1 : k = n
  · rw [if_pos h1] at hr
    have hr : (if j < N then some (n + 1 + j) else none) = some r := hr
    by_cases hj : j < N
    · rw [if_pos hj] at hr; cases hr; omega
    · rw [if_neg hj] at hr; cases hr
  · rw [if_neg h1] at hr
    by_cases h2 : n < k ∧ k < n + 1 + N
    · rw [if_pos h2] at hr; cases (show (none : Option Nat) = some r from hr)
    · rw [if_neg h2] at hr
      have := h k j r (by omega) hr
      omega
section ZA
variable {y y' : MethodName} {cc cc' : ByteArray} {nL nL' : Nat} {ret ret' : Option FieldType} {d d' pc idx : Nat} {L st : List Value} {n n' : Nat} {S S' : Nat → zSh} {μ μ' : zMem} {o : zO} {res : Option Value ⊕ String} {ca cb : Nat}
theorem zA_aload_n {i : Fin 4} {x : Nat} (dg : decode cc pc = .ok (.aload_n i, 1)) (hL : L[(i : Nat)]? = some (.ref x)) (k : zAW y cc nL ret d (pc + 1) L (.ref x :: st) (n) (S) (μ) (o)) : zAW y cc nL ret d (pc) L (st) (n) (S) (μ) (o) := fun p l e R s m args below meth c D A tc adK adV C σ0 n0 σ H locs ls cells slots mc ms hH hS hl hB => lv_aload_n C.1 C.2.1 dg rfl (zL_at hl hL (fun h => by cases h)) (k p l e R s m args below meth c D A tc adK adV C σ0 n0 σ H locs ls cells slots mc ms hH hS hl hB)
theorem zA_iconst {z : Int} (v : Int32) (dg : decode cc pc = .ok (.iconst z, 1)) (hv : Int32.ofInt z = v) (k : zAW y cc nL ret d (pc + 1) L (.int v :: st) (n) (S) (μ) (o)) : zAW y cc nL ret d (pc) L (st) (n) (S) (μ) (o) := fun p l e R s m args below meth c D A tc adK adV C σ0 n0 σ H locs ls cells slots mc ms hH hS hl hB => lv_iconst C.1 C.2.1 dg hv (k p l e R s m args below meth c D A tc adK adV C σ0 n0 σ H locs ls cells slots mc ms hH hS hl hB)
theorem zA_bipush {z : Int} (v : Int32) (dg : decode cc pc = .ok (.bipush z, 2)) (hv : (Int8.ofInt z).toInt32 = v) (k : zAW y cc nL ret d (pc + 2) L (.int v :: st) (n) (S) (μ) (o)) : zAW y cc nL ret d (pc) L (st) (n) (S) (μ) (o) := fun p l e R s m args below meth c D A tc adK adV C σ0 n0 σ H locs ls cells slots mc ms hH hS hl hB => lv_bipush C.1 C.2.1 dg hv (k p l e R s m args below meth c D A tc adK adV C σ0 n0 σ H locs ls cells slots mc ms hH hS hl hB)
theorem zA_sipush {z : Int} (v : Int32) (dg : decode cc pc = .ok (.sipush z, 3)) (hv : (Int16.ofInt z).toInt32 = v) (k : zAW y cc nL ret d (pc + 3) L (.int v :: st) (n) (S) (μ) (o)) : zAW y cc nL ret d (pc) L (st) (n) (S) (μ) (o) := fun p l e R s m args below meth c D A tc adK adV C σ0 n0 σ H locs ls cells slots mc ms hH hS hl hB => lv_sipush C.1 C.2.1 dg hv (k p l e R s m args below meth c D A tc adK adV C σ0 n0 σ H locs ls cells slots mc ms hH hS hl hB)
theorem zA_dup {v : Value} (dg : decode cc pc = .ok (.dup, 1)) (hv : v.category = 1) (k : zAW y cc nL ret d (pc + 1) L (v :: v :: st) (n) (S) (μ) (o)) : zAW y cc nL ret d (pc) L (v :: st) (n) (S) (μ) (o) := fun p l e R s m args below meth c D A tc adK adV C σ0 n0 σ H locs ls cells slots mc ms hH hS hl hB => lv_dup C.1 C.2.1 dg ((cv_cat σ v).trans hv) (k p l e R s m args below meth c D A tc adK adV C σ0 n0 σ H locs ls cells slots mc ms hH hS hl hB)
theorem zA_getr {b ci z j x : Nat} {rf : Nat → Option Nat} (hf : zFd y.cls idx ci j) (hb : b < n) (hs : S b = (0, ci, z, rf)) (hi : zInt ci j = false) (hr : rf j = some x) (dg : decode cc pc = .ok (.getfield idx, 3)) (k : zAW y cc nL ret d (pc + 3) L (.ref x :: st) (n) (S) (μ) (o)) : zAW y cc nL ret d (pc) L (.ref b :: st) (n) (S) (μ) (o) := by
  intro p l e R s m args below meth c D A tc adK adV C σ0 n0 σ H locs ls cells slots mc ms hH hS hl hB
  obtain ⟨CC, T, N, h1, h2, h3, h4, h5, h6, -⟩ := hf
  obtain ⟨hx, hbb, -, hown, -, -, -, -, hts, hK, -, hG, -⟩ := id C
  have he := zW_get' (σ := σ) (tc := tc) (μ := μ) hb hs
  rw [zE_obj] at he
  have hvv : (zFs σ ci rf (μ b))[j]? = some (cv σ (.ref x)) := by
    unfold zFs
    rw [List.getElem?_map, List.getElem?_range (by omega), Option.map_some]
    unfold zFld
    rw [if_neg (by rw [hi]; exact Bool.false_ne_true), hr]
    rfl
  rcases h6 with h6 | ⟨host, h6⟩
  · exact va_get hx hbb hts h4 hown hK hH.2.2.1 b he h1 j h3 (hts _ h6) (fun x hx => by rw [h5] at hx; exact hx) hvv dg (k p l e R s m args below meth c D A tc adK adV C σ0 n0 σ H locs ls cells slots mc ms hH hS hl hB)
  · exact va_getN hx hbb hts h4 hown hK hH.2.2.1 b he h1 j h3 (va_Nw.use rfl (hG.2.2.2.2.1 _ h6)) (fun x hx => by rw [h5] at hx; exact hx) hvv dg (k p l e R s m args below meth c D A tc adK adV C σ0 n0 σ H locs ls cells slots mc ms hH hS hl hB)
theorem zA_objInit (hy : Cond.methodLink y.cls idx objectInit ∈ zTb) (hi : Cond.instanceMethod objectInit ∈ zTb) (hc : Cond.code objectInit ⟨#[0xb1]⟩ 1 none ∈ zTb) (hd : 1 ≤ d) {a : Nat} (hrm : (st.map (fun v => v.category)).sum ≤ 8) (dg : decode cc pc = .ok (.invokespecial idx, 3)) (k : zAW y cc nL ret d (pc + 3) L (st) (n) (S) (μ) (o)) : zAW y cc nL ret d (pc) L (.ref a :: st) (n) (S) (μ) (o) := by
  intro p l e R s m args below meth c D A tc adK adV C σ0 n0 σ H locs ls cells slots mc ms hH hS hl hB
  obtain ⟨hx, hbb, hml, hown, -, -, -, -, hts, hK, -, hG, -, hfr, hlo⟩ := id C
  have hcat := zcats (σ := σ) hrm
  exact W.objInit hx hbb hown (hts _ hy) (hts _ hi) (hts _ hc) rfl (hl.1.1.trans hml.symm) rfl dg (by omega) (by show 2 * 0 + _ + 12 ≤ _; omega) (k p l e R s m args below meth c D A tc adK adV C σ0 n0 σ H locs ls cells slots mc ms hH hS hl hB)
theorem zA_puti {b ci z j : Nat} {rf : Nat → Option Nat} {v : Int32} (hf : zFd y.cls idx ci j) (hb : b < n) (hs : S b = (0, ci, z, rf)) (hi : zTy ci j = .int) (hw : (zCl[ci]?).map (fun q => (q.2.1 j).2.2.2) = some false) (dg : decode cc pc = .ok (.putfield idx, 3)) (k : zAW y cc nL ret d (pc + 3) L (st) (n) (S) (zset μ b j v) (o)) : zAW y cc nL ret d (pc) L (.int v :: .ref b :: st) (n) (S) (μ) (o) := by
  intro p l e R s m args below meth c D A tc adK adV C σ0 n0 σ H locs ls cells slots mc ms hH hS hl hB
  obtain ⟨CC, T, N, h1, h2, h3, h4, h5, h6, h7, h8⟩ := hf
  obtain ⟨hx, hbb, -, hown, -, -, -, -, hts, hK, -, hG, -⟩ := id C
  have he := zW_get' (σ := σ) (tc := tc) (μ := μ) hb hs
  rw [zE_obj] at he
  have hfin : (T j).2.2.2 = false := by rw [h1] at hw; exact Option.some.inj hw
  have hlen : j < (zFs σ ci rf (μ b)).length := by unfold zFs; rw [List.length_map, List.length_range]; omega
  have hset : (zFs σ ci rf (μ b)).set j (.int v) = zFs σ ci rf (fun i => if i = j then v else μ b i) := by
    apply List.ext_getElem?
    intro i
    unfold zFs
    by_cases hi9 : i < zNf ci
    · rw [List.getElem?_map, List.getElem?_range hi9]
      by_cases hij : i = j
      · subst hij
        rw [List.getElem?_set_self (by rw [List.length_map, List.length_range]; exact hi9)]
        simp [zFld, zInt, hi, zIsI]
      · rw [List.getElem?_set_ne (fun q => hij q.symm), List.getElem?_map, List.getElem?_range hi9]
        simp [zFld, hij]
    · rw [List.getElem?_eq_none (by rw [List.length_set, List.length_map, List.length_range]; omega), List.getElem?_eq_none (by rw [List.length_map, List.length_range]; omega)]
  have hw9 : (zW σ tc n S μ).set b (σ b, .inr (ci, (zFs σ ci rf (μ b)).set j (.int v))) = zW σ tc n S (zset μ b j v) := by
    rw [hset]
    exact zW_set (by rw [hs]; rfl)
  have hp : parseFieldDescriptor (T j).2.2.1 = some .int := by rw [h8 j h3, hi]
  rcases h6 with h6 | ⟨host, h6⟩
  · refine va_put (v := Value.int v) hx hbb hts h4 (zTy ci) h8 h7 hown hK hH.2.2.1 hH.2.2.2.1 hS b he h1 j h3 (hts _ h6) (fun x hx => by rw [h5] at hx; exact hx) hfin hp rfl rfl hlen dg (fun H1 locs1 hP1 hD1 hS1 => ?_)
    rw [hw9] at hP1 hD1
    exact (k p l e R s m args below meth c D A tc adK adV C σ0 n0 σ H1 locs1 ls cells slots mc ms ⟨hH.1, hH.2.1, hP1, hD1, hH.2.2.2.2⟩ hS1 hl hB)
  · refine va_putN (v := Value.int v) hx hbb hts h4 (zTy ci) h8 h7 hown hK hH.2.2.1 hH.2.2.2.1 hS b he h1 j h3 (va_Nw.use rfl (hG.2.2.2.2.1 _ h6)) (fun x hx => by rw [h5] at hx; exact hx) hfin hp rfl rfl hlen dg (fun H1 locs1 hP1 hD1 hS1 => ?_)
    rw [hw9] at hP1 hD1
    exact (k p l e R s m args below meth c D A tc adK adV C σ0 n0 σ H1 locs1 ls cells slots mc ms ⟨hH.1, hH.2.1, hP1, hD1, hH.2.2.2.2⟩ hS1 hl hB)
def zRefT (t : FieldType) : Bool := match t with
  | .object _ => true
  | .array _ => true
  | _ => false
/-- a reference into a field; a final one in the class's own constructor -/
theorem zA_putr {b ci z j x : Nat} {rf : Nat → Option Nat} (hf : zFd y.cls idx ci j) (hwf : zWf n S) (hb : b < n) (hx9 : x < n) (hs : S b = (0, ci, z, rf)) (hi : zRefT (zTy ci j) = true) (hw : (zCl[ci]?).map (fun q => (q.2.1 j).2.2.2) = some false ∨ ((zCl[ci]?).map (fun q => (q.2.1 j).2.2.2) = some true ∧ y.name = "<init>" ∧ (zCl[ci]?).map (fun q => q.1) = some y.cls ∧ ∃ T N, zCl[ci]? = some (y.cls, T, N) ∧ Cond.fieldLink y.cls idx y.cls (T j).2.1 (T j).2.2.1 ∈ zTb)) (dg : decode cc pc = .ok (.putfield idx, 3))
    (k : zWf n (zupS S b (0, ci, z, fun i => if i = j then some x else rf i)) → zupS S b (0, ci, z, fun i => if i = j then some x else rf i) b = (0, ci, z, fun i => if i = j then some x else rf i) → zAW y cc nL ret d (pc + 3) L (st) (n) (zupS S b (0, ci, z, fun i => if i = j then some x else rf i)) (μ) (o)) : zAW y cc nL ret d (pc) L (.ref x :: .ref b :: st) (n) (S) (μ) (o) := by
  intro p l e R s m args below meth c D A tc adK adV C σ0 n0 σ H locs ls cells slots mc ms hH hS hl hB
  have k := k (zWf_put hwf hb hs hx9) zupS_self
  obtain ⟨CC, T, N, h1, h2, h3, h4, h5, h6, h7, h8⟩ := hf
  obtain ⟨hx, hbb, -, hown, -, -, hnm, -, hts, hK, -, hG, -⟩ := id C
  have he := zW_get' (σ := σ) (tc := tc) (μ := μ) hb hs
  rw [zE_obj] at he
  have hlen : j < (zFs σ ci rf (μ b)).length := by unfold zFs; rw [List.length_map, List.length_range]; omega
  have hset : (zFs σ ci rf (μ b)).set j (.ref (σ x)) = zFs σ ci (fun i => if i = j then some x else rf i) (μ b) := by
    apply List.ext_getElem?
    intro i
    unfold zFs
    by_cases hi9 : i < zNf ci
    · rw [List.getElem?_map, List.getElem?_range hi9]
      by_cases hij : i = j
      · subst hij
        rw [List.getElem?_set_self (by rw [List.length_map, List.length_range]; exact hi9)]
        have hni : zInt ci i = false := by unfold zInt; cases hty : zTy ci i <;> rw [hty] at hi <;> first | rfl | cases hi
        simp [zFld, hni, va_rf]
      · rw [List.getElem?_set_ne (fun q => hij q.symm), List.getElem?_map, List.getElem?_range hi9]
        simp [zFld, hij]
    · rw [List.getElem?_eq_none (by rw [List.length_set, List.length_map, List.length_range]; omega), List.getElem?_eq_none (by rw [List.length_map, List.length_range]; omega)]
  have hw9 : (zW σ tc n S μ).set b (σ b, .inr (ci, (zFs σ ci rf (μ b)).set j (.ref (σ x)))) = zW σ tc n (zupS S b (0, ci, z, fun i => if i = j then some x else rf i)) μ := by
    rw [hset]
    apply List.ext_getElem?
    intro i
    by_cases hi9 : i < n
    · rw [zW_get hi9]
      by_cases hk : i = b
      · subst hk
        rw [List.getElem?_set_self (by unfold zW; rw [List.length_map, List.length_range]; exact hi9), zupS_self, zE_obj]
      · rw [List.getElem?_set_ne (fun q => hk q.symm), zW_get hi9, zupS_ne hk]
    · rw [zW_none hi9, List.getElem?_eq_none (by rw [List.length_set]; unfold zW; rw [List.length_map, List.length_range]; omega)]
  have hp : parseFieldDescriptor (T j).2.2.1 = some (zTy ci j) := h8 j h3
  have hnr : narrow (zTy ci j) (.ref (σ x)) = .ref (σ x) := by cases hty : zTy ci j <;> rw [hty] at hi <;> first | rfl | cases hi
  have hft : fits (zTy ci j) (.ref (σ x)) = true := by cases hty : zTy ci j <;> rw [hty] at hi <;> first | rfl | cases hi
  rcases hw with hw | ⟨hw, hn9, -, T2, N2, ht2, hlk⟩
  · have hfin : (T j).2.2.2 = false := by rw [h1] at hw; exact Option.some.inj hw
    rcases h6 with h6 | ⟨host, h6⟩
    · refine va_put (v := Value.ref (σ x)) hx hbb hts h4 (zTy ci) h8 h7 hown hK hH.2.2.1 hH.2.2.2.1 hS b he h1 j h3 (hts _ h6) (fun x hx => by rw [h5] at hx; exact hx) hfin hp hnr hft hlen dg (fun H1 locs1 hP1 hD1 hS1 => ?_)
      rw [hw9] at hP1 hD1
      exact (k p l e R s m args below meth c D A tc adK adV C σ0 n0 σ H1 locs1 ls cells slots mc ms ⟨hH.1, hH.2.1, hP1, hD1, hH.2.2.2.2⟩ hS1 hl hB)
    · refine va_putN (v := Value.ref (σ x)) hx hbb hts h4 (zTy ci) h8 h7 hown hK hH.2.2.1 hH.2.2.2.1 hS b he h1 j h3 (va_Nw.use rfl (hG.2.2.2.2.1 _ h6)) (fun x hx => by rw [h5] at hx; exact hx) hfin hp hnr hft hlen dg (fun H1 locs1 hP1 hD1 hS1 => ?_)
      rw [hw9] at hP1 hD1
      exact (k p l e R s m args below meth c D A tc adK adV C σ0 n0 σ H1 locs1 ls cells slots mc ms ⟨hH.1, hH.2.1, hP1, hD1, hH.2.2.2.2⟩ hS1 hl hB)
  · rw [h1] at ht2
    cases ht2
    have hfin : (T j).2.2.2 = true := by rw [h1] at hw; exact Option.some.inj hw
    refine va_putF (v := Value.ref (σ x)) hx hbb hts h4 (zTy ci) h8 h7 hown hK hH.2.2.1 hH.2.2.2.1 hS b he h1 j h3 (hts _ hlk) (fun x hx => by rw [h5] at hx; exact hx) hfin (hnm.trans hn9) h5 hp hnr hft hlen dg (fun H1 locs1 hP1 hD1 hS1 => ?_)
    rw [hw9] at hP1 hD1
    exact (k p l e R s m args below meth c D A tc adK adV C σ0 n0 σ H1 locs1 ls cells slots mc ms ⟨hH.1, hH.2.1, hP1, hD1, hH.2.2.2.2⟩ hS1 hl hB)
theorem zA_null (dg : decode cc pc = .ok (.aconst_null, 1)) (k : zAW y cc nL ret d (pc + 1) L (.null :: st) (n) (S) (μ) (o)) : zAW y cc nL ret d (pc) L (st) (n) (S) (μ) (o) := fun p l e R s m args below meth c D A tc adK adV C σ0 n0 σ H locs ls cells slots mc ms hH hS hl hB => lv_null C.1 C.2.1 dg (k p l e R s m args below meth c D A tc adK adV C σ0 n0 σ H locs ls cells slots mc ms hH hS hl hB)
theorem zA_putn {b ci z j : Nat} {rf : Nat → Option Nat} (hf : zFd y.cls idx ci j) (hb : b < n) (hs : S b = (0, ci, z, rf)) (hi : zRefT (zTy ci j) = true) (hr : rf j = none) (hw : (zCl[ci]?).map (fun q => (q.2.1 j).2.2.2) = some false) (dg : decode cc pc = .ok (.putfield idx, 3)) (k : zAW y cc nL ret d (pc + 3) L (st) (n) (S) (μ) (o)) : zAW y cc nL ret d (pc) L (.null :: .ref b :: st) (n) (S) (μ) (o) := by
  intro p l e R s m args below meth c D A tc adK adV C σ0 n0 σ H locs ls cells slots mc ms hH hS hl hB
  obtain ⟨CC, T, N, h1, h2, h3, h4, h5, h6, h7, h8⟩ := hf
  obtain ⟨hx, hbb, -, hown, -, -, hnm, -, hts, hK, -, hG, -⟩ := id C
  have he := zW_get' (σ := σ) (tc := tc) (μ := μ) hb hs
  rw [zE_obj] at he
  have hlen : j < (zFs σ ci rf (μ b)).length := by unfold zFs; rw [List.length_map, List.length_range]; omega
  have hni : zInt ci j = false := by unfold zInt; cases hty : zTy ci j <;> rw [hty] at hi <;> first | rfl | cases hi
  have hset : (zFs σ ci rf (μ b)).set j .null = zFs σ ci rf (μ b) := by
    apply List.ext_getElem?
    intro i
    by_cases hij : i = j
    · subst hij
      rw [List.getElem?_set_self hlen]
      unfold zFs
      rw [List.getElem?_map, List.getElem?_range (by omega)]
      simp [zFld, hni, hr, va_rf]
    · rw [List.getElem?_set_ne (fun q => hij q.symm)]
  have hw9 : (zW σ tc n S μ).set b (σ b, .inr (ci, (zFs σ ci rf (μ b)).set j .null)) = zW σ tc n S μ := by
    rw [hset]
    apply List.ext_getElem?
    intro i
    by_cases hk : i = b
    · subst hk
      rw [List.getElem?_set_self (by unfold zW; rw [List.length_map, List.length_range]; exact hb), he]
    · rw [List.getElem?_set_ne (fun q => hk q.symm)]
  have hp : parseFieldDescriptor (T j).2.2.1 = some (zTy ci j) := h8 j h3
  have hnr : narrow (zTy ci j) .null = .null := by cases hty : zTy ci j <;> rw [hty] at hi <;> first | rfl | cases hi
  have hft : fits (zTy ci j) .null = true := by cases hty : zTy ci j <;> rw [hty] at hi <;> first | rfl | cases hi
  have hfin : (T j).2.2.2 = false := by rw [h1] at hw; exact Option.some.inj hw
  rcases h6 with h6 | ⟨host, h6⟩
  · refine va_put (v := Value.null) hx hbb hts h4 (zTy ci) h8 h7 hown hK hH.2.2.1 hH.2.2.2.1 hS b he h1 j h3 (hts _ h6) (fun x hx => by rw [h5] at hx; exact hx) hfin hp hnr hft hlen dg (fun H1 locs1 hP1 hD1 hS1 => ?_)
    rw [hw9] at hP1 hD1
    exact (k p l e R s m args below meth c D A tc adK adV C σ0 n0 σ H1 locs1 ls cells slots mc ms ⟨hH.1, hH.2.1, hP1, hD1, hH.2.2.2.2⟩ hS1 hl hB)
  · refine va_putN (v := Value.null) hx hbb hts h4 (zTy ci) h8 h7 hown hK hH.2.2.1 hH.2.2.2.1 hS b he h1 j h3 (va_Nw.use rfl (hG.2.2.2.2.1 _ h6)) (fun x hx => by rw [h5] at hx; exact hx) hfin hp hnr hft hlen dg (fun H1 locs1 hP1 hD1 hS1 => ?_)
    rw [hw9] at hP1 hD1
    exact (k p l e R s m args below meth c D A tc adK adV C σ0 n0 σ H1 locs1 ls cells slots mc ms ⟨hH.1, hH.2.1, hP1, hD1, hH.2.2.2.2⟩ hS1 hl hB)
theorem zA_vret (hr : ret = none) (dg : decode cc pc = .ok (.return_, 1)) : zAW y cc nL ret d pc L [] n S μ (.inl none, n, S, μ, 0, 0) := by
  intro p l e R s m args below meth c D A tc adK adV C σ0 n0 σ H locs ls cells slots mc ms hH hS hl hB
  obtain ⟨hx, hbb, -, -, hrt, hlk, -, -, -, -, -, -, -⟩ := id C
  refine vx_ret (W.widen (k := mc) (n := ms) (by have := hB.1; omega) (by have := hB.2.1; omega) ?_)
  refine W.vret hx hbb (by rw [hrt, hr]) (fun t ht hW => ⟨⟨σ, none, rfl, rfl, hH.2.1, by rw [ht]; exact hH.2.2.1, hH.2.2.2⟩, hS.F ht⟩) (fun z hz => hS.2.2 z hz) dg hlk
theorem zcA {s : State} {tc : Nat → ClassId} {D : va_G} {cA : ClassId} {ty : FieldType} (i : Nat) (hi : (zTys tc)[i]? = some (tc i, ty)) (hp : ∀ C, ty ≠ .object C) (hK : va_K D zCl (zTys tc) s) (hK2 : va_K D zCl (zTys tc ++ [(cA, ty)]) s) : cA = tc i := by
  have h1 := (hK.2 i _ hi).2
  have h2 := (hK2.2 6 (cA, ty) rfl).2
  cases ty <;> first | exact absurd rfl (hp _) | exact Option.some.inj (h2.symm.trans h1)
theorem zA_newi {N : Nat} {w : Int32} {b : Nat} {sh : zSh} (hwf : zWf n S) (hs : S b = sh) (hb : b < n) (hn : n < 1000000) (hL : ∀ v ∈ L, v ≠ .ref n) (hst : ∀ v ∈ st, v ≠ .ref n) (hw : Cond.arrayClass .int ∈ zTb) (hw0 : ¬ w < 0) (hN : w.toNatClampNeg = N) (hby : N * 4 ≤ 536870912) (dg : decode cc pc = .ok (.newarray .int, 2))
    (k : zWf (n + 1) (zupS S n (1, 0, N, zn)) → zupS S n (1, 0, N, zn) b = sh → zAW y cc nL ret d (pc + 2) L (.ref n :: st) (n + 1) (zupS S n (1, 0, N, zn)) (zup μ n (fun _ => 0)) (res, n', S', μ', ca, cb)) : zAW y cc nL ret d (pc) L (.int w :: st) (n) (S) (μ) (res, n', S', μ', ca + 1, cb + N) := by
  intro p l e R s m args below meth c D A tc adK adV C σ0 n0 σ H locs ls cells slots mc ms hH hS hl hB
  have k := k (zWf_new hwf (fun j r h => by cases (show (none : Option Nat) = some r from h))) (by rw [zupS_ne (by omega)]; exact hs)
  obtain ⟨hx, hbb, -, hown, -, -, hnm, -, hts, hK, hA, hG, -⟩ := id C
  have hB' : cells + (ca + 1) ≤ mc ∧ slots + (cb + N) ≤ ms ∧ mc ≤ R.cells ∧ ms ≤ R.slots := hB
  refine va_newa (a0 := (N, .inl (fun _ => 0))) (atype := .int) (ty := .int) hx hbb (hts _ hw) rfl hK hH.2.2.1 hH.2.2.2.1 hS hA (fun cA => rfl) hw0 hN hby (by omega) (by omega) dg (fun q cA H1 hK1 hP1 hD1 hS1 => ?_)
  obtain rfl := zcA 0 rfl (fun C h => by cases h) hK hK1
  have hH1 := zHe_new (sh := (1, 0, N, zn)) (f := fun _ => 0) hwf hn rfl hH hP1 hD1
  have kk := (k p l e R s m args below meth c D A tc adK adV C σ0 n0 (zus σ n q) H1 locs ls (cells + 1) (slots + N) mc ms hH1 hS1 (zL_us hL hl) ⟨by show cells + 1 + ca ≤ mc; omega, by show slots + N + cb ≤ ms; omega, hB.2.2.1, hB.2.2.2⟩)
  rw [List.map_cons, map_us hst] at kk
  have e1 : cv (zus σ n q) (.ref n) = .ref q := congrArg Value.ref (if_pos rfl)
  rw [e1] at kk
  exact kk
theorem zA_newz {N : Nat} {w : Int32} {b : Nat} {sh : zSh} (hwf : zWf n S) (hs : S b = sh) (hb : b < n) (hn : n < 1000000) (hL : ∀ v ∈ L, v ≠ .ref n) (hst : ∀ v ∈ st, v ≠ .ref n) (hw : Cond.arrayClass .boolean ∈ zTb) (hw0 : ¬ w < 0) (hN : w.toNatClampNeg = N) (hby : N * 1 ≤ 536870912) (dg : decode cc pc = .ok (.newarray .boolean, 2))
    (k : zWf (n + 1) (zupS S n (1, 1, N, zn)) → zupS S n (1, 1, N, zn) b = sh → zAW y cc nL ret d (pc + 2) L (.ref n :: st) (n + 1) (zupS S n (1, 1, N, zn)) (zup μ n (fun _ => 0)) (res, n', S', μ', ca, cb)) : zAW y cc nL ret d (pc) L (.int w :: st) (n) (S) (μ) (res, n', S', μ', ca + 1, cb + N) := by
  intro p l e R s m args below meth c D A tc adK adV C σ0 n0 σ H locs ls cells slots mc ms hH hS hl hB
  have k := k (zWf_new hwf (fun j r h => by cases (show (none : Option Nat) = some r from h))) (by rw [zupS_ne (by omega)]; exact hs)
  obtain ⟨hx, hbb, -, hown, -, -, hnm, -, hts, hK, hA, hG, -⟩ := id C
  have hB' : cells + (ca + 1) ≤ mc ∧ slots + (cb + N) ≤ ms ∧ mc ≤ R.cells ∧ ms ≤ R.slots := hB
  refine va_newa (a0 := (N, .inl (fun _ => 0))) (atype := .boolean) (ty := .boolean) hx hbb (hts _ hw) rfl hK hH.2.2.1 hH.2.2.2.1 hS hA (fun cA => rfl) hw0 hN hby (by omega) (by omega) dg (fun q cA H1 hK1 hP1 hD1 hS1 => ?_)
  obtain rfl := zcA 1 rfl (fun C h => by cases h) hK hK1
  have hH1 := zHe_new (sh := (1, 1, N, zn)) (f := fun _ => 0) hwf hn rfl hH hP1 hD1
  have kk := (k p l e R s m args below meth c D A tc adK adV C σ0 n0 (zus σ n q) H1 locs ls (cells + 1) (slots + N) mc ms hH1 hS1 (zL_us hL hl) ⟨by show cells + 1 + ca ≤ mc; omega, by show slots + N + cb ≤ ms; omega, hB.2.2.1, hB.2.2.2⟩)
  rw [List.map_cons, map_us hst] at kk
  have e1 : cv (zus σ n q) (.ref n) = .ref q := congrArg Value.ref (if_pos rfl)
  rw [e1] at kk
  exact kk
/-- a new object of class ci -/
theorem zA_new {ci b : Nat} {sh : zSh} {CC : String} {T : u_T} {N : Nat} (hwf : zWf n S) (hs : S b = sh) (hb : b < n) (hn : n < 1000000) (hL : ∀ v ∈ L, v ≠ .ref n) (hst : ∀ v ∈ st, v ≠ .ref n) (hc : zCl[ci]? = some (CC, T, N)) (hN : N = zNf ci) (hu : ∀ w ∈ u_ws CC T N, w ∈ zTb) (hty : ∀ k, k < N → parseFieldDescriptor (T k).2.2.1 = some (zTy ci k)) (hlk : Cond.classLink y.cls idx CC ∈ zTb) (hin : Cond.instantiable CC N ∈ zTb) (hini : Cond.initialized CC ∈ zTb) (hd0 : ∀ j, j < N → defaultValue (zTy ci j) = if zInt ci j = true then .int 0 else .null) (dg : decode cc pc = .ok (.new idx, 3))
    (k : zWf (n + 1) (zupS S n (0, ci, 0, zn)) → zupS S n (0, ci, 0, zn) b = sh → zAW y cc nL ret d (pc + 3) L (.ref n :: st) (n + 1) (zupS S n (0, ci, 0, zn)) (zup μ n (fun _ => 0)) (res, n', S', μ', ca, cb)) : zAW y cc nL ret d (pc) L (st) (n) (S) (μ) (res, n', S', μ', ca + 1, cb + N) := by
  intro p l e R s m args below meth c D A tc adK adV C σ0 n0 σ H locs ls cells slots mc ms hH hS hl hB
  have k := k (zWf_new hwf (fun j r h => by cases (show (none : Option Nat) = some r from h))) (by rw [zupS_ne (by omega)]; exact hs)
  obtain ⟨hx, hbb, -, hown, -, -, hnm, -, hts, hK, hA, hG, -⟩ := id C
  have hB' : cells + (ca + 1) ≤ mc ∧ slots + (cb + N) ≤ ms ∧ mc ≤ R.cells ∧ ms ≤ R.slots := hB
  have hfs : ∀ j, j < N → defaultValue (zTy ci j) = vp_V (zFs σ ci zn (fun _ => 0)) j := fun j hj => by
    rw [hd0 j hj]
    unfold vp_V zFs
    rw [List.getD_eq_getElem?_getD, List.getElem?_map, List.getElem?_range (by omega)]
    unfold zFld
    by_cases hz : zInt ci j = true
    · simp [hz]
    · simp [hz, zn, va_rf]
  refine va_new (fs := zFs σ ci zn (fun _ => 0)) hx hbb hts hu (zTy ci) hty hown (hts _ hlk) (hts _ hin) (hts _ hini) hK hH.2.2.1 hH.2.2.2.1 hS hA hc hfs (by omega) (by omega) dg (fun q H1 hP1 hD1 hS1 => ?_)
  have hH1 := zHe_new (sh := (0, ci, 0, zn)) (f := fun _ => 0) hwf hn (e := .inr (ci, zFs σ ci zn (fun _ => 0))) (by rw [zE_congr (σ := σ) (σ' := zus σ n q) (sh := (0, ci, 0, zn)) (fun j r h => by cases (show (none : Option Nat) = some r from h))]; rfl) hH hP1 hD1
  have kk := (k p l e R s m args below meth c D A tc adK adV C σ0 n0 (zus σ n q) H1 locs ls (cells + 1) (slots + N) mc ms hH1 hS1 (zL_us hL hl) ⟨by show cells + 1 + ca ≤ mc; omega, by show slots + N + cb ≤ ms; omega, hB.2.2.1, hB.2.2.2⟩)
  rw [List.map_cons, map_us hst] at kk
  have e1 : cv (zus σ n q) (.ref n) = .ref q := congrArg Value.ref (if_pos rfl)
  rw [e1] at kk
  exact kk
theorem zA_newq {N b : Nat} {w : Int32} {sh : zSh} (hwf : zWf n S) (hs : S b = sh) (hb : b < n) (hn : n < 1000000) (hL : ∀ v ∈ L, v ≠ .ref n) (hst : ∀ v ∈ st, v ≠ .ref n) (hlk : Cond.classLink y.cls idx RX5 ∈ zTb) (hov : Cond.arrayOver (.object RX5) ∈ zNs) (hw0 : ¬ w < 0) (hN : w.toNatClampNeg = N) (hby : N * 4 ≤ 536870912) (dg : decode cc pc = .ok (.anewarray idx, 3))
    (k : zWf (n + 1) (zupS S n (2, 4, N, zn)) → zupS S n (2, 4, N, zn) b = sh → zAW y cc nL ret d (pc + 3) L (.ref n :: st) (n + 1) (zupS S n (2, 4, N, zn)) (zup μ n (fun _ => 0)) (res, n', S', μ', ca, cb)) : zAW y cc nL ret d (pc) L (.int w :: st) (n) (S) (μ) (res, n', S', μ', ca + 1, cb + N) := by
  intro p l e R s m args below meth c D A tc adK adV C σ0 n0 σ H locs ls cells slots mc ms hH hS hl hB
  have k := k (zWf_new hwf (fun j r h => by cases (show (none : Option Nat) = some r from h))) (by rw [zupS_ne (by omega)]; exact hs)
  obtain ⟨hx, hbb, -, hown, -, -, hnm, -, hts, hK, hA, hG, -⟩ := id C
  have hB' : cells + (ca + 1) ≤ mc ∧ slots + (cb + N) ≤ ms ∧ mc ≤ R.cells ∧ ms ≤ R.slots := hB
  refine va_newq hx hbb hown (hts _ hlk) (hG.2.2.2.2.1 _ hov) hK hH.2.2.1 hH.2.2.2.1 hS hA hw0 hN hby (by omega) (by omega) dg (fun q cA H1 hK1 hP1 hD1 hS1 => ?_)
  obtain rfl : cA = tc 4 := by
    have h1 := (hK.2 4 _ rfl).2
    have h2 := (hK1.2 6 (cA, .object RX5) rfl).2
    obtain ⟨-, -, -, -, -, h3⟩ := h1
    obtain ⟨-, -, -, -, -, h4⟩ := h2
    exact Option.some.inj (h4.symm.trans h3)
  have hH1 := zHe_new (sh := (2, 4, N, zn)) (f := fun _ => 0) hwf hn rfl hH hP1 hD1
  have kk := (k p l e R s m args below meth c D A tc adK adV C σ0 n0 (zus σ n q) H1 locs ls (cells + 1) (slots + N) mc ms hH1 hS1 (zL_us hL hl) ⟨by show cells + 1 + ca ≤ mc; omega, by show slots + N + cb ≤ ms; omega, hB.2.2.1, hB.2.2.2⟩)
  rw [List.map_cons, map_us hst] at kk
  have e1 : cv (zus σ n q) (.ref n) = .ref q := congrArg Value.ref (if_pos rfl)
  rw [e1] at kk
  exact kk
theorem zA_aast {a N x b zz : Nat} {i : Int32} {rf rx : Nat → Option Nat} {sh : zSh} (hwf : zWf n S) (hs : S b = sh) (hb : b ≠ a) (ha : a < n) (hx9 : x < n) (hsa : S a = (2, 4, N, rf)) (hsx : S x = (0, 5, zz, rx)) (hi : vp_in i N) (dg : decode cc pc = .ok (.aastore, 1))
    (k : zWf n (zupS S a (2, 4, N, fun j => if j = i.toNatClampNeg then some x else rf j)) → zupS S a (2, 4, N, fun j => if j = i.toNatClampNeg then some x else rf j) b = sh → zupS S a (2, 4, N, fun j => if j = i.toNatClampNeg then some x else rf j) a = (2, 4, N, fun j => if j = i.toNatClampNeg then some x else rf j) → zAW y cc nL ret d (pc + 1) L (st) (n) (zupS S a (2, 4, N, fun j => if j = i.toNatClampNeg then some x else rf j)) (μ) (o)) : zAW y cc nL ret d (pc) L (.ref x :: .int i :: .ref a :: st) (n) (S) (μ) (o) := by
  intro p l e R s m args below meth c D A tc adK adV C σ0 n0 σ H locs ls cells slots mc ms hH hS hl hB
  have k := k (zWf_put hwf ha hsa hx9) (by rw [zupS_ne hb]; exact hs) zupS_self
  obtain ⟨hx, hbb, -, hown, -, -, hnm, -, hts, hK, hA, hG, -⟩ := id C
  have he := zW_get' (σ := σ) (tc := tc) (μ := μ) ha hsa
  rw [zE_ref] at he
  have he2 := zW_get' (σ := σ) (tc := tc) (μ := μ) hx9 hsx
  rw [zE_obj] at he2
  refine va_astq (r := (RX5, TX5, 11)) hx hbb hK hH.2.2.1 hH.2.2.2.1 hS a 4 x 5 he rfl he2 rfl hi dg (fun H1 locs1 hP1 hD1 hS1 => ?_)
  have hw9 : (zW σ tc n S μ).set a (σ a, .inl (tc 4, N, .inr (.inr (.inr (.inr (va_up (fun j => (rf j).map σ) i.toNatClampNeg (some (σ x)))))))) = zW σ tc n (zupS S a (2, 4, N, fun j => if j = i.toNatClampNeg then some x else rf j)) μ := by
    apply List.ext_getElem?
    intro q
    by_cases hq9 : q < n
    · rw [zW_get hq9]
      by_cases hk : q = a
      · subst hk
        rw [List.getElem?_set_self (by unfold zW; rw [List.length_map, List.length_range]; exact hq9), zupS_self, zE_ref]
        have e9 : (va_up (fun j => (rf j).map σ) i.toNatClampNeg (some (σ x))) = fun j => (if j = i.toNatClampNeg then some x else rf j).map σ := by
          funext j
          unfold va_up
          by_cases hj : j = i.toNatClampNeg
          · rw [if_pos hj, if_pos hj]; rfl
          · rw [if_neg hj, if_neg hj]
        rw [e9]
      · rw [List.getElem?_set_ne (fun z => hk z.symm), zW_get hq9, zupS_ne hk]
    · rw [zW_none hq9, List.getElem?_eq_none (by rw [List.length_set]; unfold zW; rw [List.length_map, List.length_range]; omega)]
  rw [hw9] at hP1 hD1
  exact (k p l e R s m args below meth c D A tc adK adV C σ0 n0 σ H1 locs1 ls cells slots mc ms ⟨hH.1, hH.2.1, hP1, hD1, hH.2.2.2.2⟩ hS1 hl hB)
/-- the call of a constructor: it makes a cells of b slots -/
theorem zA_callI {b na a1 b1 n1 : Nat} {As stk : List Value} {S1 : Nat → zSh} {μ1 : zMem} (hw : zCk y.cls idx y' cc' nL' none na) (hi9 : Cond.instanceMethod y' ∈ zTb) (hnm9 : y'.name = "<init>") (hM : zM y' cc' nL' none d' (.ref b :: As) n S μ (.inl none, n1, S1, μ1, a1, b1)) (hd : d' + 1 ≤ d) (hn : As.length = na) (hst9 : stk = As.reverse ++ .ref b :: st) (hrm : (st.map (fun v => v.category)).sum ≤ 8) (hn1 : n ≤ n1) (hn2 : n1 ≤ 1000000)
    (hL : ∀ v ∈ L, ∀ q, v = .ref q → q < n ∨ 1000000 ≤ q) (hst : ∀ v ∈ st, ∀ q, v = .ref q → q < n ∨ 1000000 ≤ q) (dg : decode cc pc = .ok (.invokespecial idx, 3))
    (k : zAW y cc nL ret d (pc + 3) L (st) (n1) (S1) (μ1) (res, n', S', μ', ca, cb)) : zAW y cc nL ret d (pc) L (stk) (n) (S) (μ) (res, n', S', μ', ca + a1, cb + b1) := by
  intro p l e R s m args below meth c D A tc adK adV C σ0 n0 σ H locs ls cells slots mc ms hH hS hl hB
  subst hst9
  obtain ⟨h1, h2, h3, h4, h5⟩ := hw
  obtain ⟨hx, hbb, hml, hown, -, -, -, -, hts, hK, hA, hG, hstt, hfr, hlo⟩ := id C
  have hB' : cells + (ca + a1) ≤ mc ∧ slots + (cb + b1) ≤ ms ∧ mc ≤ R.cells ∧ ms ≤ R.slots := hB
  have hMM := zM_met (v := none) rfl hM l D tc adK adV σ H.size hstt
  have hpre : PreS s H (zPc D tc adK adV σ (.ref b :: As) n S μ H.size) (.ref (σ b) :: As.map (cv σ)) := ⟨zPc_blind, fun U hU hW => z_pre C hH hS (avs := .ref b :: As) U hU hW⟩
  have hstk : (F0 m pc ls ((As.reverse ++ Value.ref b :: st).map (cv σ))).stack = (As.map (cv σ)).reverse ++ .ref (σ b) :: st.map (cv σ) := zRmap
  have hroom : (zRm d' a1 b1).frames + 1 ≤ R.frames ∧ 8 + (nL' + 11) + (zRm d' a1 b1).locals ≤ R.locals := ⟨Nat.le_trans hd hfr, by show 8 + (nL' + 11) + 41 * d' ≤ R.locals; omega⟩
  have hrun : va_Run p l e R s m args below meth c H locs cells slots a1 b1 (F0 m pc ls ((As.reverse ++ Value.ref b :: st).map (cv σ))) (st.map (cv σ)) (zQc D (zA σ n H.size) tc adK σ n (.inl none, n1, S1, μ1, a1, b1) (Value.ref (σ b) :: As.map (cv σ)).toArray) (zA σ n H.size) := by
    rcases h5 with h5 | ⟨host, h5⟩
    · exact va_runI ⟨hx, hbb, hml, hown, hts⟩ hMM ⟨callB_of na hts (zWs_good h1) rfl rfl rfl (hts _ h2) (hts _ h5) h4 hroom, hnm9, hts _ hi9⟩ hpre rfl (by rw [List.length_map, hn]) hl.1.1 hstk (zroom hrm) dg ⟨by omega, by omega⟩
    · exact va_runIN ⟨hx, hbb, hml, hown, hts⟩ hMM ⟨va_cnB na hts (zWs_good h1) rfl rfl rfl (hG.2.2.2.2.1 _ h5) (hts _ h2) h4 hroom, hnm9, hts _ hi9⟩ hpre rfl (by rw [List.length_map, hn]) hl.1.1 hstk (zroom hrm) dg ⟨by omega, by omega⟩
  refine z_cont C hH hS (v := none) (o1 := (.inl none, n1, S1, μ1, a1, b1)) rfl hn1 hrun (fun σ1 H1 locs1 hH1 hσ hσ2 hS1 => ?_)
  have hsame : ∀ v : Value, (∀ q, v = .ref q → q < n ∨ 1000000 ≤ q) → cv σ1 v = cv σ v := fun v hv => by
    cases v <;> first | rfl | (rename_i q; rcases hv q rfl with h | h; exact congrArg Value.ref (hσ q h); exact congrArg Value.ref (by obtain ⟨j, rfl⟩ := Nat.exists_eq_add_of_le h; rw [hH1.2.1.2 j, hH.2.1.2 j]))
  have hl1 : zL σ1 nL L ls := by
    refine ⟨⟨hl.1.1, hl.1.2.1, fun x hx => ?_⟩, hl.2⟩
    obtain ⟨v, g1, g2, g3⟩ := zls_inv hx
    rw [g3, hsame v (hL v (List.mem_of_getElem? g1))]
    exact zL_at hl g1 g2
  have hst1 : st.map (cv σ1) = st.map (cv σ) := List.map_congr_left (fun v hv => hsame v (hst v hv))
  have kk := (k p l e R s m args below meth c D A tc adK adV C σ0 n0 σ1 H1 locs1 ls (cells + a1) (slots + b1) mc ms hH1 hS1 hl1 ⟨by show cells + a1 + ca ≤ mc; omega, by show slots + b1 + cb ≤ ms; omega, hB.2.2.1, hB.2.2.2⟩)
  rw [hst1] at kk
  exact kk
theorem zA_mna {N M t0 t b : Nat} {w v : Int32} {ty : FieldType} {sh : zSh} (hwf : zWf n S) (hs : S b = sh) (hb : b < n) (hn : n + 1 + N ≤ 1000000) (hL : ∀ v ∈ L, ∀ q, v = .ref q → q < n ∨ 1000000 ≤ q) (hst : ∀ v ∈ st, ∀ q, v = .ref q → q < n ∨ 1000000 ≤ q) (hlk : Cond.classLink y.cls idx ("[" ++ (FieldType.array ty).toString) ∈ zTb) (hov : Cond.arrayOver (.array ty) ∈ zNs) (har : Cond.arrayClass ty ∈ zTb) (htt : (ty = .int ∧ t0 = 0 ∧ t = 2) ∨ (ty = .boolean ∧ t0 = 1 ∧ t = 3)) (hw0 : ¬ w < 0) (hv0 : ¬ v < 0) (hN : w.toNatClampNeg = N) (hM : v.toNatClampNeg = M) (hby : N * 4 ≤ 536870912 ∧ M * 4 ≤ 536870912) (dg : decode cc pc = .ok (.multianewarray idx 2, 4))
    (k : zWf (n + 1 + N) (zupM S n N t t0 M) → zupM S n N t t0 M b = sh → zAW y cc nL ret d (pc + 4) L (.ref n :: st) (n + 1 + N) (zupM S n N t t0 M) (zupN μ n N) (res, n', S', μ', ca, cb)) : zAW y cc nL ret d (pc) L (.int v :: .int w :: st) (n) (S) (μ) (res, n', S', μ', ca + (1 + N), cb + (N + N * M)) := by
  intro p l e R s m args below meth c D A tc adK adV C σ0 n0 σ H locs ls cells slots mc ms hH hS hl hB
  have k := k (zWf_mat hwf) (by rw [zupM_old hb]; exact hs)
  obtain ⟨hx, hbb, -, hown, -, -, hnm, -, hts, hK, hA, hG, -⟩ := id C
  have hB' : cells + (ca + (1 + N)) ≤ mc ∧ slots + (cb + (N + N * M)) ≤ ms ∧ mc ≤ R.cells ∧ ms ≤ R.slots := hB
  have hT : (zTys tc)[t0]? = some (tc t0, ty) ∧ (zTys tc)[t]? = some (tc t, .array ty) ∧ (∀ C, ty ≠ .object C) ∧ defaultValue ty = .int 0 ∧ M * componentBytes ty ≤ 536870912 := by
    rcases htt with ⟨rfl, rfl, rfl⟩ | ⟨rfl, rfl, rfl⟩
    · exact ⟨rfl, rfl, (fun C h => by cases h), rfl, hby.2⟩
    · exact ⟨rfl, rfl, (fun C h => by cases h), rfl, by have h1 := hby.2; show M * 1 ≤ _; omega⟩
  obtain ⟨hT0, hT1, hT2, hT3, hT4⟩ := hT
  have hcy : s.vm.findClass (FieldType.array ty).toString = some (tc t0) := by
    have h1 := (hK.2 t0 _ hT0).2
    rcases htt with ⟨rfl, rfl, rfl⟩ | ⟨rfl, rfl, rfl⟩
    · exact h1
    · exact h1
  have hz : ∀ c9 : ClassId, Jvm.Free.Multi.innerC c9 M (defaultValue ty) = vp_cell c9 (M, .inl (fun _ => 0)) := fun c9 => by
    rw [hT3]
    exact arrV_new c9 M (.int 0)
  have hP0 : va_P D zCl (zW σ tc n S μ ++ va_pl [] (fun _ => .inr (0, []))) H := by rw [show va_pl [] (fun _ => (.inr (0, []) : va_E)) = [] from rfl, List.append_nil]; exact hH.2.2.1
  have hD0 : va_D A (zW σ tc n S μ ++ va_pl [] (fun _ => .inr (0, []))) := by rw [show va_pl [] (fun _ => (.inr (0, []) : va_E)) = [] from rfl, List.append_nil]; exact hH.2.2.2.1
  refine va_mna hx hbb hown (hts _ hlk) (hG.2.2.2.2.1 _ hov) (hts _ har) hcy hK hP0 hD0 hS hA hw0 hv0 hN hM hby.1 hT4 (by have := hby.2; omega) (by rw [hT3]; rcases htt with ⟨rfl, -⟩ | ⟨rfl, -⟩ <;> rfl) (by rw [hT3]; rfl) (by omega) (by omega) hz dg (fun q rr cA H1 hinj hnl hK1 hP1 hD1 hS1 => ?_)
  obtain rfl : cA = tc t := by
    have h1 := (hK.2 t _ hT1).2
    have h2 := (hK1.2 6 (cA, .array ty) rfl).2
    exact Option.some.inj (h2.symm.trans h1)
  have hlen : (zW σ tc n S μ).length = n := by unfold zW; rw [List.length_map, List.length_range]
  have hW9 : (zW σ tc n S μ ++ [(q, .inl (tc t, N, .inr (.inr (.inr (.inr (fun i => if i < N then some (rr i) else none))))))]) ++ va_pl ([] ++ (List.range N).map rr) (vr_up (fun _ => .inr (0, [])) ((List.range N).map rr) (.inl (tc t0, (M, .inl (fun _ => 0))))) = zW (zum σ n N q rr) tc (n + 1 + N) (zupM S n N t t0 M) (zupN μ n N) := by
    apply List.ext_getElem?
    intro i
    by_cases h1 : i < n
    · rw [List.getElem?_append_left (by rw [List.length_append, hlen]; simp; omega), List.getElem?_append_left (by rw [hlen]; exact h1), zW_get h1, zW_get (by omega), zum_old h1, zupM_old h1, zupN_old h1, zE_congr (σ := σ) (σ' := zum σ n N q rr) (fun j r hr => zum_old (hwf i j r h1 hr))]
    · by_cases h2 : i = n
      · subst h2
        rw [List.getElem?_append_left (by rw [List.length_append, hlen]; simp), List.getElem?_append_right (by rw [hlen]; exact Nat.le_refl _), hlen, Nat.sub_self, zW_get (by omega)]
        have e1 : zum σ i N q rr i = q := if_pos rfl
        have e2 : zupM S i N t t0 M i = (2, t, N, zrw N (i + 1)) := if_pos rfl
        rw [e1, e2, zE_ref]
        have e3 : (fun j => (zrw N (i + 1) j).map (zum σ i N q rr)) = fun j => if j < N then some (rr j) else none := by
          funext j
          unfold zrw
          by_cases hj : j < N
          · rw [if_pos hj, if_pos hj]
            show some (zum σ i N q rr (i + 1 + j)) = some (rr j)
            rw [zum_row hj]
          · rw [if_neg hj, if_neg hj]; rfl
        rw [e3]
        rfl
      · by_cases h3 : i < n + 1 + N
        · obtain ⟨j, rfl⟩ : ∃ j, i = n + 1 + j := ⟨i - (n + 1), by omega⟩
          have hj : j < N := by omega
          rw [List.getElem?_append_right (by rw [List.length_append, hlen]; simp <;> omega), List.length_append, hlen, zW_get h3, zum_row hj]
          have e2 : zupM S n N t t0 M (n + 1 + j) = (1, t0, M, zn) := by unfold zupM; rw [if_neg (by omega), if_pos (by omega)]
          have e4 : zupN μ n N (n + 1 + j) = fun _ => 0 := by unfold zupN; rw [if_pos (by omega)]
          rw [e2, e4, zE_arr]
          show (va_pl ([] ++ (List.range N).map rr) _)[n + 1 + j - (n + 1)]? = _
          rw [show n + 1 + j - (n + 1) = j by omega, List.nil_append]
          unfold va_pl
          rw [List.getElem?_map, List.getElem?_map, List.getElem?_range hj]
          show some (rr j, vr_up _ _ _ (rr j)) = _
          rw [vr_up_in (List.mem_map.mpr ⟨j, List.mem_range.mpr hj, rfl⟩)]
        · rw [zW_none h3, List.getElem?_eq_none]
          unfold va_pl
          rw [List.length_append, List.length_append, hlen, List.length_map, List.nil_append, List.length_map, List.length_range]
          simp
          omega
  rw [hW9] at hP1 hD1
  have g1 := hH.1
  have hH1 : n0 ≤ n + 1 + N ∧ zHe D A tc adK σ0 n0 (zum σ n N q rr) (n + 1 + N) (zupM S n N t t0 M) (zupN μ n N) H1 := ⟨by omega, ⟨fun k9 hk9 => by rw [zum_old (by omega)]; exact hH.2.1.1 k9 hk9, fun i => by rw [← hH.2.1.2 i]; exact zum_far (by omega)⟩, hP1, hD1, fun e9 => by omega⟩
  have hsame : ∀ v : Value, (∀ q, v = .ref q → q < n ∨ 1000000 ≤ q) → cv (zum σ n N q rr) v = cv σ v := fun v hv => cv_um (fun q9 e9 => by
    rcases hv q9 e9 with h | h
    · exact Or.inl h
    · exact Or.inr (Nat.le_trans hn h))
  have hl1 : zL (zum σ n N q rr) nL L ls := by
    refine ⟨⟨hl.1.1, hl.1.2.1, fun x hx => ?_⟩, hl.2⟩
    obtain ⟨v, g1, g2, g3⟩ := zls_inv hx
    rw [g3, hsame v (hL v (List.mem_of_getElem? g1))]
    exact zL_at hl g1 g2
  have hst1 : st.map (cv (zum σ n N q rr)) = st.map (cv σ) := List.map_congr_left (fun v hv => hsame v (hst v hv))
  have kk := (k p l e R s m args below meth c D A tc adK adV C σ0 n0 (zum σ n N q rr) H1 locs ls (cells + 1 + N) (slots + N + N * M) mc ms hH1 hS1 hl1 ⟨by show cells + 1 + N + ca ≤ mc; omega, by show slots + N + N * M + cb ≤ ms; omega, hB.2.2.1, hB.2.2.2⟩)
  rw [List.map_cons, hst1] at kk
  have e1 : cv (zum σ n N q rr) (.ref n) = .ref q := congrArg Value.ref (if_pos rfl)
  rw [e1] at kk
  exact kk
/-- the shapes and numbers below n alone count -/
theorem zA_congr {S2 : Nat → zSh} {μ2 : zMem} (h : ∀ k, k < n → S k = S2 k ∧ μ k = μ2 k) (k : zAW y cc nL ret d (pc) L (st) (n) (S2) (μ2) (o)) : zAW y cc nL ret d (pc) L (st) (n) (S) (μ) (o) := by
  intro p l e R s m args below meth c D A tc adK adV C σ0 n0 σ H locs ls cells slots mc ms hH hS hl hB
  have ez : zW σ tc n S μ = zW σ tc n S2 μ2 := by
    unfold zW
    apply List.map_congr_left
    intro q hq
    obtain ⟨h1, h2⟩ := h q (List.mem_range.mp hq)
    rw [h1, h2]
  exact (k p l e R s m args below meth c D A tc adK adV C σ0 n0 σ H locs ls cells slots mc ms ⟨hH.1, hH.2.1, ez ▸ hH.2.2.1, ez ▸ hH.2.2.2.1, hH.2.2.2.2⟩ hS hl hB)
end ZA
